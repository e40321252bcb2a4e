set_option maxRecDepth 100000 in
set_option maxHeartbeats 4000000 in
theorem c_X5_minds_bad (l : Launch) (G : Gd) (s : Int32) (i : Int32) (h : Int32) (n : Int32) (o : Nat) (An : Nat → Nat) (Ak : Nat → Nat) (At : Nat → Nat) (Ad : Nat → Nat) (kk : Int32) (tp : Nat) (rw : Nat) (rc : Nat) (sh : Nat) (sf : Nat) (de : Nat) (la : Nat → Int32) (ns : Nat) (sd : Nat) (to : Nat → Int32) (he : Nat → Int32) (sw : Nat → Int32) (nh : Nat) (ki : Nat → Int32) (te : Nat → Int32) (mi : Nat → Int32) (ar : Nat → Int32) (z : Int32) (hw : ¬ ((0 ≤ s ∧ s ≤ 3) ∧ (0 ≤ h ∧ h ≤ nI nh - 1) ∧ (0 ≤ n ∧ n ≤ 8))) : Ct l G yX5_minds cX5_minds 7 (some (FieldType.int)) 2 [.ref o, .int s, .int i, .int h, .int n] (wF [wMe o (An 0) (Ak 0) (At 0) (Ad 0) kk tp rw rc sh sf de, wCt G An la ns sd to he sw nh ki te mi ar z]) (some (.int (-1))) (wF [wMe o (An 0) (Ak 0) (At 0) (Ad 0) kk tp rw rc sh sf de, wCt G An la ns sd to he sw nh ki te mi ar z]) := by
  refine Ct.of "GooseArms" [some (.ref o), some (.int s), some (.int i), some (.int h), some (.int n), none, none] (by decide +kernel) rfl (Nat.le_of_ble_eq_true rfl) rfl ?_
  refine J_iload_n 0 1 dX5_minds_0 rfl rfl ?_
  refine kb_RX5_219 (bs' := [wMe o (An 0) (Ak 0) (At 0) (Ad 0) kk tp rw rc sh sf de, wCt G An la ns sd to he sw nh ki te mi ar z]) (rest := []) (st' := [.int (bI (0 ≤ s ∧ s ≤ 3))]) 1 (c_X5_isPlace l G s ) [] rfl rfl [] rfl rfl rfl rfl rfl rfl (Nat.le_of_ble_eq_true rfl) rfl dX5_minds_1 ?_
  refine J_ifB_eq (tgt := 40) 4 dX5_minds_4 (by decide) (fun c_1_ => ?_) (fun c_1_ => ?_)
  · skip
    refine J_iconst (v := (-1)) 40 dX5_minds_40 rfl ?_
    exact J_iret 41 dX5_minds_41 rfl rfl
  · skip
    refine J_aload_n 7 0 dX5_minds_7 rfl rfl ?_
    refine J_iload_n 8 3 dX5_minds_8 rfl rfl ?_
    refine kb_RX5_135 (bs' := [wMe o (An 0) (Ak 0) (At 0) (Ad 0) kk tp rw rc sh sf de, wCt G An la ns sd to he sw nh ki te mi ar z]) (rest := []) (st' := [.int (bI (0 ≤ h ∧ h ≤ nI nh - 1))]) 9 (c_X5_isHearer l G h o An Ak At Ad kk tp rw rc sh sf de la ns sd to he sw nh ki te mi ar z ) [0, 1] 0 rfl rfl rfl [[o], [An 0, An 1, An 2, An 3, An 4, An 5, An 6, An 7, An 8]] rfl rfl rfl rfl rfl rfl (Nat.le_of_ble_eq_true rfl) rfl dX5_minds_9 ?_
    refine J_ifB_eq (tgt := 40) 12 dX5_minds_12 (by decide) (fun c_2_ => ?_) (fun c_2_ => ?_)
    · skip
      refine J_iconst (v := (-1)) 40 dX5_minds_40 rfl ?_
      exact J_iret 41 dX5_minds_41 rfl rfl
    · skip
      refine J_iload 15 dX5_minds_15 rfl ?_
      refine J_iconst (v := 0) 17 dX5_minds_17 rfl ?_
      refine J_bipush (v := 8) 18 dX5_minds_18 rfl ?_
      refine kb_RX5_65 (bs' := [wMe o (An 0) (Ak 0) (At 0) (Ad 0) kk tp rw rc sh sf de, wCt G An la ns sd to he sw nh ki te mi ar z]) (rest := []) (st' := [.int (bI (0 ≤ n ∧ n ≤ 8))]) 20 (c_X5_within l G n 0 8 ) [] rfl rfl [] rfl rfl rfl rfl rfl rfl (Nat.le_of_ble_eq_true rfl) rfl dX5_minds_20 ?_
      refine J_ifB_eq (tgt := 40) 23 dX5_minds_23 (by decide) (fun c_3_ => ?_) (fun c_3_ => ?_)
      · skip
        refine J_iconst (v := (-1)) 40 dX5_minds_40 rfl ?_
        exact J_iret 41 dX5_minds_41 rfl rfl
      · skip
        exact absurd ⟨by assumption, by assumption, by assumption⟩ hw
set_option maxRecDepth 100000 in
set_option maxHeartbeats 4000000 in
theorem c_X5_minds_over (l : Launch) (G : Gd) (s : Nat) (i : Int32) (h : Nat) (n : Nat) (o : Nat) (An : Nat → Nat) (Ak : Nat → Nat) (At : Nat → Nat) (Ad : Nat → Nat) (kk : Int32) (tp : Nat) (rw : Nat) (rc : Nat) (sh : Nat) (sf : Nat) (de : Nat) (la : Nat → Int32) (ns : Nat) (sd : Nat) (to : Nat → Int32) (he : Nat → Int32) (sw : Nat → Int32) (nh : Nat) (ki : Nat → Int32) (te : Nat → Int32) (mi : Nat → Int32) (ar : Nat → Int32) (z : Int32) (hh : h < nh) (hnh : nh ≤ 8) (hn : n ≤ 8) (hs : s ≤ 3) (ho : nh < h + n) : Ct l G yX5_minds cX5_minds 7 (some (FieldType.int)) 2 [.ref o, .int (nI s), .int i, .int (nI h), .int (nI n)] (wF [wMe o (An 0) (Ak 0) (At 0) (Ad 0) kk tp rw rc sh sf de, wCt G An la ns sd to he sw nh ki te mi ar z]) (some (.int (-1))) (wF [wMe o (An 0) (Ak 0) (At 0) (Ad 0) kk tp rw rc sh sf de, wCt G An la ns sd to he sw nh ki te mi ar z]) := by
  refine Ct.of "GooseArms" [some (.ref o), some (.int (nI s)), some (.int i), some (.int (nI h)), some (.int (nI n)), none, none] (by decide +kernel) rfl (Nat.le_of_ble_eq_true rfl) rfl ?_
  refine J_iload_n 0 1 dX5_minds_0 rfl rfl ?_
  refine kb_RX5_219 (bs' := [wMe o (An 0) (Ak 0) (At 0) (Ad 0) kk tp rw rc sh sf de, wCt G An la ns sd to he sw nh ki te mi ar z]) (rest := []) (st' := [.int 1]) 1 (c_X5_isPlace_t l G s (by first | omega | assumption)) [] rfl rfl [] rfl rfl rfl rfl rfl rfl (Nat.le_of_ble_eq_true rfl) rfl dX5_minds_1 ?_
  refine J_if_eq (tgt := 40) 4 dX5_minds_4 (by decide) (fun c_1_ => absurd c_1_ (by decide)) (fun _ => ?_)
  refine J_aload_n 7 0 dX5_minds_7 rfl rfl ?_
  refine J_iload_n 8 3 dX5_minds_8 rfl rfl ?_
  refine kb_RX5_135 (bs' := [wMe o (An 0) (Ak 0) (At 0) (Ad 0) kk tp rw rc sh sf de, wCt G An la ns sd to he sw nh ki te mi ar z]) (rest := []) (st' := [.int 1]) 9 (c_X5_isHearer_t l G h o An Ak At Ad kk tp rw rc sh sf de la ns sd to he sw nh ki te mi ar z (by assumption) (by omega)) [0, 1] 0 rfl rfl rfl [[o], [An 0, An 1, An 2, An 3, An 4, An 5, An 6, An 7, An 8]] rfl rfl rfl rfl rfl rfl (Nat.le_of_ble_eq_true rfl) rfl dX5_minds_9 ?_
  refine J_if_eq (tgt := 40) 12 dX5_minds_12 (by decide) (fun c_2_ => absurd c_2_ (by decide)) (fun _ => ?_)
  refine J_iload 15 dX5_minds_15 rfl ?_
  refine J_iconst (v := 0) 17 dX5_minds_17 rfl ?_
  refine J_bipush (v := 8) 18 dX5_minds_18 rfl ?_
  refine kb_RX5_65 (bs' := [wMe o (An 0) (Ak 0) (At 0) (Ad 0) kk tp rw rc sh sf de, wCt G An la ns sd to he sw nh ki te mi ar z]) (rest := []) (st' := [.int 1]) 20 (c_X5_within_t l G (nI n) 0 8 (inL_t (j := n) (m := 8) hn (by decide))) [] rfl rfl [] rfl rfl rfl rfl rfl rfl (Nat.le_of_ble_eq_true rfl) rfl dX5_minds_20 ?_
  refine J_if_eq (tgt := 40) 23 dX5_minds_23 (by decide) (fun c_3_ => absurd c_3_ (by decide)) (fun _ => ?_)
  refine J_iload_n 26 3 dX5_minds_26 rfl rfl ?_
  refine J_iload 27 dX5_minds_27 rfl ?_
  refine J_iadd 29 dX5_minds_29 ?_
  refine J_topi (y := nI (h + n)) 30 (nI_add h n) ?_
  refine J_aload_n 30 0 dX5_minds_30 rfl rfl ?_
  refine g_196 (v := .ref (An 0)) 31 0 rfl rfl dX5_minds_31 ?_
  refine g_53 (v := .int (nI nh)) 34 1 rfl rfl dX5_minds_34 ?_
  refine J_icmp_le (tgt := 42) 37 dX5_minds_37 (by decide) (fun c_4_ => ?_) (fun c_4_ => ?_)
  · skip
    have c_4_ : (h + n) ≤ nh := (nI_leI (a := (h + n)) (b := nh) (by omega) (by omega)).mp c_4_
    omega
  · skip
    have c_4_ : ¬ (h + n) ≤ nh := fun z_ => c_4_ ((nI_leI (a := (h + n)) (b := nh) (by omega) (by omega)).mpr z_)
    refine J_iconst (v := (-1)) 40 dX5_minds_40 rfl ?_
    exact J_iret 41 dX5_minds_41 rfl rfl
set_option maxRecDepth 100000 in
set_option maxHeartbeats 4000000 in
theorem c_X5_minds_miss (l : Launch) (G : Gd) (s : Nat) (i : Int32) (h : Nat) (n : Nat) (Sa : Nat) (o : Nat) (An : Nat → Nat) (Ak : Nat → Nat) (At : Nat → Nat) (Ad : Nat → Nat) (kk : Int32) (tp : Nat) (rw : Nat) (rc : Nat) (sh : Nat) (sf : Nat) (de : Nat) (la : Nat → Int32) (ns : Nat) (sd : Nat) (to : Nat → Int32) (he : Nat → Int32) (sw : Nat → Int32) (nh : Nat) (ki : Nat → Int32) (te : Nat → Int32) (mi : Nat → Int32) (ar : Nat → Int32) (z : Int32) (shf : Nat → Option Nat) (so : Int32) (m : Nat) (im : Nat) (hh : h < nh) (hnh : nh ≤ 8) (hn : n ≤ 8) (hs : s ≤ 3) (hx : shf s = some Sa) (ho : h + n ≤ nh) (hso : so = -1) : Ct l G yX5_minds cX5_minds 7 (some (FieldType.int)) 2 [.ref o, .int (nI s), .int i, .int (nI h), .int (nI n)] (wF [wMe o (An 0) (Ak 0) (At 0) (Ad 0) kk tp rw rc sh sf de, wCt G An la ns sd to he sw nh ki te mi ar z, wQ G sh 4 3 shf, wSh Sa so (nI m) im]) (some (.int (-11))) (wF [wMe o (An 0) (Ak 0) (At 0) (Ad 0) kk tp rw rc sh sf de, wCt G An la ns sd to he sw nh ki te mi ar z, wQ G sh 4 3 shf, wSh Sa so (nI m) im]) := by
  refine Ct.of "GooseArms" [some (.ref o), some (.int (nI s)), some (.int i), some (.int (nI h)), some (.int (nI n)), none, none] (by decide +kernel) rfl (Nat.le_of_ble_eq_true rfl) rfl ?_
  refine J_iload_n 0 1 dX5_minds_0 rfl rfl ?_
  refine kb_RX5_219 (bs' := [wMe o (An 0) (Ak 0) (At 0) (Ad 0) kk tp rw rc sh sf de, wCt G An la ns sd to he sw nh ki te mi ar z, wQ G sh 4 3 shf, wSh Sa so (nI m) im]) (rest := []) (st' := [.int 1]) 1 (c_X5_isPlace_t l G s (by first | omega | assumption)) [] rfl rfl [] rfl rfl rfl rfl rfl rfl (Nat.le_of_ble_eq_true rfl) rfl dX5_minds_1 ?_
  refine J_if_eq (tgt := 40) 4 dX5_minds_4 (by decide) (fun c_1_ => absurd c_1_ (by decide)) (fun _ => ?_)
  refine J_aload_n 7 0 dX5_minds_7 rfl rfl ?_
  refine J_iload_n 8 3 dX5_minds_8 rfl rfl ?_
  refine kb_RX5_135 (bs' := [wMe o (An 0) (Ak 0) (At 0) (Ad 0) kk tp rw rc sh sf de, wCt G An la ns sd to he sw nh ki te mi ar z, wQ G sh 4 3 shf, wSh Sa so (nI m) im]) (rest := []) (st' := [.int 1]) 9 (c_X5_isHearer_t l G h o An Ak At Ad kk tp rw rc sh sf de la ns sd to he sw nh ki te mi ar z (by assumption) (by omega)) [0, 1] 0 rfl rfl rfl [[o], [An 0, An 1, An 2, An 3, An 4, An 5, An 6, An 7, An 8]] rfl rfl rfl rfl rfl rfl (Nat.le_of_ble_eq_true rfl) rfl dX5_minds_9 ?_
  refine J_if_eq (tgt := 40) 12 dX5_minds_12 (by decide) (fun c_2_ => absurd c_2_ (by decide)) (fun _ => ?_)
  refine J_iload 15 dX5_minds_15 rfl ?_
  refine J_iconst (v := 0) 17 dX5_minds_17 rfl ?_
  refine J_bipush (v := 8) 18 dX5_minds_18 rfl ?_
  refine kb_RX5_65 (bs' := [wMe o (An 0) (Ak 0) (At 0) (Ad 0) kk tp rw rc sh sf de, wCt G An la ns sd to he sw nh ki te mi ar z, wQ G sh 4 3 shf, wSh Sa so (nI m) im]) (rest := []) (st' := [.int 1]) 20 (c_X5_within_t l G (nI n) 0 8 (inL_t (j := n) (m := 8) hn (by decide))) [] rfl rfl [] rfl rfl rfl rfl rfl rfl (Nat.le_of_ble_eq_true rfl) rfl dX5_minds_20 ?_
  refine J_if_eq (tgt := 40) 23 dX5_minds_23 (by decide) (fun c_3_ => absurd c_3_ (by decide)) (fun _ => ?_)
  refine J_iload_n 26 3 dX5_minds_26 rfl rfl ?_
  refine J_iload 27 dX5_minds_27 rfl ?_
  refine J_iadd 29 dX5_minds_29 ?_
  refine J_topi (y := nI (h + n)) 30 (nI_add h n) ?_
  refine J_aload_n 30 0 dX5_minds_30 rfl rfl ?_
  refine g_196 (v := .ref (An 0)) 31 0 rfl rfl dX5_minds_31 ?_
  refine g_53 (v := .int (nI nh)) 34 1 rfl rfl dX5_minds_34 ?_
  refine J_icmp_le (tgt := 42) 37 dX5_minds_37 (by decide) (fun c_4_ => ?_) (fun c_4_ => ?_)
  · skip
    have c_4_ : (h + n) ≤ nh := (nI_leI (a := (h + n)) (b := nh) (by omega) (by omega)).mp c_4_
    refine J_aload_n 42 0 dX5_minds_42 rfl rfl ?_
    refine g_204 (v := .ref sh) 43 0 rfl rfl dX5_minds_43 ?_
    refine J_iload_n 46 1 dX5_minds_46 rfl rfl ?_
    refine J_aldq (b := Sa) 47 10 3 s rfl rfl rfl (by omega) (by decide) hx dX5_minds_47 ?_
    refine J_astore (lv' := [some (.ref o), some (.int (nI s)), some (.int i), some (.int (nI h)), some (.int (nI n)), some (.ref Sa), none]) 48 dX5_minds_48 (by decide) rfl ?_
    refine J_aload 50 dX5_minds_50 rfl ?_
    refine kb_RX5_222 (bs' := [wMe o (An 0) (Ak 0) (At 0) (Ad 0) kk tp rw rc sh sf de, wCt G An la ns sd to he sw nh ki te mi ar z, wQ G sh 4 3 shf, wSh Sa so (nI m) im]) (rest := []) (st' := [.int (bI (so = -1))]) 52 (c_X2_isMissing l G Sa so (nI m) im ) [3] 11 rfl rfl rfl [[Sa]] rfl rfl rfl rfl rfl rfl (Nat.le_of_ble_eq_true rfl) rfl dX5_minds_52 ?_
    refine J_ifB_eq (tgt := 61) 55 dX5_minds_55 (by decide) (fun c_5_ => ?_) (fun c_5_ => ?_)
    · skip
      exact absurd hso c_5_
    · skip
      refine J_bipush (v := (-11)) 58 dX5_minds_58 rfl ?_
      exact J_iret 60 dX5_minds_60 rfl rfl
  · skip
    have c_4_ : ¬ (h + n) ≤ nh := fun z_ => c_4_ ((nI_leI (a := (h + n)) (b := nh) (by omega) (by omega)).mpr z_)
    omega
set_option maxRecDepth 100000 in
set_option maxHeartbeats 4000000 in
theorem c_X5_minds_sort (l : Launch) (G : Gd) (s : Nat) (i : Int32) (h : Nat) (n : Nat) (Sa : Nat) (o : Nat) (An : Nat → Nat) (Ak : Nat → Nat) (At : Nat → Nat) (Ad : Nat → Nat) (kk : Int32) (tp : Nat) (rw : Nat) (rc : Nat) (sh : Nat) (sf : Nat) (de : Nat) (la : Nat → Int32) (ns : Nat) (sd : Nat) (to : Nat → Int32) (he : Nat → Int32) (sw : Nat → Int32) (nh : Nat) (ki : Nat → Int32) (te : Nat → Int32) (mi : Nat → Int32) (ar : Nat → Int32) (z : Int32) (shf : Nat → Option Nat) (so : Int32) (m : Nat) (im : Nat) (hh : h < nh) (hnh : nh ≤ 8) (hn : n ≤ 8) (hs : s ≤ 3) (hx : shf s = some Sa) (ho : h + n ≤ nh) (hso : ¬ so = -1) (hs0 : ¬ so = 0) : Ct l G yX5_minds cX5_minds 7 (some (FieldType.int)) 2 [.ref o, .int (nI s), .int i, .int (nI h), .int (nI n)] (wF [wMe o (An 0) (Ak 0) (At 0) (Ad 0) kk tp rw rc sh sf de, wCt G An la ns sd to he sw nh ki te mi ar z, wQ G sh 4 3 shf, wSh Sa so (nI m) im]) (some (.int (-13))) (wF [wMe o (An 0) (Ak 0) (At 0) (Ad 0) kk tp rw rc sh sf de, wCt G An la ns sd to he sw nh ki te mi ar z, wQ G sh 4 3 shf, wSh Sa so (nI m) im]) := by
  refine Ct.of "GooseArms" [some (.ref o), some (.int (nI s)), some (.int i), some (.int (nI h)), some (.int (nI n)), none, none] (by decide +kernel) rfl (Nat.le_of_ble_eq_true rfl) rfl ?_
  refine J_iload_n 0 1 dX5_minds_0 rfl rfl ?_
  refine kb_RX5_219 (bs' := [wMe o (An 0) (Ak 0) (At 0) (Ad 0) kk tp rw rc sh sf de, wCt G An la ns sd to he sw nh ki te mi ar z, wQ G sh 4 3 shf, wSh Sa so (nI m) im]) (rest := []) (st' := [.int 1]) 1 (c_X5_isPlace_t l G s (by first | omega | assumption)) [] rfl rfl [] rfl rfl rfl rfl rfl rfl (Nat.le_of_ble_eq_true rfl) rfl dX5_minds_1 ?_
  refine J_if_eq (tgt := 40) 4 dX5_minds_4 (by decide) (fun c_1_ => absurd c_1_ (by decide)) (fun _ => ?_)
  refine J_aload_n 7 0 dX5_minds_7 rfl rfl ?_
  refine J_iload_n 8 3 dX5_minds_8 rfl rfl ?_
  refine kb_RX5_135 (bs' := [wMe o (An 0) (Ak 0) (At 0) (Ad 0) kk tp rw rc sh sf de, wCt G An la ns sd to he sw nh ki te mi ar z, wQ G sh 4 3 shf, wSh Sa so (nI m) im]) (rest := []) (st' := [.int 1]) 9 (c_X5_isHearer_t l G h o An Ak At Ad kk tp rw rc sh sf de la ns sd to he sw nh ki te mi ar z (by assumption) (by omega)) [0, 1] 0 rfl rfl rfl [[o], [An 0, An 1, An 2, An 3, An 4, An 5, An 6, An 7, An 8]] rfl rfl rfl rfl rfl rfl (Nat.le_of_ble_eq_true rfl) rfl dX5_minds_9 ?_
  refine J_if_eq (tgt := 40) 12 dX5_minds_12 (by decide) (fun c_2_ => absurd c_2_ (by decide)) (fun _ => ?_)
  refine J_iload 15 dX5_minds_15 rfl ?_
  refine J_iconst (v := 0) 17 dX5_minds_17 rfl ?_
  refine J_bipush (v := 8) 18 dX5_minds_18 rfl ?_
  refine kb_RX5_65 (bs' := [wMe o (An 0) (Ak 0) (At 0) (Ad 0) kk tp rw rc sh sf de, wCt G An la ns sd to he sw nh ki te mi ar z, wQ G sh 4 3 shf, wSh Sa so (nI m) im]) (rest := []) (st' := [.int 1]) 20 (c_X5_within_t l G (nI n) 0 8 (inL_t (j := n) (m := 8) hn (by decide))) [] rfl rfl [] rfl rfl rfl rfl rfl rfl (Nat.le_of_ble_eq_true rfl) rfl dX5_minds_20 ?_
  refine J_if_eq (tgt := 40) 23 dX5_minds_23 (by decide) (fun c_3_ => absurd c_3_ (by decide)) (fun _ => ?_)
  refine J_iload_n 26 3 dX5_minds_26 rfl rfl ?_
  refine J_iload 27 dX5_minds_27 rfl ?_
  refine J_iadd 29 dX5_minds_29 ?_
  refine J_topi (y := nI (h + n)) 30 (nI_add h n) ?_
  refine J_aload_n 30 0 dX5_minds_30 rfl rfl ?_
  refine g_196 (v := .ref (An 0)) 31 0 rfl rfl dX5_minds_31 ?_
  refine g_53 (v := .int (nI nh)) 34 1 rfl rfl dX5_minds_34 ?_
  refine J_icmp_le (tgt := 42) 37 dX5_minds_37 (by decide) (fun c_4_ => ?_) (fun c_4_ => ?_)
  · skip
    have c_4_ : (h + n) ≤ nh := (nI_leI (a := (h + n)) (b := nh) (by omega) (by omega)).mp c_4_
    refine J_aload_n 42 0 dX5_minds_42 rfl rfl ?_
    refine g_204 (v := .ref sh) 43 0 rfl rfl dX5_minds_43 ?_
    refine J_iload_n 46 1 dX5_minds_46 rfl rfl ?_
    refine J_aldq (b := Sa) 47 10 3 s rfl rfl rfl (by omega) (by decide) hx dX5_minds_47 ?_
    refine J_astore (lv' := [some (.ref o), some (.int (nI s)), some (.int i), some (.int (nI h)), some (.int (nI n)), some (.ref Sa), none]) 48 dX5_minds_48 (by decide) rfl ?_
    refine J_aload 50 dX5_minds_50 rfl ?_
    refine kb_RX5_222 (bs' := [wMe o (An 0) (Ak 0) (At 0) (Ad 0) kk tp rw rc sh sf de, wCt G An la ns sd to he sw nh ki te mi ar z, wQ G sh 4 3 shf, wSh Sa so (nI m) im]) (rest := []) (st' := [.int (bI (so = -1))]) 52 (c_X2_isMissing l G Sa so (nI m) im ) [3] 11 rfl rfl rfl [[Sa]] rfl rfl rfl rfl rfl rfl (Nat.le_of_ble_eq_true rfl) rfl dX5_minds_52 ?_
    refine J_ifB_eq (tgt := 61) 55 dX5_minds_55 (by decide) (fun c_5_ => ?_) (fun c_5_ => ?_)
    · skip
      refine J_aload 61 dX5_minds_61 rfl ?_
      refine g_130 (v := .int so) 63 11 rfl rfl dX5_minds_63 ?_
      refine J_if_eq (tgt := 72) 66 dX5_minds_66 (by decide) (fun c_6_ => ?_) (fun c_6_ => ?_)
      · skip
        exact absurd c_6_ hs0
      · skip
        refine J_bipush (v := (-13)) 69 dX5_minds_69 rfl ?_
        exact J_iret 71 dX5_minds_71 rfl rfl
    · skip
      exact absurd c_5_ hso
  · skip
    have c_4_ : ¬ (h + n) ≤ nh := fun z_ => c_4_ ((nI_leI (a := (h + n)) (b := nh) (by omega) (by omega)).mpr z_)
    omega
set_option maxRecDepth 100000 in
set_option maxHeartbeats 4000000 in
theorem c_X5_minds_out (l : Launch) (G : Gd) (s : Nat) (i : Int32) (h : Nat) (n : Nat) (Sa : Nat) (o : Nat) (An : Nat → Nat) (Ak : Nat → Nat) (At : Nat → Nat) (Ad : Nat → Nat) (kk : Int32) (tp : Nat) (rw : Nat) (rc : Nat) (sh : Nat) (sf : Nat) (de : Nat) (la : Nat → Int32) (ns : Nat) (sd : Nat) (to : Nat → Int32) (he : Nat → Int32) (sw : Nat → Int32) (nh : Nat) (ki : Nat → Int32) (te : Nat → Int32) (mi : Nat → Int32) (ar : Nat → Int32) (z : Int32) (shf : Nat → Option Nat) (m : Nat) (im : Nat) (hh : h < nh) (hnh : nh ≤ 8) (hn : n ≤ 8) (hs : s ≤ 3) (hx : shf s = some Sa) (ho : h + n ≤ nh) (hw : ¬ (0 ≤ i ∧ i ≤ nI m)) : Ct l G yX5_minds cX5_minds 7 (some (FieldType.int)) 2 [.ref o, .int (nI s), .int i, .int (nI h), .int (nI n)] (wF [wMe o (An 0) (Ak 0) (At 0) (Ad 0) kk tp rw rc sh sf de, wCt G An la ns sd to he sw nh ki te mi ar z, wQ G sh 4 3 shf, wSh Sa 0 (nI m) im]) (some (.int (-12))) (wF [wMe o (An 0) (Ak 0) (At 0) (Ad 0) kk tp rw rc sh sf de, wCt G An la ns sd to he sw nh ki te mi ar z, wQ G sh 4 3 shf, wSh Sa 0 (nI m) im]) := by
  refine Ct.of "GooseArms" [some (.ref o), some (.int (nI s)), some (.int i), some (.int (nI h)), some (.int (nI n)), none, none] (by decide +kernel) rfl (Nat.le_of_ble_eq_true rfl) rfl ?_
  refine J_iload_n 0 1 dX5_minds_0 rfl rfl ?_
  refine kb_RX5_219 (bs' := [wMe o (An 0) (Ak 0) (At 0) (Ad 0) kk tp rw rc sh sf de, wCt G An la ns sd to he sw nh ki te mi ar z, wQ G sh 4 3 shf, wSh Sa 0 (nI m) im]) (rest := []) (st' := [.int 1]) 1 (c_X5_isPlace_t l G s (by first | omega | assumption)) [] rfl rfl [] rfl rfl rfl rfl rfl rfl (Nat.le_of_ble_eq_true rfl) rfl dX5_minds_1 ?_
  refine J_if_eq (tgt := 40) 4 dX5_minds_4 (by decide) (fun c_1_ => absurd c_1_ (by decide)) (fun _ => ?_)
  refine J_aload_n 7 0 dX5_minds_7 rfl rfl ?_
  refine J_iload_n 8 3 dX5_minds_8 rfl rfl ?_
  refine kb_RX5_135 (bs' := [wMe o (An 0) (Ak 0) (At 0) (Ad 0) kk tp rw rc sh sf de, wCt G An la ns sd to he sw nh ki te mi ar z, wQ G sh 4 3 shf, wSh Sa 0 (nI m) im]) (rest := []) (st' := [.int 1]) 9 (c_X5_isHearer_t l G h o An Ak At Ad kk tp rw rc sh sf de la ns sd to he sw nh ki te mi ar z (by assumption) (by omega)) [0, 1] 0 rfl rfl rfl [[o], [An 0, An 1, An 2, An 3, An 4, An 5, An 6, An 7, An 8]] rfl rfl rfl rfl rfl rfl (Nat.le_of_ble_eq_true rfl) rfl dX5_minds_9 ?_
  refine J_if_eq (tgt := 40) 12 dX5_minds_12 (by decide) (fun c_2_ => absurd c_2_ (by decide)) (fun _ => ?_)
  refine J_iload 15 dX5_minds_15 rfl ?_
  refine J_iconst (v := 0) 17 dX5_minds_17 rfl ?_
  refine J_bipush (v := 8) 18 dX5_minds_18 rfl ?_
  refine kb_RX5_65 (bs' := [wMe o (An 0) (Ak 0) (At 0) (Ad 0) kk tp rw rc sh sf de, wCt G An la ns sd to he sw nh ki te mi ar z, wQ G sh 4 3 shf, wSh Sa 0 (nI m) im]) (rest := []) (st' := [.int 1]) 20 (c_X5_within_t l G (nI n) 0 8 (inL_t (j := n) (m := 8) hn (by decide))) [] rfl rfl [] rfl rfl rfl rfl rfl rfl (Nat.le_of_ble_eq_true rfl) rfl dX5_minds_20 ?_
  refine J_if_eq (tgt := 40) 23 dX5_minds_23 (by decide) (fun c_3_ => absurd c_3_ (by decide)) (fun _ => ?_)
  refine J_iload_n 26 3 dX5_minds_26 rfl rfl ?_
  refine J_iload 27 dX5_minds_27 rfl ?_
  refine J_iadd 29 dX5_minds_29 ?_
  refine J_topi (y := nI (h + n)) 30 (nI_add h n) ?_
  refine J_aload_n 30 0 dX5_minds_30 rfl rfl ?_
  refine g_196 (v := .ref (An 0)) 31 0 rfl rfl dX5_minds_31 ?_
  refine g_53 (v := .int (nI nh)) 34 1 rfl rfl dX5_minds_34 ?_
  refine J_icmp_le (tgt := 42) 37 dX5_minds_37 (by decide) (fun c_4_ => ?_) (fun c_4_ => ?_)
  · skip
    have c_4_ : (h + n) ≤ nh := (nI_leI (a := (h + n)) (b := nh) (by omega) (by omega)).mp c_4_
    refine J_aload_n 42 0 dX5_minds_42 rfl rfl ?_
    refine g_204 (v := .ref sh) 43 0 rfl rfl dX5_minds_43 ?_
    refine J_iload_n 46 1 dX5_minds_46 rfl rfl ?_
    refine J_aldq (b := Sa) 47 10 3 s rfl rfl rfl (by omega) (by decide) hx dX5_minds_47 ?_
    refine J_astore (lv' := [some (.ref o), some (.int (nI s)), some (.int i), some (.int (nI h)), some (.int (nI n)), some (.ref Sa), none]) 48 dX5_minds_48 (by decide) rfl ?_
    refine J_aload 50 dX5_minds_50 rfl ?_
    refine kb_RX5_222 (bs' := [wMe o (An 0) (Ak 0) (At 0) (Ad 0) kk tp rw rc sh sf de, wCt G An la ns sd to he sw nh ki te mi ar z, wQ G sh 4 3 shf, wSh Sa 0 (nI m) im]) (rest := []) (st' := [.int (bI (0 = -1))]) 52 (c_X2_isMissing l G Sa 0 (nI m) im ) [3] 11 rfl rfl rfl [[Sa]] rfl rfl rfl rfl rfl rfl (Nat.le_of_ble_eq_true rfl) rfl dX5_minds_52 ?_
    refine J_ifB_eq (tgt := 61) 55 dX5_minds_55 (by decide) (fun c_5_ => ?_) (fun c_5_ => ?_)
    · skip
      refine J_aload 61 dX5_minds_61 rfl ?_
      refine g_130 (v := .int 0) 63 11 rfl rfl dX5_minds_63 ?_
      refine J_if_eq (tgt := 72) 66 dX5_minds_66 (by decide) (fun _ => ?_) (fun c_6_ => absurd c_6_ (by decide))
      refine J_iload_n 72 2 dX5_minds_72 rfl rfl ?_
      refine J_iconst (v := 0) 73 dX5_minds_73 rfl ?_
      refine J_aload 74 dX5_minds_74 rfl ?_
      refine g_133 (v := .int (nI m)) 76 11 rfl rfl dX5_minds_76 ?_
      refine kb_RX5_65 (bs' := [wMe o (An 0) (Ak 0) (At 0) (Ad 0) kk tp rw rc sh sf de, wCt G An la ns sd to he sw nh ki te mi ar z, wQ G sh 4 3 shf, wSh Sa 0 (nI m) im]) (rest := []) (st' := [.int 0]) 79 (c_X5_within_f l G i 0 (nI m) hw) [] rfl rfl [] rfl rfl rfl rfl rfl rfl (Nat.le_of_ble_eq_true rfl) rfl dX5_minds_79 ?_
      refine J_if_eq (tgt := 97) 82 dX5_minds_82 (by decide) (fun _ => ?_) (fun c_7_ => absurd c_7_ (by decide))
      refine J_bipush (v := (-12)) 97 dX5_minds_97 rfl ?_
      exact J_iret 99 dX5_minds_99 rfl rfl
    · skip
      exact absurd c_5_ (by decide)
  · skip
    have c_4_ : ¬ (h + n) ≤ nh := fun z_ => c_4_ ((nI_leI (a := (h + n)) (b := nh) (by omega) (by omega)).mpr z_)
    omega
set_option maxRecDepth 100000 in
set_option maxHeartbeats 4000000 in
theorem c_X5_minds_out2 (l : Launch) (G : Gd) (s : Nat) (i : Nat) (h : Nat) (n : Nat) (Sa : Nat) (o : Nat) (An : Nat → Nat) (Ak : Nat → Nat) (At : Nat → Nat) (Ad : Nat → Nat) (kk : Int32) (tp : Nat) (rw : Nat) (rc : Nat) (sh : Nat) (sf : Nat) (de : Nat) (la : Nat → Int32) (ns : Nat) (sd : Nat) (to : Nat → Int32) (he : Nat → Int32) (sw : Nat → Int32) (nh : Nat) (ki : Nat → Int32) (te : Nat → Int32) (mi : Nat → Int32) (ar : Nat → Int32) (z : Int32) (shf : Nat → Option Nat) (m : Nat) (im : Nat) (hh : h < nh) (hnh : nh ≤ 8) (hn : n ≤ 8) (hs : s ≤ 3) (hx : shf s = some Sa) (ho : h + n ≤ nh) (hm : m ≤ 40) (hi : i ≤ m) (hw : m < i + n) : Ct l G yX5_minds cX5_minds 7 (some (FieldType.int)) 2 [.ref o, .int (nI s), .int (nI i), .int (nI h), .int (nI n)] (wF [wMe o (An 0) (Ak 0) (At 0) (Ad 0) kk tp rw rc sh sf de, wCt G An la ns sd to he sw nh ki te mi ar z, wQ G sh 4 3 shf, wSh Sa 0 (nI m) im]) (some (.int (-12))) (wF [wMe o (An 0) (Ak 0) (At 0) (Ad 0) kk tp rw rc sh sf de, wCt G An la ns sd to he sw nh ki te mi ar z, wQ G sh 4 3 shf, wSh Sa 0 (nI m) im]) := by
  refine Ct.of "GooseArms" [some (.ref o), some (.int (nI s)), some (.int (nI i)), some (.int (nI h)), some (.int (nI n)), none, none] (by decide +kernel) rfl (Nat.le_of_ble_eq_true rfl) rfl ?_
  refine J_iload_n 0 1 dX5_minds_0 rfl rfl ?_
  refine kb_RX5_219 (bs' := [wMe o (An 0) (Ak 0) (At 0) (Ad 0) kk tp rw rc sh sf de, wCt G An la ns sd to he sw nh ki te mi ar z, wQ G sh 4 3 shf, wSh Sa 0 (nI m) im]) (rest := []) (st' := [.int 1]) 1 (c_X5_isPlace_t l G s (by first | omega | assumption)) [] rfl rfl [] rfl rfl rfl rfl rfl rfl (Nat.le_of_ble_eq_true rfl) rfl dX5_minds_1 ?_
  refine J_if_eq (tgt := 40) 4 dX5_minds_4 (by decide) (fun c_1_ => absurd c_1_ (by decide)) (fun _ => ?_)
  refine J_aload_n 7 0 dX5_minds_7 rfl rfl ?_
  refine J_iload_n 8 3 dX5_minds_8 rfl rfl ?_
  refine kb_RX5_135 (bs' := [wMe o (An 0) (Ak 0) (At 0) (Ad 0) kk tp rw rc sh sf de, wCt G An la ns sd to he sw nh ki te mi ar z, wQ G sh 4 3 shf, wSh Sa 0 (nI m) im]) (rest := []) (st' := [.int 1]) 9 (c_X5_isHearer_t l G h o An Ak At Ad kk tp rw rc sh sf de la ns sd to he sw nh ki te mi ar z (by assumption) (by omega)) [0, 1] 0 rfl rfl rfl [[o], [An 0, An 1, An 2, An 3, An 4, An 5, An 6, An 7, An 8]] rfl rfl rfl rfl rfl rfl (Nat.le_of_ble_eq_true rfl) rfl dX5_minds_9 ?_
  refine J_if_eq (tgt := 40) 12 dX5_minds_12 (by decide) (fun c_2_ => absurd c_2_ (by decide)) (fun _ => ?_)
  refine J_iload 15 dX5_minds_15 rfl ?_
  refine J_iconst (v := 0) 17 dX5_minds_17 rfl ?_
  refine J_bipush (v := 8) 18 dX5_minds_18 rfl ?_
  refine kb_RX5_65 (bs' := [wMe o (An 0) (Ak 0) (At 0) (Ad 0) kk tp rw rc sh sf de, wCt G An la ns sd to he sw nh ki te mi ar z, wQ G sh 4 3 shf, wSh Sa 0 (nI m) im]) (rest := []) (st' := [.int 1]) 20 (c_X5_within_t l G (nI n) 0 8 (inL_t (j := n) (m := 8) hn (by decide))) [] rfl rfl [] rfl rfl rfl rfl rfl rfl (Nat.le_of_ble_eq_true rfl) rfl dX5_minds_20 ?_
  refine J_if_eq (tgt := 40) 23 dX5_minds_23 (by decide) (fun c_3_ => absurd c_3_ (by decide)) (fun _ => ?_)
  refine J_iload_n 26 3 dX5_minds_26 rfl rfl ?_
  refine J_iload 27 dX5_minds_27 rfl ?_
  refine J_iadd 29 dX5_minds_29 ?_
  refine J_topi (y := nI (h + n)) 30 (nI_add h n) ?_
  refine J_aload_n 30 0 dX5_minds_30 rfl rfl ?_
  refine g_196 (v := .ref (An 0)) 31 0 rfl rfl dX5_minds_31 ?_
  refine g_53 (v := .int (nI nh)) 34 1 rfl rfl dX5_minds_34 ?_
  refine J_icmp_le (tgt := 42) 37 dX5_minds_37 (by decide) (fun c_4_ => ?_) (fun c_4_ => ?_)
  · skip
    have c_4_ : (h + n) ≤ nh := (nI_leI (a := (h + n)) (b := nh) (by omega) (by omega)).mp c_4_
    refine J_aload_n 42 0 dX5_minds_42 rfl rfl ?_
    refine g_204 (v := .ref sh) 43 0 rfl rfl dX5_minds_43 ?_
    refine J_iload_n 46 1 dX5_minds_46 rfl rfl ?_
    refine J_aldq (b := Sa) 47 10 3 s rfl rfl rfl (by omega) (by decide) hx dX5_minds_47 ?_
    refine J_astore (lv' := [some (.ref o), some (.int (nI s)), some (.int (nI i)), some (.int (nI h)), some (.int (nI n)), some (.ref Sa), none]) 48 dX5_minds_48 (by decide) rfl ?_
    refine J_aload 50 dX5_minds_50 rfl ?_
    refine kb_RX5_222 (bs' := [wMe o (An 0) (Ak 0) (At 0) (Ad 0) kk tp rw rc sh sf de, wCt G An la ns sd to he sw nh ki te mi ar z, wQ G sh 4 3 shf, wSh Sa 0 (nI m) im]) (rest := []) (st' := [.int (bI (0 = -1))]) 52 (c_X2_isMissing l G Sa 0 (nI m) im ) [3] 11 rfl rfl rfl [[Sa]] rfl rfl rfl rfl rfl rfl (Nat.le_of_ble_eq_true rfl) rfl dX5_minds_52 ?_
    refine J_ifB_eq (tgt := 61) 55 dX5_minds_55 (by decide) (fun c_5_ => ?_) (fun c_5_ => ?_)
    · skip
      refine J_aload 61 dX5_minds_61 rfl ?_
      refine g_130 (v := .int 0) 63 11 rfl rfl dX5_minds_63 ?_
      refine J_if_eq (tgt := 72) 66 dX5_minds_66 (by decide) (fun _ => ?_) (fun c_6_ => absurd c_6_ (by decide))
      refine J_iload_n 72 2 dX5_minds_72 rfl rfl ?_
      refine J_iconst (v := 0) 73 dX5_minds_73 rfl ?_
      refine J_aload 74 dX5_minds_74 rfl ?_
      refine g_133 (v := .int (nI m)) 76 11 rfl rfl dX5_minds_76 ?_
      refine kb_RX5_65 (bs' := [wMe o (An 0) (Ak 0) (At 0) (Ad 0) kk tp rw rc sh sf de, wCt G An la ns sd to he sw nh ki te mi ar z, wQ G sh 4 3 shf, wSh Sa 0 (nI m) im]) (rest := []) (st' := [.int 1]) 79 (c_X5_within_t l G (nI i) 0 (nI m) (inL_t hi (by omega))) [] rfl rfl [] rfl rfl rfl rfl rfl rfl (Nat.le_of_ble_eq_true rfl) rfl dX5_minds_79 ?_
      refine J_if_eq (tgt := 97) 82 dX5_minds_82 (by decide) (fun c_7_ => absurd c_7_ (by decide)) (fun _ => ?_)
      refine J_iload_n 85 2 dX5_minds_85 rfl rfl ?_
      refine J_iload 86 dX5_minds_86 rfl ?_
      refine J_iadd 88 dX5_minds_88 ?_
      refine J_topi (y := nI (i + n)) 89 (nI_add i n) ?_
      refine J_aload 89 dX5_minds_89 rfl ?_
      refine g_133 (v := .int (nI m)) 91 11 rfl rfl dX5_minds_91 ?_
      refine J_icmp_le (tgt := 100) 94 dX5_minds_94 (by decide) (fun c_8_ => ?_) (fun c_8_ => ?_)
      · skip
        have c_8_ : (i + n) ≤ m := (nI_leI (a := (i + n)) (b := m) (by omega) (by omega)).mp c_8_
        omega
      · skip
        have c_8_ : ¬ (i + n) ≤ m := fun z_ => c_8_ ((nI_leI (a := (i + n)) (b := m) (by omega) (by omega)).mpr z_)
        refine J_bipush (v := (-12)) 97 dX5_minds_97 rfl ?_
        exact J_iret 99 dX5_minds_99 rfl rfl
    · skip
      exact absurd c_5_ (by decide)
  · skip
    have c_4_ : ¬ (h + n) ≤ nh := fun z_ => c_4_ ((nI_leI (a := (h + n)) (b := nh) (by omega) (by omega)).mpr z_)
    omega
set_option maxRecDepth 100000 in
set_option maxHeartbeats 4000000 in
theorem c_X5_minds_ok (l : Launch) (G : Gd) (s : Nat) (i : Nat) (h : Nat) (n : Nat) (Sa : Nat) (o : Nat) (An : Nat → Nat) (Ak : Nat → Nat) (At : Nat → Nat) (Ad : Nat → Nat) (kk : Int32) (tp : Nat) (rw : Nat) (rc : Nat) (sh : Nat) (sf : Nat) (de : Nat) (la : Nat → Int32) (ns : Nat) (sd : Nat) (to : Nat → Int32) (he : Nat → Int32) (sw : Nat → Int32) (nh : Nat) (ki : Nat → Int32) (te : Nat → Int32) (mi : Nat → Int32) (ar : Nat → Int32) (z : Int32) (shf : Nat → Option Nat) (m : Nat) (im : Nat) (it : Nat → Int64) (hh : h < nh) (hnh : nh ≤ 8) (hn : n ≤ 8) (hs : s ≤ 3) (hx : shf s = some Sa) (ho : h + n ≤ nh) (hm : m ≤ 40) (hi : i + n ≤ m) : Ct l G yX5_minds cX5_minds 7 (some (FieldType.int)) 2 [.ref o, .int (nI s), .int (nI i), .int (nI h), .int (nI n)] (wF [wMe o (An 0) (Ak 0) (At 0) (Ad 0) kk tp rw rc sh sf de, wCt G An la ns sd to he sw nh ki te mi ar z, wQ G sh 4 3 shf, wSh Sa 0 (nI m) im, wJ G im 40 it]) (some (.int (nI n))) (wF [wMe o (An 0) (Ak 0) (At 0) (Ad 0) kk tp rw rc sh sf de, wCt G An la ns sd to he sw nh ki (fMi te h it i n) mi ar z, wQ G sh 4 3 shf, wSh Sa 0 (nI m) im, wJ G im 40 it]) := by
  refine Ct.of "GooseArms" [some (.ref o), some (.int (nI s)), some (.int (nI i)), some (.int (nI h)), some (.int (nI n)), none, none] (by decide +kernel) rfl (Nat.le_of_ble_eq_true rfl) rfl ?_
  have cut_103_ : ∀ (n_103_ : Nat) (k : Nat) (te1 : Nat → Int32), (n - k < n_103_) → (hk : k ≤ n) → (hte : te1 = fMi te h it i k) → J l G (bd G 2 (some (FieldType.int)) (some (.int (nI n))) (wF [wMe o (An 0) (Ak 0) (At 0) (Ad 0) kk tp rw rc sh sf de, wCt G An la ns sd to he sw nh ki (fMi te h it i n) mi ar z, wQ G sh 4 3 shf, wSh Sa 0 (nI m) im, wJ G im 40 it])) cX5_minds 7 "GooseArms" 103 [some (.ref o), some (.int (nI s)), some (.int (nI i)), some (.int (nI h)), some (.int (nI n)), some (.ref Sa), some (.int (nI k))] [] (wF [wMe o (An 0) (Ak 0) (At 0) (Ad 0) kk tp rw rc sh sf de, wCt G An la ns sd to he sw nh ki te1 mi ar z, wQ G sh 4 3 shf, wSh Sa 0 (nI m) im, wJ G im 40 it]) := by
    intro n_103_
    induction n_103_ with
    | zero => intro k te1 m_103_; exact absurd m_103_ (Nat.not_lt_zero _)
    | succ n_103_ ih_103_ =>
      intro k te1 m_103_ hk hte
      refine J_iload 103 dX5_minds_103 rfl ?_
      refine J_iload 105 dX5_minds_105 rfl ?_
      refine J_icmp_ge (tgt := 142) 107 dX5_minds_107 (by decide) (fun c_1_ => ?_) (fun c_1_ => ?_)
      · skip
        have c_1_ : n ≤ k := (nI_leI (a := n) (b := k) (by omega) (by omega)).mp c_1_
        refine J_iload 142 dX5_minds_142 rfl ?_
        exact J_iret 144 dX5_minds_144 rfl (cg1 (fun (x0_ : Nat → Int32) => (wF [wMe o (An 0) (Ak 0) (At 0) (Ad 0) kk tp rw rc sh sf de, wCt G An la ns sd to he sw nh ki x0_ mi ar z, wQ G sh 4 3 shf, wSh Sa 0 (nI m) im, wJ G im 40 it])) te1 (fMi te h it i n) (by rw [hte, show k = n by omega]))
      · skip
        have c_1_ : ¬ n ≤ k := fun z_ => c_1_ ((nI_leI (a := n) (b := k) (by omega) (by omega)).mpr z_)
        refine J_aload_n 110 0 dX5_minds_110 rfl rfl ?_
        refine g_196 (v := .ref (An 0)) 111 0 rfl rfl dX5_minds_111 ?_
        refine g_58 (v := .ref (An 6)) 114 1 rfl rfl dX5_minds_114 ?_
        refine J_iload_n 117 3 dX5_minds_117 rfl rfl ?_
        refine J_iload 118 dX5_minds_118 rfl ?_
        refine J_iadd 120 dX5_minds_120 ?_
        refine J_topi (y := nI (h + k)) 121 (nI_add h k) ?_
        refine J_aload 121 dX5_minds_121 rfl ?_
        refine g_135 (v := .ref im) 123 11 rfl rfl dX5_minds_123 ?_
        refine J_iload_n 126 2 dX5_minds_126 rfl rfl ?_
        refine J_iload 127 dX5_minds_127 rfl ?_
        refine J_iadd 129 dX5_minds_129 ?_
        refine J_topi (y := nI (i + k)) 130 (nI_add i k) ?_
        refine J_lald 130 12 (i + k) rfl rfl (by omega) (by decide) dX5_minds_130 ?_
        refine J_l2i 131 dX5_minds_131 ?_
        refine kb_RX5_267 (bs' := [wMe o (An 0) (Ak 0) (At 0) (Ad 0) kk tp rw rc sh sf de, wCt G An la ns sd to he sw nh ki te1 mi ar z, wQ G sh 4 3 shf, wSh Sa 0 (nI m) im, wJ G im 40 it]) (rest := [.int (nI (h + k)), .ref (An 6)]) (st' := [.int (heldI ((it (i + k)).toInt32)), .int (nI (h + k)), .ref (An 6)]) 132 (c_X5_heldTender l G ((it (i + k)).toInt32) ) [] rfl rfl [] rfl rfl rfl rfl rfl rfl (Nat.le_of_ble_eq_true rfl) rfl dX5_minds_132 ?_
        refine J_iast (ws' := (wF [wMe o (An 0) (Ak 0) (At 0) (Ad 0) kk tp rw rc sh sf de, wCt G An la ns sd to he sw nh ki (upd te1 (h + k) (heldI ((it (i + k)).toInt32))) mi ar z, wQ G sh 4 3 shf, wSh Sa 0 (nI m) im, wJ G im 40 it])) 135 7 (h + k) rfl rfl (by omega) (by decide) rfl dX5_minds_135 ?_
        refine J_iinc (v := nI (k + 1)) (lv' := [some (.ref o), some (.int (nI s)), some (.int (nI i)), some (.int (nI h)), some (.int (nI n)), some (.ref Sa), some (.int (nI (k + 1)))]) 136 dX5_minds_136 rfl (nI_add _ 1) (by decide) rfl ?_
        refine J_goto (tgt := 103) 139 dX5_minds_139 (by decide) ?_
        exact ih_103_ (k + 1) (upd te1 (h + k) (heldI ((it (i + k)).toInt32))) (by omega) (by first | assumption | omega | rfl) (by first | rfl | (rw [hte]; rfl))
  refine J_iload_n 0 1 dX5_minds_0 rfl rfl ?_
  refine kb_RX5_219 (bs' := [wMe o (An 0) (Ak 0) (At 0) (Ad 0) kk tp rw rc sh sf de, wCt G An la ns sd to he sw nh ki te mi ar z, wQ G sh 4 3 shf, wSh Sa 0 (nI m) im, wJ G im 40 it]) (rest := []) (st' := [.int 1]) 1 (c_X5_isPlace_t l G s (by first | omega | assumption)) [] rfl rfl [] rfl rfl rfl rfl rfl rfl (Nat.le_of_ble_eq_true rfl) rfl dX5_minds_1 ?_
  refine J_if_eq (tgt := 40) 4 dX5_minds_4 (by decide) (fun c_2_ => absurd c_2_ (by decide)) (fun _ => ?_)
  refine J_aload_n 7 0 dX5_minds_7 rfl rfl ?_
  refine J_iload_n 8 3 dX5_minds_8 rfl rfl ?_
  refine kb_RX5_135 (bs' := [wMe o (An 0) (Ak 0) (At 0) (Ad 0) kk tp rw rc sh sf de, wCt G An la ns sd to he sw nh ki te mi ar z, wQ G sh 4 3 shf, wSh Sa 0 (nI m) im, wJ G im 40 it]) (rest := []) (st' := [.int 1]) 9 (c_X5_isHearer_t l G h o An Ak At Ad kk tp rw rc sh sf de la ns sd to he sw nh ki te mi ar z (by assumption) (by omega)) [0, 1] 0 rfl rfl rfl [[o], [An 0, An 1, An 2, An 3, An 4, An 5, An 6, An 7, An 8]] rfl rfl rfl rfl rfl rfl (Nat.le_of_ble_eq_true rfl) rfl dX5_minds_9 ?_
  refine J_if_eq (tgt := 40) 12 dX5_minds_12 (by decide) (fun c_3_ => absurd c_3_ (by decide)) (fun _ => ?_)
  refine J_iload 15 dX5_minds_15 rfl ?_
  refine J_iconst (v := 0) 17 dX5_minds_17 rfl ?_
  refine J_bipush (v := 8) 18 dX5_minds_18 rfl ?_
  refine kb_RX5_65 (bs' := [wMe o (An 0) (Ak 0) (At 0) (Ad 0) kk tp rw rc sh sf de, wCt G An la ns sd to he sw nh ki te mi ar z, wQ G sh 4 3 shf, wSh Sa 0 (nI m) im, wJ G im 40 it]) (rest := []) (st' := [.int 1]) 20 (c_X5_within_t l G (nI n) 0 8 (inL_t (j := n) (m := 8) hn (by decide))) [] rfl rfl [] rfl rfl rfl rfl rfl rfl (Nat.le_of_ble_eq_true rfl) rfl dX5_minds_20 ?_
  refine J_if_eq (tgt := 40) 23 dX5_minds_23 (by decide) (fun c_4_ => absurd c_4_ (by decide)) (fun _ => ?_)
  refine J_iload_n 26 3 dX5_minds_26 rfl rfl ?_
  refine J_iload 27 dX5_minds_27 rfl ?_
  refine J_iadd 29 dX5_minds_29 ?_
  refine J_topi (y := nI (h + n)) 30 (nI_add h n) ?_
  refine J_aload_n 30 0 dX5_minds_30 rfl rfl ?_
  refine g_196 (v := .ref (An 0)) 31 0 rfl rfl dX5_minds_31 ?_
  refine g_53 (v := .int (nI nh)) 34 1 rfl rfl dX5_minds_34 ?_
  refine J_icmp_le (tgt := 42) 37 dX5_minds_37 (by decide) (fun c_5_ => ?_) (fun c_5_ => ?_)
  · skip
    have c_5_ : (h + n) ≤ nh := (nI_leI (a := (h + n)) (b := nh) (by omega) (by omega)).mp c_5_
    refine J_aload_n 42 0 dX5_minds_42 rfl rfl ?_
    refine g_204 (v := .ref sh) 43 0 rfl rfl dX5_minds_43 ?_
    refine J_iload_n 46 1 dX5_minds_46 rfl rfl ?_
    refine J_aldq (b := Sa) 47 10 3 s rfl rfl rfl (by omega) (by decide) hx dX5_minds_47 ?_
    refine J_astore (lv' := [some (.ref o), some (.int (nI s)), some (.int (nI i)), some (.int (nI h)), some (.int (nI n)), some (.ref Sa), none]) 48 dX5_minds_48 (by decide) rfl ?_
    refine J_aload 50 dX5_minds_50 rfl ?_
    refine kb_RX5_222 (bs' := [wMe o (An 0) (Ak 0) (At 0) (Ad 0) kk tp rw rc sh sf de, wCt G An la ns sd to he sw nh ki te mi ar z, wQ G sh 4 3 shf, wSh Sa 0 (nI m) im, wJ G im 40 it]) (rest := []) (st' := [.int (bI (0 = -1))]) 52 (c_X2_isMissing l G Sa 0 (nI m) im ) [3] 11 rfl rfl rfl [[Sa]] rfl rfl rfl rfl rfl rfl (Nat.le_of_ble_eq_true rfl) rfl dX5_minds_52 ?_
    refine J_ifB_eq (tgt := 61) 55 dX5_minds_55 (by decide) (fun c_6_ => ?_) (fun c_6_ => ?_)
    · skip
      refine J_aload 61 dX5_minds_61 rfl ?_
      refine g_130 (v := .int 0) 63 11 rfl rfl dX5_minds_63 ?_
      refine J_if_eq (tgt := 72) 66 dX5_minds_66 (by decide) (fun _ => ?_) (fun c_7_ => absurd c_7_ (by decide))
      refine J_iload_n 72 2 dX5_minds_72 rfl rfl ?_
      refine J_iconst (v := 0) 73 dX5_minds_73 rfl ?_
      refine J_aload 74 dX5_minds_74 rfl ?_
      refine g_133 (v := .int (nI m)) 76 11 rfl rfl dX5_minds_76 ?_
      refine kb_RX5_65 (bs' := [wMe o (An 0) (Ak 0) (At 0) (Ad 0) kk tp rw rc sh sf de, wCt G An la ns sd to he sw nh ki te mi ar z, wQ G sh 4 3 shf, wSh Sa 0 (nI m) im, wJ G im 40 it]) (rest := []) (st' := [.int 1]) 79 (c_X5_within_t l G (nI i) 0 (nI m) (inL_t (by omega) (by omega))) [] rfl rfl [] rfl rfl rfl rfl rfl rfl (Nat.le_of_ble_eq_true rfl) rfl dX5_minds_79 ?_
      refine J_if_eq (tgt := 97) 82 dX5_minds_82 (by decide) (fun c_8_ => absurd c_8_ (by decide)) (fun _ => ?_)
      refine J_iload_n 85 2 dX5_minds_85 rfl rfl ?_
      refine J_iload 86 dX5_minds_86 rfl ?_
      refine J_iadd 88 dX5_minds_88 ?_
      refine J_topi (y := nI (i + n)) 89 (nI_add i n) ?_
      refine J_aload 89 dX5_minds_89 rfl ?_
      refine g_133 (v := .int (nI m)) 91 11 rfl rfl dX5_minds_91 ?_
      refine J_icmp_le (tgt := 100) 94 dX5_minds_94 (by decide) (fun c_9_ => ?_) (fun c_9_ => ?_)
      · skip
        have c_9_ : (i + n) ≤ m := (nI_leI (a := (i + n)) (b := m) (by omega) (by omega)).mp c_9_
        refine J_iconst (v := 0) 100 dX5_minds_100 rfl ?_
        refine J_istore (lv' := [some (.ref o), some (.int (nI s)), some (.int (nI i)), some (.int (nI h)), some (.int (nI n)), some (.ref Sa), some (.int 0)]) 101 dX5_minds_101 (by decide) rfl ?_
        exact cut_103_ ((n - 0) + 1) 0 te (Nat.lt_succ_self _) (by first | assumption | omega | rfl) (by first | rfl | (rw [hte]; rfl))
      · skip
        have c_9_ : ¬ (i + n) ≤ m := fun z_ => c_9_ ((nI_leI (a := (i + n)) (b := m) (by omega) (by omega)).mpr z_)
        omega
    · skip
      exact absurd c_6_ (by decide)
  · skip
    have c_5_ : ¬ (h + n) ≤ nh := fun z_ => c_5_ ((nI_leI (a := (h + n)) (b := nh) (by omega) (by omega)).mpr z_)
    omega
set_option maxRecDepth 100000 in
set_option maxHeartbeats 4000000 in
theorem c_X5_sheet_bad (l : Launch) (G : Gd) (s : Int32) (v : Int32) (n : Int32) (o : Nat) (An : Nat → Nat) (Ak : Nat → Nat) (At : Nat → Nat) (Ad : Nat → Nat) (kk : Int32) (tp : Nat) (rw : Nat) (rc : Nat) (sh : Nat) (sf : Nat) (de : Nat) (hw : ¬ ((0 ≤ s ∧ s ≤ 3) ∧ (-1 ≤ v ∧ v ≤ 3))) : Ct l G yX5_sheet cX5_sheet 4 (some (FieldType.int)) 2 [.ref o, .int s, .int v, .int n] (wF [wMe o (An 0) (Ak 0) (At 0) (Ad 0) kk tp rw rc sh sf de]) (some (.int (-1))) (wF [wMe o (An 0) (Ak 0) (At 0) (Ad 0) kk tp rw rc sh sf de]) := by
  refine Ct.of "GooseArms" [some (.ref o), some (.int s), some (.int v), some (.int n)] (by decide +kernel) rfl (Nat.le_of_ble_eq_true rfl) rfl ?_
  refine J_iload_n 0 1 dX5_sheet_0 rfl rfl ?_
  refine kb_RX5_219 (bs' := [wMe o (An 0) (Ak 0) (At 0) (Ad 0) kk tp rw rc sh sf de]) (rest := []) (st' := [.int (bI (0 ≤ s ∧ s ≤ 3))]) 1 (c_X5_isPlace l G s ) [] rfl rfl [] rfl rfl rfl rfl rfl rfl (Nat.le_of_ble_eq_true rfl) rfl dX5_sheet_1 ?_
  refine J_ifB_eq (tgt := 16) 4 dX5_sheet_4 (by decide) (fun c_1_ => ?_) (fun c_1_ => ?_)
  · skip
    refine J_iconst (v := (-1)) 16 dX5_sheet_16 rfl ?_
    exact J_iret 17 dX5_sheet_17 rfl rfl
  · skip
    refine J_iload_n 7 2 dX5_sheet_7 rfl rfl ?_
    refine J_iconst (v := (-1)) 8 dX5_sheet_8 rfl ?_
    refine J_iconst (v := 3) 9 dX5_sheet_9 rfl ?_
    refine kb_RX5_65 (bs' := [wMe o (An 0) (Ak 0) (At 0) (Ad 0) kk tp rw rc sh sf de]) (rest := []) (st' := [.int (bI ((-1) ≤ v ∧ v ≤ 3))]) 10 (c_X5_within l G v (-1) 3 ) [] rfl rfl [] rfl rfl rfl rfl rfl rfl (Nat.le_of_ble_eq_true rfl) rfl dX5_sheet_10 ?_
    refine J_ifB_ne (tgt := 18) 13 dX5_sheet_13 (by decide) (fun c_2_ => ?_) (fun c_2_ => ?_)
    · skip
      exact absurd ⟨by assumption, by assumption⟩ hw
    · skip
      refine J_iconst (v := (-1)) 16 dX5_sheet_16 rfl ?_
      exact J_iret 17 dX5_sheet_17 rfl rfl
set_option maxRecDepth 100000 in
set_option maxHeartbeats 4000000 in
theorem c_X5_sheet_miss (l : Launch) (G : Gd) (s : Nat) (n : Int32) (Sa : Nat) (o : Nat) (An : Nat → Nat) (Ak : Nat → Nat) (At : Nat → Nat) (Ad : Nat → Nat) (kk : Int32) (tp : Nat) (rw : Nat) (rc : Nat) (sh : Nat) (sf : Nat) (de : Nat) (shf : Nat → Option Nat) (so : Int32) (sz : Int32) (im : Nat) (it : Nat → Int64) (hs : s ≤ 3) (hx : shf s = some Sa) : Ct l G yX5_sheet cX5_sheet 4 (some (FieldType.int)) 2 [.ref o, .int (nI s), .int (-1), .int n] (wF [wMe o (An 0) (Ak 0) (At 0) (Ad 0) kk tp rw rc sh sf de, wQ G sh 4 3 shf, wSh Sa so sz im, wJ G im 40 it]) (some (.int 1)) (wF [wMe o (An 0) (Ak 0) (At 0) (Ad 0) kk tp rw rc sh sf de, wQ G sh 4 3 shf, wSh Sa (-1) 0 im, wJ G im 40 (fun _ => 0)]) := by
  refine Ct.of "GooseArms" [some (.ref o), some (.int (nI s)), some (.int (-1)), some (.int n)] (by decide +kernel) rfl (Nat.le_of_ble_eq_true rfl) rfl ?_
  refine J_iload_n 0 1 dX5_sheet_0 rfl rfl ?_
  refine kb_RX5_219 (bs' := [wMe o (An 0) (Ak 0) (At 0) (Ad 0) kk tp rw rc sh sf de, wQ G sh 4 3 shf, wSh Sa so sz im, wJ G im 40 it]) (rest := []) (st' := [.int 1]) 1 (c_X5_isPlace_t l G s (by first | omega | assumption)) [] rfl rfl [] rfl rfl rfl rfl rfl rfl (Nat.le_of_ble_eq_true rfl) rfl dX5_sheet_1 ?_
  refine J_if_eq (tgt := 16) 4 dX5_sheet_4 (by decide) (fun c_1_ => absurd c_1_ (by decide)) (fun _ => ?_)
  refine J_iload_n 7 2 dX5_sheet_7 rfl rfl ?_
  refine J_iconst (v := (-1)) 8 dX5_sheet_8 rfl ?_
  refine J_iconst (v := 3) 9 dX5_sheet_9 rfl ?_
  refine kb_RX5_65 (bs' := [wMe o (An 0) (Ak 0) (At 0) (Ad 0) kk tp rw rc sh sf de, wQ G sh 4 3 shf, wSh Sa so sz im, wJ G im 40 it]) (rest := []) (st' := [.int 1]) 10 (c_X5_within_t l G (-1) (-1) 3 (by decide)) [] rfl rfl [] rfl rfl rfl rfl rfl rfl (Nat.le_of_ble_eq_true rfl) rfl dX5_sheet_10 ?_
  refine J_if_ne (tgt := 18) 13 dX5_sheet_13 (by decide) (fun _ => ?_) (fun c_2_ => absurd c_2_ (by decide))
  refine J_iload_n 18 2 dX5_sheet_18 rfl rfl ?_
  refine J_iconst (v := (-1)) 19 dX5_sheet_19 rfl ?_
  refine J_icmp_ne (tgt := 36) 20 dX5_sheet_20 (by decide) (fun c_3_ => absurd c_3_ (by decide)) (fun _ => ?_)
  refine J_aload_n 23 0 dX5_sheet_23 rfl rfl ?_
  refine g_204 (v := .ref sh) 24 0 rfl rfl dX5_sheet_24 ?_
  refine J_iload_n 27 1 dX5_sheet_27 rfl rfl ?_
  refine J_aldq (b := Sa) 28 1 3 s rfl rfl rfl (by omega) (by decide) hx dX5_sheet_28 ?_
  refine J_iload_n 29 2 dX5_sheet_29 rfl rfl ?_
  refine J_iconst (v := 0) 30 dX5_sheet_30 rfl ?_
  refine kb_RX5_270 (bs' := [wMe o (An 0) (Ak 0) (At 0) (Ad 0) kk tp rw rc sh sf de, wQ G sh 4 3 shf, wSh Sa (-1) 0 im, wJ G im 40 (fun _ => 0)]) (rest := []) (st' := []) 31 (c_X2_becomes l G (-1) 0 Sa so sz im it ) [2, 3] 2 rfl rfl rfl [[Sa], [im]] rfl rfl rfl rfl rfl rfl (Nat.le_of_ble_eq_true rfl) rfl dX5_sheet_31 ?_
  refine J_iconst (v := 1) 34 dX5_sheet_34 rfl ?_
  exact J_iret 35 dX5_sheet_35 rfl rfl
set_option maxRecDepth 100000 in
set_option maxHeartbeats 4000000 in
theorem c_X5_sheet_big (l : Launch) (G : Gd) (s : Nat) (v : Int32) (n : Int32) (o : Nat) (An : Nat → Nat) (Ak : Nat → Nat) (At : Nat → Nat) (Ad : Nat → Nat) (kk : Int32) (tp : Nat) (rw : Nat) (rc : Nat) (sh : Nat) (sf : Nat) (de : Nat) (hs : s ≤ 3) (hv : -1 ≤ v ∧ v ≤ 3) (hv1 : ¬ v = -1) (hn : ¬ n ≤ 40) : Ct l G yX5_sheet cX5_sheet 4 (some (FieldType.int)) 2 [.ref o, .int (nI s), .int v, .int n] (wF [wMe o (An 0) (Ak 0) (At 0) (Ad 0) kk tp rw rc sh sf de]) (some (.int (-1))) (wF [wMe o (An 0) (Ak 0) (At 0) (Ad 0) kk tp rw rc sh sf de]) := by
  refine Ct.of "GooseArms" [some (.ref o), some (.int (nI s)), some (.int v), some (.int n)] (by decide +kernel) rfl (Nat.le_of_ble_eq_true rfl) rfl ?_
  refine J_iload_n 0 1 dX5_sheet_0 rfl rfl ?_
  refine kb_RX5_219 (bs' := [wMe o (An 0) (Ak 0) (At 0) (Ad 0) kk tp rw rc sh sf de]) (rest := []) (st' := [.int 1]) 1 (c_X5_isPlace_t l G s (by first | omega | assumption)) [] rfl rfl [] rfl rfl rfl rfl rfl rfl (Nat.le_of_ble_eq_true rfl) rfl dX5_sheet_1 ?_
  refine J_if_eq (tgt := 16) 4 dX5_sheet_4 (by decide) (fun c_1_ => absurd c_1_ (by decide)) (fun _ => ?_)
  refine J_iload_n 7 2 dX5_sheet_7 rfl rfl ?_
  refine J_iconst (v := (-1)) 8 dX5_sheet_8 rfl ?_
  refine J_iconst (v := 3) 9 dX5_sheet_9 rfl ?_
  refine kb_RX5_65 (bs' := [wMe o (An 0) (Ak 0) (At 0) (Ad 0) kk tp rw rc sh sf de]) (rest := []) (st' := [.int 1]) 10 (c_X5_within_t l G v (-1) 3 hv) [] rfl rfl [] rfl rfl rfl rfl rfl rfl (Nat.le_of_ble_eq_true rfl) rfl dX5_sheet_10 ?_
  refine J_if_ne (tgt := 18) 13 dX5_sheet_13 (by decide) (fun _ => ?_) (fun c_2_ => absurd c_2_ (by decide))
  refine J_iload_n 18 2 dX5_sheet_18 rfl rfl ?_
  refine J_iconst (v := (-1)) 19 dX5_sheet_19 rfl ?_
  refine J_icmp_ne (tgt := 36) 20 dX5_sheet_20 (by decide) (fun c_3_ => ?_) (fun c_3_ => ?_)
  · skip
    refine J_iload_n 36 3 dX5_sheet_36 rfl rfl ?_
    refine J_bipush (v := 40) 37 dX5_sheet_37 rfl ?_
    refine J_icmp_le (tgt := 44) 39 dX5_sheet_39 (by decide) (fun c_4_ => ?_) (fun c_4_ => ?_)
    · skip
      exact absurd c_4_ hn
    · skip
      refine J_iconst (v := (-1)) 42 dX5_sheet_42 rfl ?_
      exact J_iret 43 dX5_sheet_43 rfl rfl
  · skip
    exact absurd c_3_ hv1
set_option maxRecDepth 100000 in
set_option maxHeartbeats 4000000 in
theorem c_X5_sheet_neg (l : Launch) (G : Gd) (s : Nat) (v : Int32) (n : Int32) (o : Nat) (An : Nat → Nat) (Ak : Nat → Nat) (At : Nat → Nat) (Ad : Nat → Nat) (kk : Int32) (tp : Nat) (rw : Nat) (rc : Nat) (sh : Nat) (sf : Nat) (de : Nat) (hs : s ≤ 3) (hv : -1 ≤ v ∧ v ≤ 3) (hv1 : ¬ v = -1) (hn : n ≤ 40) (hn0 : n < 0) : Ct l G yX5_sheet cX5_sheet 4 (some (FieldType.int)) 2 [.ref o, .int (nI s), .int v, .int n] (wF [wMe o (An 0) (Ak 0) (At 0) (Ad 0) kk tp rw rc sh sf de]) (some (.int (-14))) (wF [wMe o (An 0) (Ak 0) (At 0) (Ad 0) kk tp rw rc sh sf de]) := by
  refine Ct.of "GooseArms" [some (.ref o), some (.int (nI s)), some (.int v), some (.int n)] (by decide +kernel) rfl (Nat.le_of_ble_eq_true rfl) rfl ?_
  refine J_iload_n 0 1 dX5_sheet_0 rfl rfl ?_
  refine kb_RX5_219 (bs' := [wMe o (An 0) (Ak 0) (At 0) (Ad 0) kk tp rw rc sh sf de]) (rest := []) (st' := [.int 1]) 1 (c_X5_isPlace_t l G s (by first | omega | assumption)) [] rfl rfl [] rfl rfl rfl rfl rfl rfl (Nat.le_of_ble_eq_true rfl) rfl dX5_sheet_1 ?_
  refine J_if_eq (tgt := 16) 4 dX5_sheet_4 (by decide) (fun c_1_ => absurd c_1_ (by decide)) (fun _ => ?_)
  refine J_iload_n 7 2 dX5_sheet_7 rfl rfl ?_
  refine J_iconst (v := (-1)) 8 dX5_sheet_8 rfl ?_
  refine J_iconst (v := 3) 9 dX5_sheet_9 rfl ?_
  refine kb_RX5_65 (bs' := [wMe o (An 0) (Ak 0) (At 0) (Ad 0) kk tp rw rc sh sf de]) (rest := []) (st' := [.int 1]) 10 (c_X5_within_t l G v (-1) 3 hv) [] rfl rfl [] rfl rfl rfl rfl rfl rfl (Nat.le_of_ble_eq_true rfl) rfl dX5_sheet_10 ?_
  refine J_if_ne (tgt := 18) 13 dX5_sheet_13 (by decide) (fun _ => ?_) (fun c_2_ => absurd c_2_ (by decide))
  refine J_iload_n 18 2 dX5_sheet_18 rfl rfl ?_
  refine J_iconst (v := (-1)) 19 dX5_sheet_19 rfl ?_
  refine J_icmp_ne (tgt := 36) 20 dX5_sheet_20 (by decide) (fun c_3_ => ?_) (fun c_3_ => ?_)
  · skip
    refine J_iload_n 36 3 dX5_sheet_36 rfl rfl ?_
    refine J_bipush (v := 40) 37 dX5_sheet_37 rfl ?_
    refine J_icmp_le (tgt := 44) 39 dX5_sheet_39 (by decide) (fun c_4_ => ?_) (fun c_4_ => ?_)
    · skip
      refine J_iload_n 44 3 dX5_sheet_44 rfl rfl ?_
      refine J_if_ge (tgt := 51) 45 dX5_sheet_45 (by decide) (fun c_5_ => ?_) (fun c_5_ => ?_)
      · skip
        exact absurd hn0 (Int32.not_lt.mpr c_5_)
      · skip
        refine J_bipush (v := (-14)) 48 dX5_sheet_48 rfl ?_
        exact J_iret 50 dX5_sheet_50 rfl rfl
    · skip
      exact absurd hn c_4_
  · skip
    exact absurd c_3_ hv1
set_option maxRecDepth 100000 in
set_option maxHeartbeats 4000000 in
theorem c_X5_sheet_ok (l : Launch) (G : Gd) (s : Nat) (v : Int32) (n : Nat) (Sa : Nat) (o : Nat) (An : Nat → Nat) (Ak : Nat → Nat) (At : Nat → Nat) (Ad : Nat → Nat) (kk : Int32) (tp : Nat) (rw : Nat) (rc : Nat) (sh : Nat) (sf : Nat) (de : Nat) (shf : Nat → Option Nat) (so : Int32) (sz : Int32) (im : Nat) (it : Nat → Int64) (hs : s ≤ 3) (hx : shf s = some Sa) (hv : -1 ≤ v ∧ v ≤ 3) (hv1 : ¬ v = -1) (hn : n ≤ 40) : Ct l G yX5_sheet cX5_sheet 4 (some (FieldType.int)) 2 [.ref o, .int (nI s), .int v, .int (nI n)] (wF [wMe o (An 0) (Ak 0) (At 0) (Ad 0) kk tp rw rc sh sf de, wQ G sh 4 3 shf, wSh Sa so sz im, wJ G im 40 it]) (some (.int 1)) (wF [wMe o (An 0) (Ak 0) (At 0) (Ad 0) kk tp rw rc sh sf de, wQ G sh 4 3 shf, wSh Sa v (nI n) im, wJ G im 40 (fun _ => 0)]) := by
  refine Ct.of "GooseArms" [some (.ref o), some (.int (nI s)), some (.int v), some (.int (nI n))] (by decide +kernel) rfl (Nat.le_of_ble_eq_true rfl) rfl ?_
  refine J_iload_n 0 1 dX5_sheet_0 rfl rfl ?_
  refine kb_RX5_219 (bs' := [wMe o (An 0) (Ak 0) (At 0) (Ad 0) kk tp rw rc sh sf de, wQ G sh 4 3 shf, wSh Sa so sz im, wJ G im 40 it]) (rest := []) (st' := [.int 1]) 1 (c_X5_isPlace_t l G s (by first | omega | assumption)) [] rfl rfl [] rfl rfl rfl rfl rfl rfl (Nat.le_of_ble_eq_true rfl) rfl dX5_sheet_1 ?_
  refine J_if_eq (tgt := 16) 4 dX5_sheet_4 (by decide) (fun c_1_ => absurd c_1_ (by decide)) (fun _ => ?_)
  refine J_iload_n 7 2 dX5_sheet_7 rfl rfl ?_
  refine J_iconst (v := (-1)) 8 dX5_sheet_8 rfl ?_
  refine J_iconst (v := 3) 9 dX5_sheet_9 rfl ?_
  refine kb_RX5_65 (bs' := [wMe o (An 0) (Ak 0) (At 0) (Ad 0) kk tp rw rc sh sf de, wQ G sh 4 3 shf, wSh Sa so sz im, wJ G im 40 it]) (rest := []) (st' := [.int 1]) 10 (c_X5_within_t l G v (-1) 3 hv) [] rfl rfl [] rfl rfl rfl rfl rfl rfl (Nat.le_of_ble_eq_true rfl) rfl dX5_sheet_10 ?_
  refine J_if_ne (tgt := 18) 13 dX5_sheet_13 (by decide) (fun _ => ?_) (fun c_2_ => absurd c_2_ (by decide))
  refine J_iload_n 18 2 dX5_sheet_18 rfl rfl ?_
  refine J_iconst (v := (-1)) 19 dX5_sheet_19 rfl ?_
  refine J_icmp_ne (tgt := 36) 20 dX5_sheet_20 (by decide) (fun c_3_ => ?_) (fun c_3_ => ?_)
  · skip
    refine J_iload_n 36 3 dX5_sheet_36 rfl rfl ?_
    refine J_bipush (v := 40) 37 dX5_sheet_37 rfl ?_
    refine J_icmp_le (tgt := 44) 39 dX5_sheet_39 (by decide) (fun c_4_ => ?_) (fun c_4_ => ?_)
    · skip
      have c_4_ : n ≤ 40 := (nI_leI (a := n) (b := 40) (by omega) (by omega)).mp c_4_
      refine J_iload_n 44 3 dX5_sheet_44 rfl rfl ?_
      refine J_if_ge (tgt := 51) 45 dX5_sheet_45 (by decide) (fun c_5_ => ?_) (fun c_5_ => ?_)
      · skip
        have c_5_ : 0 ≤ n := (nI_leI (a := 0) (b := n) (by omega) (by omega)).mp c_5_
        refine J_aload_n 51 0 dX5_sheet_51 rfl rfl ?_
        refine g_204 (v := .ref sh) 52 0 rfl rfl dX5_sheet_52 ?_
        refine J_iload_n 55 1 dX5_sheet_55 rfl rfl ?_
        refine J_aldq (b := Sa) 56 1 3 s rfl rfl rfl (by omega) (by decide) hx dX5_sheet_56 ?_
        refine J_iload_n 57 2 dX5_sheet_57 rfl rfl ?_
        refine J_iload_n 58 3 dX5_sheet_58 rfl rfl ?_
        refine kb_RX5_270 (bs' := [wMe o (An 0) (Ak 0) (At 0) (Ad 0) kk tp rw rc sh sf de, wQ G sh 4 3 shf, wSh Sa v (nI n) im, wJ G im 40 (fun _ => 0)]) (rest := []) (st' := []) 59 (c_X2_becomes l G v (nI n) Sa so sz im it ) [2, 3] 2 rfl rfl rfl [[Sa], [im]] rfl rfl rfl rfl rfl rfl (Nat.le_of_ble_eq_true rfl) rfl dX5_sheet_59 ?_
        refine J_iconst (v := 1) 62 dX5_sheet_62 rfl ?_
        exact J_iret 63 dX5_sheet_63 rfl rfl
      · skip
        have c_5_ : ¬ 0 ≤ n := fun z_ => c_5_ ((nI_leI (a := 0) (b := n) (by omega) (by omega)).mpr z_)
        omega
    · skip
      have c_4_ : ¬ n ≤ 40 := fun z_ => c_4_ ((nI_leI (a := n) (b := 40) (by omega) (by omega)).mpr z_)
      omega
  · skip
    exact absurd c_3_ hv1
set_option maxRecDepth 100000 in
set_option maxHeartbeats 4000000 in
theorem c_X5_put_bad (l : Launch) (G : Gd) (s : Int32) (i : Int32) (v : Int32) (o : Nat) (An : Nat → Nat) (Ak : Nat → Nat) (At : Nat → Nat) (Ad : Nat → Nat) (kk : Int32) (tp : Nat) (rw : Nat) (rc : Nat) (sh : Nat) (sf : Nat) (de : Nat) (hw : ¬ (0 ≤ s ∧ s ≤ 3)) : Ct l G yX5_put cX5_put 5 (some (FieldType.int)) 2 [.ref o, .int s, .int i, .int v] (wF [wMe o (An 0) (Ak 0) (At 0) (Ad 0) kk tp rw rc sh sf de]) (some (.int (-1))) (wF [wMe o (An 0) (Ak 0) (At 0) (Ad 0) kk tp rw rc sh sf de]) := by
  refine Ct.of "GooseArms" [some (.ref o), some (.int s), some (.int i), some (.int v), none] (by decide +kernel) rfl (Nat.le_of_ble_eq_true rfl) rfl ?_
  refine J_iload_n 0 1 dX5_put_0 rfl rfl ?_
  refine kb_RX5_219 (bs' := [wMe o (An 0) (Ak 0) (At 0) (Ad 0) kk tp rw rc sh sf de]) (rest := []) (st' := [.int 0]) 1 (c_X5_isPlace_f l G s (by first | omega | assumption)) [] rfl rfl [] rfl rfl rfl rfl rfl rfl (Nat.le_of_ble_eq_true rfl) rfl dX5_put_1 ?_
  refine J_if_ne (tgt := 9) 4 dX5_put_4 (by decide) (fun c_1_ => absurd c_1_ (by decide)) (fun _ => ?_)
  refine J_iconst (v := (-1)) 7 dX5_put_7 rfl ?_
  exact J_iret 8 dX5_put_8 rfl rfl
set_option maxRecDepth 100000 in
set_option maxHeartbeats 4000000 in
theorem c_X5_put_miss (l : Launch) (G : Gd) (s : Nat) (i : Int32) (v : Int32) (Sa : Nat) (o : Nat) (An : Nat → Nat) (Ak : Nat → Nat) (At : Nat → Nat) (Ad : Nat → Nat) (kk : Int32) (tp : Nat) (rw : Nat) (rc : Nat) (sh : Nat) (sf : Nat) (de : Nat) (shf : Nat → Option Nat) (so : Int32) (m : Nat) (im : Nat) (hs : s ≤ 3) (hx : shf s = some Sa) (hso : so = -1) : Ct l G yX5_put cX5_put 5 (some (FieldType.int)) 2 [.ref o, .int (nI s), .int i, .int v] (wF [wMe o (An 0) (Ak 0) (At 0) (Ad 0) kk tp rw rc sh sf de, wQ G sh 4 3 shf, wSh Sa so (nI m) im]) (some (.int (-11))) (wF [wMe o (An 0) (Ak 0) (At 0) (Ad 0) kk tp rw rc sh sf de, wQ G sh 4 3 shf, wSh Sa so (nI m) im]) := by
  refine Ct.of "GooseArms" [some (.ref o), some (.int (nI s)), some (.int i), some (.int v), none] (by decide +kernel) rfl (Nat.le_of_ble_eq_true rfl) rfl ?_
  refine J_iload_n 0 1 dX5_put_0 rfl rfl ?_
  refine kb_RX5_219 (bs' := [wMe o (An 0) (Ak 0) (At 0) (Ad 0) kk tp rw rc sh sf de, wQ G sh 4 3 shf, wSh Sa so (nI m) im]) (rest := []) (st' := [.int 1]) 1 (c_X5_isPlace_t l G s (by first | omega | assumption)) [] rfl rfl [] rfl rfl rfl rfl rfl rfl (Nat.le_of_ble_eq_true rfl) rfl dX5_put_1 ?_
  refine J_if_ne (tgt := 9) 4 dX5_put_4 (by decide) (fun _ => ?_) (fun c_1_ => absurd c_1_ (by decide))
  refine J_aload_n 9 0 dX5_put_9 rfl rfl ?_
  refine g_204 (v := .ref sh) 10 0 rfl rfl dX5_put_10 ?_
  refine J_iload_n 13 1 dX5_put_13 rfl rfl ?_
  refine J_aldq (b := Sa) 14 1 3 s rfl rfl rfl (by omega) (by decide) hx dX5_put_14 ?_
  refine J_astore (lv' := [some (.ref o), some (.int (nI s)), some (.int i), some (.int v), some (.ref Sa)]) 15 dX5_put_15 (by decide) rfl ?_
  refine J_aload 17 dX5_put_17 rfl ?_
  refine kb_RX5_222 (bs' := [wMe o (An 0) (Ak 0) (At 0) (Ad 0) kk tp rw rc sh sf de, wQ G sh 4 3 shf, wSh Sa so (nI m) im]) (rest := []) (st' := [.int (bI (so = -1))]) 19 (c_X2_isMissing l G Sa so (nI m) im ) [2] 2 rfl rfl rfl [[Sa]] rfl rfl rfl rfl rfl rfl (Nat.le_of_ble_eq_true rfl) rfl dX5_put_19 ?_
  refine J_ifB_eq (tgt := 28) 22 dX5_put_22 (by decide) (fun c_2_ => ?_) (fun c_2_ => ?_)
  · skip
    exact absurd hso c_2_
  · skip
    refine J_bipush (v := (-11)) 25 dX5_put_25 rfl ?_
    exact J_iret 27 dX5_put_27 rfl rfl
set_option maxRecDepth 100000 in
set_option maxHeartbeats 4000000 in
theorem c_X5_put_out (l : Launch) (G : Gd) (s : Nat) (i : Int32) (v : Int32) (Sa : Nat) (o : Nat) (An : Nat → Nat) (Ak : Nat → Nat) (At : Nat → Nat) (Ad : Nat → Nat) (kk : Int32) (tp : Nat) (rw : Nat) (rc : Nat) (sh : Nat) (sf : Nat) (de : Nat) (shf : Nat → Option Nat) (so : Int32) (m : Nat) (im : Nat) (hs : s ≤ 3) (hx : shf s = some Sa) (hso : ¬ so = -1) (hw : ¬ (0 ≤ i ∧ i ≤ nI m - 1)) : Ct l G yX5_put cX5_put 5 (some (FieldType.int)) 2 [.ref o, .int (nI s), .int i, .int v] (wF [wMe o (An 0) (Ak 0) (At 0) (Ad 0) kk tp rw rc sh sf de, wQ G sh 4 3 shf, wSh Sa so (nI m) im]) (some (.int (-12))) (wF [wMe o (An 0) (Ak 0) (At 0) (Ad 0) kk tp rw rc sh sf de, wQ G sh 4 3 shf, wSh Sa so (nI m) im]) := by
  refine Ct.of "GooseArms" [some (.ref o), some (.int (nI s)), some (.int i), some (.int v), none] (by decide +kernel) rfl (Nat.le_of_ble_eq_true rfl) rfl ?_
  refine J_iload_n 0 1 dX5_put_0 rfl rfl ?_
  refine kb_RX5_219 (bs' := [wMe o (An 0) (Ak 0) (At 0) (Ad 0) kk tp rw rc sh sf de, wQ G sh 4 3 shf, wSh Sa so (nI m) im]) (rest := []) (st' := [.int 1]) 1 (c_X5_isPlace_t l G s (by first | omega | assumption)) [] rfl rfl [] rfl rfl rfl rfl rfl rfl (Nat.le_of_ble_eq_true rfl) rfl dX5_put_1 ?_
  refine J_if_ne (tgt := 9) 4 dX5_put_4 (by decide) (fun _ => ?_) (fun c_1_ => absurd c_1_ (by decide))
  refine J_aload_n 9 0 dX5_put_9 rfl rfl ?_
  refine g_204 (v := .ref sh) 10 0 rfl rfl dX5_put_10 ?_
  refine J_iload_n 13 1 dX5_put_13 rfl rfl ?_
  refine J_aldq (b := Sa) 14 1 3 s rfl rfl rfl (by omega) (by decide) hx dX5_put_14 ?_
  refine J_astore (lv' := [some (.ref o), some (.int (nI s)), some (.int i), some (.int v), some (.ref Sa)]) 15 dX5_put_15 (by decide) rfl ?_
  refine J_aload 17 dX5_put_17 rfl ?_
  refine kb_RX5_222 (bs' := [wMe o (An 0) (Ak 0) (At 0) (Ad 0) kk tp rw rc sh sf de, wQ G sh 4 3 shf, wSh Sa so (nI m) im]) (rest := []) (st' := [.int (bI (so = -1))]) 19 (c_X2_isMissing l G Sa so (nI m) im ) [2] 2 rfl rfl rfl [[Sa]] rfl rfl rfl rfl rfl rfl (Nat.le_of_ble_eq_true rfl) rfl dX5_put_19 ?_
  refine J_ifB_eq (tgt := 28) 22 dX5_put_22 (by decide) (fun c_2_ => ?_) (fun c_2_ => ?_)
  · skip
    refine J_iload_n 28 2 dX5_put_28 rfl rfl ?_
    refine J_iconst (v := 0) 29 dX5_put_29 rfl ?_
    refine J_aload 30 dX5_put_30 rfl ?_
    refine g_133 (v := .int (nI m)) 32 2 rfl rfl dX5_put_32 ?_
    refine J_iconst (v := 1) 35 dX5_put_35 rfl ?_
    refine J_isub 36 dX5_put_36 ?_
    refine kb_RX5_65 (bs' := [wMe o (An 0) (Ak 0) (At 0) (Ad 0) kk tp rw rc sh sf de, wQ G sh 4 3 shf, wSh Sa so (nI m) im]) (rest := []) (st' := [.int 0]) 37 (c_X5_within_f l G i 0 ((nI m) - 1) hw) [] rfl rfl [] rfl rfl rfl rfl rfl rfl (Nat.le_of_ble_eq_true rfl) rfl dX5_put_37 ?_
    refine J_if_ne (tgt := 46) 40 dX5_put_40 (by decide) (fun c_3_ => absurd c_3_ (by decide)) (fun _ => ?_)
    refine J_bipush (v := (-12)) 43 dX5_put_43 rfl ?_
    exact J_iret 45 dX5_put_45 rfl rfl
  · skip
    exact absurd c_2_ hso
set_option maxRecDepth 100000 in
set_option maxHeartbeats 4000000 in
theorem c_X5_put_ok (l : Launch) (G : Gd) (s : Nat) (i : Nat) (v : Int32) (Sa : Nat) (o : Nat) (An : Nat → Nat) (Ak : Nat → Nat) (At : Nat → Nat) (Ad : Nat → Nat) (kk : Int32) (tp : Nat) (rw : Nat) (rc : Nat) (sh : Nat) (sf : Nat) (de : Nat) (shf : Nat → Option Nat) (so : Int32) (m : Nat) (im : Nat) (it : Nat → Int64) (hs : s ≤ 3) (hx : shf s = some Sa) (hso : ¬ so = -1) (hm : m ≤ 40) (hi : i < m) : Ct l G yX5_put cX5_put 5 (some (FieldType.int)) 2 [.ref o, .int (nI s), .int (nI i), .int v] (wF [wMe o (An 0) (Ak 0) (At 0) (Ad 0) kk tp rw rc sh sf de, wQ G sh 4 3 shf, wSh Sa so (nI m) im, wJ G im 40 it]) (some (.int 1)) (wF [wMe o (An 0) (Ak 0) (At 0) (Ad 0) kk tp rw rc sh sf de, wQ G sh 4 3 shf, wSh Sa so (nI m) im, wJ G im 40 (vp_updL it i (fNar so v))]) := by
  refine Ct.of "GooseArms" [some (.ref o), some (.int (nI s)), some (.int (nI i)), some (.int v), none] (by decide +kernel) rfl (Nat.le_of_ble_eq_true rfl) rfl ?_
  refine J_iload_n 0 1 dX5_put_0 rfl rfl ?_
  refine kb_RX5_219 (bs' := [wMe o (An 0) (Ak 0) (At 0) (Ad 0) kk tp rw rc sh sf de, wQ G sh 4 3 shf, wSh Sa so (nI m) im, wJ G im 40 it]) (rest := []) (st' := [.int 1]) 1 (c_X5_isPlace_t l G s (by first | omega | assumption)) [] rfl rfl [] rfl rfl rfl rfl rfl rfl (Nat.le_of_ble_eq_true rfl) rfl dX5_put_1 ?_
  refine J_if_ne (tgt := 9) 4 dX5_put_4 (by decide) (fun _ => ?_) (fun c_1_ => absurd c_1_ (by decide))
  refine J_aload_n 9 0 dX5_put_9 rfl rfl ?_
  refine g_204 (v := .ref sh) 10 0 rfl rfl dX5_put_10 ?_
  refine J_iload_n 13 1 dX5_put_13 rfl rfl ?_
  refine J_aldq (b := Sa) 14 1 3 s rfl rfl rfl (by omega) (by decide) hx dX5_put_14 ?_
  refine J_astore (lv' := [some (.ref o), some (.int (nI s)), some (.int (nI i)), some (.int v), some (.ref Sa)]) 15 dX5_put_15 (by decide) rfl ?_
  refine J_aload 17 dX5_put_17 rfl ?_
  refine kb_RX5_222 (bs' := [wMe o (An 0) (Ak 0) (At 0) (Ad 0) kk tp rw rc sh sf de, wQ G sh 4 3 shf, wSh Sa so (nI m) im, wJ G im 40 it]) (rest := []) (st' := [.int (bI (so = -1))]) 19 (c_X2_isMissing l G Sa so (nI m) im ) [2] 2 rfl rfl rfl [[Sa]] rfl rfl rfl rfl rfl rfl (Nat.le_of_ble_eq_true rfl) rfl dX5_put_19 ?_
  refine J_ifB_eq (tgt := 28) 22 dX5_put_22 (by decide) (fun c_2_ => ?_) (fun c_2_ => ?_)
  · skip
    refine J_iload_n 28 2 dX5_put_28 rfl rfl ?_
    refine J_iconst (v := 0) 29 dX5_put_29 rfl ?_
    refine J_aload 30 dX5_put_30 rfl ?_
    refine g_133 (v := .int (nI m)) 32 2 rfl rfl dX5_put_32 ?_
    refine J_iconst (v := 1) 35 dX5_put_35 rfl ?_
    refine J_isub 36 dX5_put_36 ?_
    refine kb_RX5_65 (bs' := [wMe o (An 0) (Ak 0) (At 0) (Ad 0) kk tp rw rc sh sf de, wQ G sh 4 3 shf, wSh Sa so (nI m) im, wJ G im 40 it]) (rest := []) (st' := [.int 1]) 37 (c_X5_within_t l G (nI i) 0 ((nI m) - 1) (inR_t hi (by omega))) [] rfl rfl [] rfl rfl rfl rfl rfl rfl (Nat.le_of_ble_eq_true rfl) rfl dX5_put_37 ?_
    refine J_if_ne (tgt := 46) 40 dX5_put_40 (by decide) (fun _ => ?_) (fun c_3_ => absurd c_3_ (by decide))
    refine J_aload 46 dX5_put_46 rfl ?_
    refine g_135 (v := .ref im) 48 2 rfl rfl dX5_put_48 ?_
    refine J_iload_n 51 2 dX5_put_51 rfl rfl ?_
    refine J_aload 52 dX5_put_52 rfl ?_
    refine J_iload_n 54 3 dX5_put_54 rfl rfl ?_
    refine kb_RX5_273 (bs' := [wMe o (An 0) (Ak 0) (At 0) (Ad 0) kk tp rw rc sh sf de, wQ G sh 4 3 shf, wSh Sa so (nI m) im, wJ G im 40 it]) (rest := [.int (nI i), .ref im]) (st' := [.long (fNar so v), .int (nI i), .ref im]) 55 (c_X2_narrowed l G v Sa so (nI m) im ) [2] 2 rfl rfl rfl [[Sa]] rfl rfl rfl rfl rfl rfl (Nat.le_of_ble_eq_true rfl) rfl dX5_put_55 ?_
    refine J_last (ws' := (wF [wMe o (An 0) (Ak 0) (At 0) (Ad 0) kk tp rw rc sh sf de, wQ G sh 4 3 shf, wSh Sa so (nI m) im, wJ G im 40 (vp_updL it i (fNar so v))])) 58 3 i rfl rfl (by omega) (by decide) rfl dX5_put_58 ?_
    refine J_iconst (v := 1) 59 dX5_put_59 rfl ?_
    exact J_iret 60 dX5_put_60 rfl rfl
  · skip
    exact absurd c_2_ hso
set_option maxRecDepth 100000 in
set_option maxHeartbeats 4000000 in
theorem c_X5_item_bad (l : Launch) (G : Gd) (s : Int32) (v : Int32) (i : Int32) (o : Nat) (An : Nat → Nat) (Ak : Nat → Nat) (At : Nat → Nat) (Ad : Nat → Nat) (kk : Int32) (tp : Nat) (rw : Nat) (rc : Nat) (sh : Nat) (sf : Nat) (de : Nat) (hw : ¬ ((0 ≤ s ∧ s ≤ 3) ∧ (0 ≤ v ∧ v ≤ 3))) : Ct l G yX5_item cX5_item 5 (some (FieldType.int)) 2 [.ref o, .int s, .int v, .int i] (wF [wMe o (An 0) (Ak 0) (At 0) (Ad 0) kk tp rw rc sh sf de]) (some (.int (-1))) (wF [wMe o (An 0) (Ak 0) (At 0) (Ad 0) kk tp rw rc sh sf de]) := by
  refine Ct.of "GooseArms" [some (.ref o), some (.int s), some (.int v), some (.int i), none] (by decide +kernel) rfl (Nat.le_of_ble_eq_true rfl) rfl ?_
  refine J_iload_n 0 1 dX5_item_0 rfl rfl ?_
  refine kb_RX5_219 (bs' := [wMe o (An 0) (Ak 0) (At 0) (Ad 0) kk tp rw rc sh sf de]) (rest := []) (st' := [.int (bI (0 ≤ s ∧ s ≤ 3))]) 1 (c_X5_isPlace l G s ) [] rfl rfl [] rfl rfl rfl rfl rfl rfl (Nat.le_of_ble_eq_true rfl) rfl dX5_item_1 ?_
  refine J_ifB_eq (tgt := 16) 4 dX5_item_4 (by decide) (fun c_1_ => ?_) (fun c_1_ => ?_)
  · skip
    refine J_iconst (v := (-1)) 16 dX5_item_16 rfl ?_
    exact J_iret 17 dX5_item_17 rfl rfl
  · skip
    refine J_iload_n 7 2 dX5_item_7 rfl rfl ?_
    refine J_iconst (v := 0) 8 dX5_item_8 rfl ?_
    refine J_iconst (v := 3) 9 dX5_item_9 rfl ?_
    refine kb_RX5_65 (bs' := [wMe o (An 0) (Ak 0) (At 0) (Ad 0) kk tp rw rc sh sf de]) (rest := []) (st' := [.int (bI (0 ≤ v ∧ v ≤ 3))]) 10 (c_X5_within l G v 0 3 ) [] rfl rfl [] rfl rfl rfl rfl rfl rfl (Nat.le_of_ble_eq_true rfl) rfl dX5_item_10 ?_
    refine J_ifB_ne (tgt := 18) 13 dX5_item_13 (by decide) (fun c_2_ => ?_) (fun c_2_ => ?_)
    · skip
      exact absurd ⟨by assumption, by assumption⟩ hw
    · skip
      refine J_iconst (v := (-1)) 16 dX5_item_16 rfl ?_
      exact J_iret 17 dX5_item_17 rfl rfl
set_option maxRecDepth 100000 in
set_option maxHeartbeats 4000000 in
theorem c_X5_item_miss (l : Launch) (G : Gd) (s : Nat) (v : Int32) (i : Int32) (Sa : Nat) (o : Nat) (An : Nat → Nat) (Ak : Nat → Nat) (At : Nat → Nat) (Ad : Nat → Nat) (kk : Int32) (tp : Nat) (rw : Nat) (rc : Nat) (sh : Nat) (sf : Nat) (de : Nat) (shf : Nat → Option Nat) (so : Int32) (m : Nat) (im : Nat) (hs : s ≤ 3) (hx : shf s = some Sa) (hv : 0 ≤ v ∧ v ≤ 3) (hso : so = -1) : Ct l G yX5_item cX5_item 5 (some (FieldType.int)) 2 [.ref o, .int (nI s), .int v, .int i] (wF [wMe o (An 0) (Ak 0) (At 0) (Ad 0) kk tp rw rc sh sf de, wQ G sh 4 3 shf, wSh Sa so (nI m) im]) (some (.int (-11))) (wF [wMe o (An 0) (Ak 0) (At 0) (Ad 0) kk tp rw rc sh sf de, wQ G sh 4 3 shf, wSh Sa so (nI m) im]) := by
  refine Ct.of "GooseArms" [some (.ref o), some (.int (nI s)), some (.int v), some (.int i), none] (by decide +kernel) rfl (Nat.le_of_ble_eq_true rfl) rfl ?_
  refine J_iload_n 0 1 dX5_item_0 rfl rfl ?_
  refine kb_RX5_219 (bs' := [wMe o (An 0) (Ak 0) (At 0) (Ad 0) kk tp rw rc sh sf de, wQ G sh 4 3 shf, wSh Sa so (nI m) im]) (rest := []) (st' := [.int 1]) 1 (c_X5_isPlace_t l G s (by first | omega | assumption)) [] rfl rfl [] rfl rfl rfl rfl rfl rfl (Nat.le_of_ble_eq_true rfl) rfl dX5_item_1 ?_
  refine J_if_eq (tgt := 16) 4 dX5_item_4 (by decide) (fun c_1_ => absurd c_1_ (by decide)) (fun _ => ?_)
  refine J_iload_n 7 2 dX5_item_7 rfl rfl ?_
  refine J_iconst (v := 0) 8 dX5_item_8 rfl ?_
  refine J_iconst (v := 3) 9 dX5_item_9 rfl ?_
  refine kb_RX5_65 (bs' := [wMe o (An 0) (Ak 0) (At 0) (Ad 0) kk tp rw rc sh sf de, wQ G sh 4 3 shf, wSh Sa so (nI m) im]) (rest := []) (st' := [.int 1]) 10 (c_X5_within_t l G v 0 3 hv) [] rfl rfl [] rfl rfl rfl rfl rfl rfl (Nat.le_of_ble_eq_true rfl) rfl dX5_item_10 ?_
  refine J_if_ne (tgt := 18) 13 dX5_item_13 (by decide) (fun _ => ?_) (fun c_2_ => absurd c_2_ (by decide))
  refine J_aload_n 18 0 dX5_item_18 rfl rfl ?_
  refine g_204 (v := .ref sh) 19 0 rfl rfl dX5_item_19 ?_
  refine J_iload_n 22 1 dX5_item_22 rfl rfl ?_
  refine J_aldq (b := Sa) 23 1 3 s rfl rfl rfl (by omega) (by decide) hx dX5_item_23 ?_
  refine J_astore (lv' := [some (.ref o), some (.int (nI s)), some (.int v), some (.int i), some (.ref Sa)]) 24 dX5_item_24 (by decide) rfl ?_
  refine J_aload 26 dX5_item_26 rfl ?_
  refine kb_RX5_222 (bs' := [wMe o (An 0) (Ak 0) (At 0) (Ad 0) kk tp rw rc sh sf de, wQ G sh 4 3 shf, wSh Sa so (nI m) im]) (rest := []) (st' := [.int (bI (so = -1))]) 28 (c_X2_isMissing l G Sa so (nI m) im ) [2] 2 rfl rfl rfl [[Sa]] rfl rfl rfl rfl rfl rfl (Nat.le_of_ble_eq_true rfl) rfl dX5_item_28 ?_
  refine J_ifB_eq (tgt := 37) 31 dX5_item_31 (by decide) (fun c_3_ => ?_) (fun c_3_ => ?_)
  · skip
    exact absurd hso c_3_
  · skip
    refine J_bipush (v := (-11)) 34 dX5_item_34 rfl ?_
    exact J_iret 36 dX5_item_36 rfl rfl
set_option maxRecDepth 100000 in
set_option maxHeartbeats 4000000 in
theorem c_X5_item_sort (l : Launch) (G : Gd) (s : Nat) (v : Int32) (i : Int32) (Sa : Nat) (o : Nat) (An : Nat → Nat) (Ak : Nat → Nat) (At : Nat → Nat) (Ad : Nat → Nat) (kk : Int32) (tp : Nat) (rw : Nat) (rc : Nat) (sh : Nat) (sf : Nat) (de : Nat) (shf : Nat → Option Nat) (so : Int32) (m : Nat) (im : Nat) (hs : s ≤ 3) (hx : shf s = some Sa) (hv : 0 ≤ v ∧ v ≤ 3) (hso : ¬ so = -1) (hsv : ¬ so = v) : Ct l G yX5_item cX5_item 5 (some (FieldType.int)) 2 [.ref o, .int (nI s), .int v, .int i] (wF [wMe o (An 0) (Ak 0) (At 0) (Ad 0) kk tp rw rc sh sf de, wQ G sh 4 3 shf, wSh Sa so (nI m) im]) (some (.int (-13))) (wF [wMe o (An 0) (Ak 0) (At 0) (Ad 0) kk tp rw rc sh sf de, wQ G sh 4 3 shf, wSh Sa so (nI m) im]) := by
  refine Ct.of "GooseArms" [some (.ref o), some (.int (nI s)), some (.int v), some (.int i), none] (by decide +kernel) rfl (Nat.le_of_ble_eq_true rfl) rfl ?_
  refine J_iload_n 0 1 dX5_item_0 rfl rfl ?_
  refine kb_RX5_219 (bs' := [wMe o (An 0) (Ak 0) (At 0) (Ad 0) kk tp rw rc sh sf de, wQ G sh 4 3 shf, wSh Sa so (nI m) im]) (rest := []) (st' := [.int 1]) 1 (c_X5_isPlace_t l G s (by first | omega | assumption)) [] rfl rfl [] rfl rfl rfl rfl rfl rfl (Nat.le_of_ble_eq_true rfl) rfl dX5_item_1 ?_
  refine J_if_eq (tgt := 16) 4 dX5_item_4 (by decide) (fun c_1_ => absurd c_1_ (by decide)) (fun _ => ?_)
  refine J_iload_n 7 2 dX5_item_7 rfl rfl ?_
  refine J_iconst (v := 0) 8 dX5_item_8 rfl ?_
  refine J_iconst (v := 3) 9 dX5_item_9 rfl ?_
  refine kb_RX5_65 (bs' := [wMe o (An 0) (Ak 0) (At 0) (Ad 0) kk tp rw rc sh sf de, wQ G sh 4 3 shf, wSh Sa so (nI m) im]) (rest := []) (st' := [.int 1]) 10 (c_X5_within_t l G v 0 3 hv) [] rfl rfl [] rfl rfl rfl rfl rfl rfl (Nat.le_of_ble_eq_true rfl) rfl dX5_item_10 ?_
  refine J_if_ne (tgt := 18) 13 dX5_item_13 (by decide) (fun _ => ?_) (fun c_2_ => absurd c_2_ (by decide))
  refine J_aload_n 18 0 dX5_item_18 rfl rfl ?_
  refine g_204 (v := .ref sh) 19 0 rfl rfl dX5_item_19 ?_
  refine J_iload_n 22 1 dX5_item_22 rfl rfl ?_
  refine J_aldq (b := Sa) 23 1 3 s rfl rfl rfl (by omega) (by decide) hx dX5_item_23 ?_
  refine J_astore (lv' := [some (.ref o), some (.int (nI s)), some (.int v), some (.int i), some (.ref Sa)]) 24 dX5_item_24 (by decide) rfl ?_
  refine J_aload 26 dX5_item_26 rfl ?_
  refine kb_RX5_222 (bs' := [wMe o (An 0) (Ak 0) (At 0) (Ad 0) kk tp rw rc sh sf de, wQ G sh 4 3 shf, wSh Sa so (nI m) im]) (rest := []) (st' := [.int (bI (so = -1))]) 28 (c_X2_isMissing l G Sa so (nI m) im ) [2] 2 rfl rfl rfl [[Sa]] rfl rfl rfl rfl rfl rfl (Nat.le_of_ble_eq_true rfl) rfl dX5_item_28 ?_
  refine J_ifB_eq (tgt := 37) 31 dX5_item_31 (by decide) (fun c_3_ => ?_) (fun c_3_ => ?_)
  · skip
    refine J_aload 37 dX5_item_37 rfl ?_
    refine g_130 (v := .int so) 39 2 rfl rfl dX5_item_39 ?_
    refine J_iload_n 42 2 dX5_item_42 rfl rfl ?_
    refine J_icmp_eq (tgt := 49) 43 dX5_item_43 (by decide) (fun c_4_ => ?_) (fun c_4_ => ?_)
    · skip
      exact absurd c_4_ hsv
    · skip
      refine J_bipush (v := (-13)) 46 dX5_item_46 rfl ?_
      exact J_iret 48 dX5_item_48 rfl rfl
  · skip
    exact absurd c_3_ hso
set_option maxRecDepth 100000 in
set_option maxHeartbeats 4000000 in
theorem c_X5_item_out (l : Launch) (G : Gd) (s : Nat) (v : Int32) (i : Int32) (Sa : Nat) (o : Nat) (An : Nat → Nat) (Ak : Nat → Nat) (At : Nat → Nat) (Ad : Nat → Nat) (kk : Int32) (tp : Nat) (rw : Nat) (rc : Nat) (sh : Nat) (sf : Nat) (de : Nat) (shf : Nat → Option Nat) (so : Int32) (m : Nat) (im : Nat) (hs : s ≤ 3) (hx : shf s = some Sa) (hv : 0 ≤ v ∧ v ≤ 3) (hso : ¬ so = -1) (hsv : so = v) (hw : ¬ (0 ≤ i ∧ i ≤ nI m - 1)) : Ct l G yX5_item cX5_item 5 (some (FieldType.int)) 2 [.ref o, .int (nI s), .int v, .int i] (wF [wMe o (An 0) (Ak 0) (At 0) (Ad 0) kk tp rw rc sh sf de, wQ G sh 4 3 shf, wSh Sa so (nI m) im]) (some (.int (-12))) (wF [wMe o (An 0) (Ak 0) (At 0) (Ad 0) kk tp rw rc sh sf de, wQ G sh 4 3 shf, wSh Sa so (nI m) im]) := by
  refine Ct.of "GooseArms" [some (.ref o), some (.int (nI s)), some (.int v), some (.int i), none] (by decide +kernel) rfl (Nat.le_of_ble_eq_true rfl) rfl ?_
  refine J_iload_n 0 1 dX5_item_0 rfl rfl ?_
  refine kb_RX5_219 (bs' := [wMe o (An 0) (Ak 0) (At 0) (Ad 0) kk tp rw rc sh sf de, wQ G sh 4 3 shf, wSh Sa so (nI m) im]) (rest := []) (st' := [.int 1]) 1 (c_X5_isPlace_t l G s (by first | omega | assumption)) [] rfl rfl [] rfl rfl rfl rfl rfl rfl (Nat.le_of_ble_eq_true rfl) rfl dX5_item_1 ?_
  refine J_if_eq (tgt := 16) 4 dX5_item_4 (by decide) (fun c_1_ => absurd c_1_ (by decide)) (fun _ => ?_)
  refine J_iload_n 7 2 dX5_item_7 rfl rfl ?_
  refine J_iconst (v := 0) 8 dX5_item_8 rfl ?_
  refine J_iconst (v := 3) 9 dX5_item_9 rfl ?_
  refine kb_RX5_65 (bs' := [wMe o (An 0) (Ak 0) (At 0) (Ad 0) kk tp rw rc sh sf de, wQ G sh 4 3 shf, wSh Sa so (nI m) im]) (rest := []) (st' := [.int 1]) 10 (c_X5_within_t l G v 0 3 hv) [] rfl rfl [] rfl rfl rfl rfl rfl rfl (Nat.le_of_ble_eq_true rfl) rfl dX5_item_10 ?_
  refine J_if_ne (tgt := 18) 13 dX5_item_13 (by decide) (fun _ => ?_) (fun c_2_ => absurd c_2_ (by decide))
  refine J_aload_n 18 0 dX5_item_18 rfl rfl ?_
  refine g_204 (v := .ref sh) 19 0 rfl rfl dX5_item_19 ?_
  refine J_iload_n 22 1 dX5_item_22 rfl rfl ?_
  refine J_aldq (b := Sa) 23 1 3 s rfl rfl rfl (by omega) (by decide) hx dX5_item_23 ?_
  refine J_astore (lv' := [some (.ref o), some (.int (nI s)), some (.int v), some (.int i), some (.ref Sa)]) 24 dX5_item_24 (by decide) rfl ?_
  refine J_aload 26 dX5_item_26 rfl ?_
  refine kb_RX5_222 (bs' := [wMe o (An 0) (Ak 0) (At 0) (Ad 0) kk tp rw rc sh sf de, wQ G sh 4 3 shf, wSh Sa so (nI m) im]) (rest := []) (st' := [.int (bI (so = -1))]) 28 (c_X2_isMissing l G Sa so (nI m) im ) [2] 2 rfl rfl rfl [[Sa]] rfl rfl rfl rfl rfl rfl (Nat.le_of_ble_eq_true rfl) rfl dX5_item_28 ?_
  refine J_ifB_eq (tgt := 37) 31 dX5_item_31 (by decide) (fun c_3_ => ?_) (fun c_3_ => ?_)
  · skip
    refine J_aload 37 dX5_item_37 rfl ?_
    refine g_130 (v := .int so) 39 2 rfl rfl dX5_item_39 ?_
    refine J_iload_n 42 2 dX5_item_42 rfl rfl ?_
    refine J_icmp_eq (tgt := 49) 43 dX5_item_43 (by decide) (fun c_4_ => ?_) (fun c_4_ => ?_)
    · skip
      refine J_iload_n 49 3 dX5_item_49 rfl rfl ?_
      refine J_iconst (v := 0) 50 dX5_item_50 rfl ?_
      refine J_aload 51 dX5_item_51 rfl ?_
      refine g_133 (v := .int (nI m)) 53 2 rfl rfl dX5_item_53 ?_
      refine J_iconst (v := 1) 56 dX5_item_56 rfl ?_
      refine J_isub 57 dX5_item_57 ?_
      refine kb_RX5_65 (bs' := [wMe o (An 0) (Ak 0) (At 0) (Ad 0) kk tp rw rc sh sf de, wQ G sh 4 3 shf, wSh Sa so (nI m) im]) (rest := []) (st' := [.int 0]) 58 (c_X5_within_f l G i 0 ((nI m) - 1) hw) [] rfl rfl [] rfl rfl rfl rfl rfl rfl (Nat.le_of_ble_eq_true rfl) rfl dX5_item_58 ?_
      refine J_if_eq (tgt := 75) 61 dX5_item_61 (by decide) (fun _ => ?_) (fun c_5_ => absurd c_5_ (by decide))
      refine J_bipush (v := (-12)) 75 dX5_item_75 rfl ?_
      exact J_iret 77 dX5_item_77 rfl rfl
    · skip
      exact absurd hsv c_4_
  · skip
    exact absurd c_3_ hso
set_option maxRecDepth 100000 in
set_option maxHeartbeats 4000000 in
theorem c_X5_item_ok (l : Launch) (G : Gd) (s : Nat) (v : Int32) (i : Nat) (Sa : Nat) (o : Nat) (An : Nat → Nat) (Ak : Nat → Nat) (At : Nat → Nat) (Ad : Nat → Nat) (kk : Int32) (tp : Nat) (rw : Nat) (rc : Nat) (sh : Nat) (sf : Nat) (de : Nat) (shf : Nat → Option Nat) (so : Int32) (m : Nat) (im : Nat) (it : Nat → Int64) (hs : s ≤ 3) (hx : shf s = some Sa) (hv : 0 ≤ v ∧ v ≤ 3) (hso : ¬ so = -1) (hsv : so = v) (hm : m ≤ 40) (hi : i < m) : Ct l G yX5_item cX5_item 5 (some (FieldType.int)) 2 [.ref o, .int (nI s), .int v, .int (nI i)] (wF [wMe o (An 0) (Ak 0) (At 0) (Ad 0) kk tp rw rc sh sf de, wQ G sh 4 3 shf, wSh Sa so (nI m) im, wJ G im 40 it]) (some (.int ((it i).toInt32))) (wF [wMe o (An 0) (Ak 0) (At 0) (Ad 0) kk tp rw rc sh sf de, wQ G sh 4 3 shf, wSh Sa so (nI m) im, wJ G im 40 it]) := by
  refine Ct.of "GooseArms" [some (.ref o), some (.int (nI s)), some (.int v), some (.int (nI i)), none] (by decide +kernel) rfl (Nat.le_of_ble_eq_true rfl) rfl ?_
  refine J_iload_n 0 1 dX5_item_0 rfl rfl ?_
  refine kb_RX5_219 (bs' := [wMe o (An 0) (Ak 0) (At 0) (Ad 0) kk tp rw rc sh sf de, wQ G sh 4 3 shf, wSh Sa so (nI m) im, wJ G im 40 it]) (rest := []) (st' := [.int 1]) 1 (c_X5_isPlace_t l G s (by first | omega | assumption)) [] rfl rfl [] rfl rfl rfl rfl rfl rfl (Nat.le_of_ble_eq_true rfl) rfl dX5_item_1 ?_
  refine J_if_eq (tgt := 16) 4 dX5_item_4 (by decide) (fun c_1_ => absurd c_1_ (by decide)) (fun _ => ?_)
  refine J_iload_n 7 2 dX5_item_7 rfl rfl ?_
  refine J_iconst (v := 0) 8 dX5_item_8 rfl ?_
  refine J_iconst (v := 3) 9 dX5_item_9 rfl ?_
  refine kb_RX5_65 (bs' := [wMe o (An 0) (Ak 0) (At 0) (Ad 0) kk tp rw rc sh sf de, wQ G sh 4 3 shf, wSh Sa so (nI m) im, wJ G im 40 it]) (rest := []) (st' := [.int 1]) 10 (c_X5_within_t l G v 0 3 hv) [] rfl rfl [] rfl rfl rfl rfl rfl rfl (Nat.le_of_ble_eq_true rfl) rfl dX5_item_10 ?_
  refine J_if_ne (tgt := 18) 13 dX5_item_13 (by decide) (fun _ => ?_) (fun c_2_ => absurd c_2_ (by decide))
  refine J_aload_n 18 0 dX5_item_18 rfl rfl ?_
  refine g_204 (v := .ref sh) 19 0 rfl rfl dX5_item_19 ?_
  refine J_iload_n 22 1 dX5_item_22 rfl rfl ?_
  refine J_aldq (b := Sa) 23 1 3 s rfl rfl rfl (by omega) (by decide) hx dX5_item_23 ?_
  refine J_astore (lv' := [some (.ref o), some (.int (nI s)), some (.int v), some (.int (nI i)), some (.ref Sa)]) 24 dX5_item_24 (by decide) rfl ?_
  refine J_aload 26 dX5_item_26 rfl ?_
  refine kb_RX5_222 (bs' := [wMe o (An 0) (Ak 0) (At 0) (Ad 0) kk tp rw rc sh sf de, wQ G sh 4 3 shf, wSh Sa so (nI m) im, wJ G im 40 it]) (rest := []) (st' := [.int (bI (so = -1))]) 28 (c_X2_isMissing l G Sa so (nI m) im ) [2] 2 rfl rfl rfl [[Sa]] rfl rfl rfl rfl rfl rfl (Nat.le_of_ble_eq_true rfl) rfl dX5_item_28 ?_
  refine J_ifB_eq (tgt := 37) 31 dX5_item_31 (by decide) (fun c_3_ => ?_) (fun c_3_ => ?_)
  · skip
    refine J_aload 37 dX5_item_37 rfl ?_
    refine g_130 (v := .int so) 39 2 rfl rfl dX5_item_39 ?_
    refine J_iload_n 42 2 dX5_item_42 rfl rfl ?_
    refine J_icmp_eq (tgt := 49) 43 dX5_item_43 (by decide) (fun c_4_ => ?_) (fun c_4_ => ?_)
    · skip
      refine J_iload_n 49 3 dX5_item_49 rfl rfl ?_
      refine J_iconst (v := 0) 50 dX5_item_50 rfl ?_
      refine J_aload 51 dX5_item_51 rfl ?_
      refine g_133 (v := .int (nI m)) 53 2 rfl rfl dX5_item_53 ?_
      refine J_iconst (v := 1) 56 dX5_item_56 rfl ?_
      refine J_isub 57 dX5_item_57 ?_
      refine kb_RX5_65 (bs' := [wMe o (An 0) (Ak 0) (At 0) (Ad 0) kk tp rw rc sh sf de, wQ G sh 4 3 shf, wSh Sa so (nI m) im, wJ G im 40 it]) (rest := []) (st' := [.int 1]) 58 (c_X5_within_t l G (nI i) 0 ((nI m) - 1) (inR_t hi (by omega))) [] rfl rfl [] rfl rfl rfl rfl rfl rfl (Nat.le_of_ble_eq_true rfl) rfl dX5_item_58 ?_
      refine J_if_eq (tgt := 75) 61 dX5_item_61 (by decide) (fun c_5_ => absurd c_5_ (by decide)) (fun _ => ?_)
      refine J_aload 64 dX5_item_64 rfl ?_
      refine g_135 (v := .ref im) 66 2 rfl rfl dX5_item_66 ?_
      refine J_iload_n 69 3 dX5_item_69 rfl rfl ?_
      refine J_lald 70 3 i rfl rfl (by omega) (by decide) dX5_item_70 ?_
      refine J_l2i 71 dX5_item_71 ?_
      refine J_goto (tgt := 77) 72 dX5_item_72 (by decide) ?_
      exact J_iret 77 dX5_item_77 rfl rfl
    · skip
      exact absurd hsv c_4_
  · skip
    exact absurd c_3_ hso
set_option maxRecDepth 100000 in
set_option maxHeartbeats 4000000 in
theorem c_X5_shelf_bad (l : Launch) (G : Gd) (s : Int32) (w : Int32) (n : Int32) (o : Nat) (An : Nat → Nat) (Ak : Nat → Nat) (At : Nat → Nat) (Ad : Nat → Nat) (kk : Int32) (tp : Nat) (rw : Nat) (rc : Nat) (sh : Nat) (sf : Nat) (de : Nat) (hw : ¬ (0 ≤ s ∧ s ≤ 3)) : Ct l G yX5_shelf cX5_shelf 4 (some (FieldType.int)) 2 [.ref o, .int s, .int w, .int n] (wF [wMe o (An 0) (Ak 0) (At 0) (Ad 0) kk tp rw rc sh sf de]) (some (.int (-1))) (wF [wMe o (An 0) (Ak 0) (At 0) (Ad 0) kk tp rw rc sh sf de]) := by
  refine Ct.of "GooseArms" [some (.ref o), some (.int s), some (.int w), some (.int n)] (by decide +kernel) rfl (Nat.le_of_ble_eq_true rfl) rfl ?_
  refine J_iload_n 0 1 dX5_shelf_0 rfl rfl ?_
  refine kb_RX5_219 (bs' := [wMe o (An 0) (Ak 0) (At 0) (Ad 0) kk tp rw rc sh sf de]) (rest := []) (st' := [.int 0]) 1 (c_X5_isPlace_f l G s (by first | omega | assumption)) [] rfl rfl [] rfl rfl rfl rfl rfl rfl (Nat.le_of_ble_eq_true rfl) rfl dX5_shelf_1 ?_
  refine J_if_ne (tgt := 9) 4 dX5_shelf_4 (by decide) (fun c_1_ => absurd c_1_ (by decide)) (fun _ => ?_)
  refine J_iconst (v := (-1)) 7 dX5_shelf_7 rfl ?_
  exact J_iret 8 dX5_shelf_8 rfl rfl
set_option maxRecDepth 100000 in
set_option maxHeartbeats 4000000 in
theorem c_X5_shelf_badw (l : Launch) (G : Gd) (s : Nat) (w : Int32) (n : Int32) (o : Nat) (An : Nat → Nat) (Ak : Nat → Nat) (At : Nat → Nat) (Ad : Nat → Nat) (kk : Int32) (tp : Nat) (rw : Nat) (rc : Nat) (sh : Nat) (sf : Nat) (de : Nat) (hs : s ≤ 3) (hw : ¬ (0 ≤ w ∧ w ≤ 2)) : Ct l G yX5_shelf cX5_shelf 4 (some (FieldType.int)) 2 [.ref o, .int (nI s), .int w, .int n] (wF [wMe o (An 0) (Ak 0) (At 0) (Ad 0) kk tp rw rc sh sf de]) (some (.int (-1))) (wF [wMe o (An 0) (Ak 0) (At 0) (Ad 0) kk tp rw rc sh sf de]) := by
  refine Ct.of "GooseArms" [some (.ref o), some (.int (nI s)), some (.int w), some (.int n)] (by decide +kernel) rfl (Nat.le_of_ble_eq_true rfl) rfl ?_
  refine J_iload_n 0 1 dX5_shelf_0 rfl rfl ?_
  refine kb_RX5_219 (bs' := [wMe o (An 0) (Ak 0) (At 0) (Ad 0) kk tp rw rc sh sf de]) (rest := []) (st' := [.int 1]) 1 (c_X5_isPlace_t l G s (by first | omega | assumption)) [] rfl rfl [] rfl rfl rfl rfl rfl rfl (Nat.le_of_ble_eq_true rfl) rfl dX5_shelf_1 ?_
  refine J_if_ne (tgt := 9) 4 dX5_shelf_4 (by decide) (fun _ => ?_) (fun c_1_ => absurd c_1_ (by decide))
  refine J_iload_n 9 2 dX5_shelf_9 rfl rfl ?_
  by_cases e_2_ : w = 0
  · skip
    exact (hw (by rw [e_2_]; decide)).elim
  by_cases e_3_ : w = 1
  · skip
    exact (hw (by rw [e_3_]; decide)).elim
  by_cases e_4_ : w = 2
  · skip
    exact (hw (by rw [e_4_]; decide)).elim
  refine J_tableOut (tgt := 95) 10 dX5_shelf_10 (by have q0_ := lv_neT (a := 0) e_2_ (by decide); have q1_ := lv_neT (a := 1) e_3_ (by decide); have q2_ := lv_neT (a := 2) e_4_ (by decide); omega) (by decide) ?_
  refine J_iconst (v := (-1)) 95 dX5_shelf_95 rfl ?_
  exact J_iret 96 dX5_shelf_96 rfl rfl
set_option maxRecDepth 100000 in
set_option maxHeartbeats 4000000 in
theorem c_X5_shelf_0bad (l : Launch) (G : Gd) (s : Nat) (n : Int32) (o : Nat) (An : Nat → Nat) (Ak : Nat → Nat) (At : Nat → Nat) (Ad : Nat → Nat) (kk : Int32) (tp : Nat) (rw : Nat) (rc : Nat) (sh : Nat) (sf : Nat) (de : Nat) (la : Nat → Int32) (ns : Nat) (sd : Nat) (to : Nat → Int32) (he : Nat → Int32) (sw : Nat → Int32) (nh : Nat) (ki : Nat → Int32) (te : Nat → Int32) (mi : Nat → Int32) (ar : Nat → Int32) (z : Int32) (hs : s ≤ 3) (hw : ¬ (0 ≤ n ∧ n ≤ nI nh - 1)) : Ct l G yX5_shelf cX5_shelf 4 (some (FieldType.int)) 2 [.ref o, .int (nI s), .int 0, .int n] (wF [wMe o (An 0) (Ak 0) (At 0) (Ad 0) kk tp rw rc sh sf de, wCt G An la ns sd to he sw nh ki te mi ar z]) (some (.int (-1))) (wF [wMe o (An 0) (Ak 0) (At 0) (Ad 0) kk tp rw rc sh sf de, wCt G An la ns sd to he sw nh ki te mi ar z]) := by
  refine Ct.of "GooseArms" [some (.ref o), some (.int (nI s)), some (.int 0), some (.int n)] (by decide +kernel) rfl (Nat.le_of_ble_eq_true rfl) rfl ?_
  refine J_iload_n 0 1 dX5_shelf_0 rfl rfl ?_
  refine kb_RX5_219 (bs' := [wMe o (An 0) (Ak 0) (At 0) (Ad 0) kk tp rw rc sh sf de, wCt G An la ns sd to he sw nh ki te mi ar z]) (rest := []) (st' := [.int 1]) 1 (c_X5_isPlace_t l G s (by first | omega | assumption)) [] rfl rfl [] rfl rfl rfl rfl rfl rfl (Nat.le_of_ble_eq_true rfl) rfl dX5_shelf_1 ?_
  refine J_if_ne (tgt := 9) 4 dX5_shelf_4 (by decide) (fun _ => ?_) (fun c_1_ => absurd c_1_ (by decide))
  refine J_iload_n 9 2 dX5_shelf_9 rfl rfl ?_
  refine J_tableIn (tgt := 36) (off := 26) 10 0 dX5_shelf_10 rfl (by decide +kernel) (by decide) ?_
  refine J_aload_n 36 0 dX5_shelf_36 rfl rfl ?_
  refine J_iload_n 37 3 dX5_shelf_37 rfl rfl ?_
  refine kb_RX5_135 (bs' := [wMe o (An 0) (Ak 0) (At 0) (Ad 0) kk tp rw rc sh sf de, wCt G An la ns sd to he sw nh ki te mi ar z]) (rest := []) (st' := [.int 0]) 38 (c_X5_isHearer_f l G n o An Ak At Ad kk tp rw rc sh sf de la ns sd to he sw nh ki te mi ar z (by first | omega | assumption)) [0, 1] 0 rfl rfl rfl [[o], [An 0, An 1, An 2, An 3, An 4, An 5, An 6, An 7, An 8]] rfl rfl rfl rfl rfl rfl (Nat.le_of_ble_eq_true rfl) rfl dX5_shelf_38 ?_
  refine J_if_ne (tgt := 46) 41 dX5_shelf_41 (by decide) (fun c_2_ => absurd c_2_ (by decide)) (fun _ => ?_)
  refine J_iconst (v := (-1)) 44 dX5_shelf_44 rfl ?_
  exact J_iret 45 dX5_shelf_45 rfl rfl
set_option maxRecDepth 100000 in
set_option maxHeartbeats 4000000 in
theorem c_X5_shelf_0 (l : Launch) (G : Gd) (s : Nat) (h : Nat) (Fa : Nat) (o : Nat) (An : Nat → Nat) (Ak : Nat → Nat) (At : Nat → Nat) (Ad : Nat → Nat) (kk : Int32) (tp : Nat) (rw : Nat) (rc : Nat) (sh : Nat) (sf : Nat) (de : Nat) (la : Nat → Int32) (ns : Nat) (sd : Nat) (to : Nat → Int32) (he : Nat → Int32) (sw : Nat → Int32) (nh : Nat) (ki : Nat → Int32) (te : Nat → Int32) (mi : Nat → Int32) (ar : Nat → Int32) (z : Int32) (sff : Nat → Option Nat) (fho : Int32) (fhr : Int32) (fso : Int32) (fsz : Int32) (hs : s ≤ 3) (hy : sff s = some Fa) (hh : h < nh) (hnh : nh ≤ 8) : Ct l G yX5_shelf cX5_shelf 4 (some (FieldType.int)) 2 [.ref o, .int (nI s), .int 0, .int (nI h)] (wF [wMe o (An 0) (Ak 0) (At 0) (Ad 0) kk tp rw rc sh sf de, wCt G An la ns sd to he sw nh ki te mi ar z, wQ G sf 4 4 sff, wSf Fa fho fhr fso fsz]) (some (.int 1)) (wF [wMe o (An 0) (Ak 0) (At 0) (Ad 0) kk tp rw rc sh sf de, wCt G An la ns sd to he sw nh ki te mi ar z, wQ G sf 4 4 sff, wSf Fa 1 (nI h) fso fsz]) := by
  refine Ct.of "GooseArms" [some (.ref o), some (.int (nI s)), some (.int 0), some (.int (nI h))] (by decide +kernel) rfl (Nat.le_of_ble_eq_true rfl) rfl ?_
  refine J_iload_n 0 1 dX5_shelf_0 rfl rfl ?_
  refine kb_RX5_219 (bs' := [wMe o (An 0) (Ak 0) (At 0) (Ad 0) kk tp rw rc sh sf de, wCt G An la ns sd to he sw nh ki te mi ar z, wQ G sf 4 4 sff, wSf Fa fho fhr fso fsz]) (rest := []) (st' := [.int 1]) 1 (c_X5_isPlace_t l G s (by first | omega | assumption)) [] rfl rfl [] rfl rfl rfl rfl rfl rfl (Nat.le_of_ble_eq_true rfl) rfl dX5_shelf_1 ?_
  refine J_if_ne (tgt := 9) 4 dX5_shelf_4 (by decide) (fun _ => ?_) (fun c_1_ => absurd c_1_ (by decide))
  refine J_iload_n 9 2 dX5_shelf_9 rfl rfl ?_
  refine J_tableIn (tgt := 36) (off := 26) 10 0 dX5_shelf_10 rfl (by decide +kernel) (by decide) ?_
  refine J_aload_n 36 0 dX5_shelf_36 rfl rfl ?_
  refine J_iload_n 37 3 dX5_shelf_37 rfl rfl ?_
  refine kb_RX5_135 (bs' := [wMe o (An 0) (Ak 0) (At 0) (Ad 0) kk tp rw rc sh sf de, wCt G An la ns sd to he sw nh ki te mi ar z, wQ G sf 4 4 sff, wSf Fa fho fhr fso fsz]) (rest := []) (st' := [.int 1]) 38 (c_X5_isHearer_t l G h o An Ak At Ad kk tp rw rc sh sf de la ns sd to he sw nh ki te mi ar z (by assumption) (by omega)) [0, 1] 0 rfl rfl rfl [[o], [An 0, An 1, An 2, An 3, An 4, An 5, An 6, An 7, An 8]] rfl rfl rfl rfl rfl rfl (Nat.le_of_ble_eq_true rfl) rfl dX5_shelf_38 ?_
  refine J_if_ne (tgt := 46) 41 dX5_shelf_41 (by decide) (fun _ => ?_) (fun c_2_ => absurd c_2_ (by decide))
  refine J_aload_n 46 0 dX5_shelf_46 rfl rfl ?_
  refine g_205 (v := .ref sf) 47 0 rfl rfl dX5_shelf_47 ?_
  refine J_iload_n 50 1 dX5_shelf_50 rfl rfl ?_
  refine J_aldq (b := Fa) 51 10 4 s rfl rfl rfl (by omega) (by decide) hy dX5_shelf_51 ?_
  refine J_iload_n 52 3 dX5_shelf_52 rfl rfl ?_
  refine kb_RX5_277 (bs' := [wMe o (An 0) (Ak 0) (At 0) (Ad 0) kk tp rw rc sh sf de, wCt G An la ns sd to he sw nh ki te mi ar z, wQ G sf 4 4 sff, wSf Fa 1 (nI h) fso fsz]) (rest := []) (st' := []) 53 (c_X3_takesHearer l G (nI h) Fa fho fhr fso fsz ) [3] 11 rfl rfl rfl [[Fa]] rfl rfl rfl rfl rfl rfl (Nat.le_of_ble_eq_true rfl) rfl dX5_shelf_53 ?_
  refine J_iconst (v := 1) 56 dX5_shelf_56 rfl ?_
  exact J_iret 57 dX5_shelf_57 rfl rfl
set_option maxRecDepth 100000 in
set_option maxHeartbeats 4000000 in
theorem c_X5_shelf_1bad (l : Launch) (G : Gd) (s : Nat) (n : Int32) (o : Nat) (An : Nat → Nat) (Ak : Nat → Nat) (At : Nat → Nat) (Ad : Nat → Nat) (kk : Int32) (tp : Nat) (rw : Nat) (rc : Nat) (sh : Nat) (sf : Nat) (de : Nat) (hs : s ≤ 3) (hw : ¬ (0 ≤ n ∧ n ≤ 3)) : Ct l G yX5_shelf cX5_shelf 4 (some (FieldType.int)) 2 [.ref o, .int (nI s), .int 1, .int n] (wF [wMe o (An 0) (Ak 0) (At 0) (Ad 0) kk tp rw rc sh sf de]) (some (.int (-1))) (wF [wMe o (An 0) (Ak 0) (At 0) (Ad 0) kk tp rw rc sh sf de]) := by
  refine Ct.of "GooseArms" [some (.ref o), some (.int (nI s)), some (.int 1), some (.int n)] (by decide +kernel) rfl (Nat.le_of_ble_eq_true rfl) rfl ?_
  refine J_iload_n 0 1 dX5_shelf_0 rfl rfl ?_
  refine kb_RX5_219 (bs' := [wMe o (An 0) (Ak 0) (At 0) (Ad 0) kk tp rw rc sh sf de]) (rest := []) (st' := [.int 1]) 1 (c_X5_isPlace_t l G s (by first | omega | assumption)) [] rfl rfl [] rfl rfl rfl rfl rfl rfl (Nat.le_of_ble_eq_true rfl) rfl dX5_shelf_1 ?_
  refine J_if_ne (tgt := 9) 4 dX5_shelf_4 (by decide) (fun _ => ?_) (fun c_1_ => absurd c_1_ (by decide))
  refine J_iload_n 9 2 dX5_shelf_9 rfl rfl ?_
  refine J_tableIn (tgt := 58) (off := 48) 10 1 dX5_shelf_10 rfl (by decide +kernel) (by decide) ?_
  refine J_iload_n 58 3 dX5_shelf_58 rfl rfl ?_
  refine kb_RX5_219 (bs' := [wMe o (An 0) (Ak 0) (At 0) (Ad 0) kk tp rw rc sh sf de]) (rest := []) (st' := [.int 0]) 59 (c_X5_isPlace_f l G n (by first | omega | assumption)) [] rfl rfl [] rfl rfl rfl rfl rfl rfl (Nat.le_of_ble_eq_true rfl) rfl dX5_shelf_59 ?_
  refine J_if_ne (tgt := 67) 62 dX5_shelf_62 (by decide) (fun c_2_ => absurd c_2_ (by decide)) (fun _ => ?_)
  refine J_iconst (v := (-1)) 65 dX5_shelf_65 rfl ?_
  exact J_iret 66 dX5_shelf_66 rfl rfl
set_option maxRecDepth 100000 in
set_option maxHeartbeats 4000000 in
theorem c_X5_shelf_1 (l : Launch) (G : Gd) (s : Nat) (q : Nat) (Fa : Nat) (Sa : Nat) (o : Nat) (An : Nat → Nat) (Ak : Nat → Nat) (At : Nat → Nat) (Ad : Nat → Nat) (kk : Int32) (tp : Nat) (rw : Nat) (rc : Nat) (sh : Nat) (sf : Nat) (de : Nat) (sff : Nat → Option Nat) (fho : Int32) (fhr : Int32) (fso : Int32) (fsz : Int32) (shf : Nat → Option Nat) (so : Int32) (sz : Int32) (im : Nat) (hs : s ≤ 3) (hy : sff s = some Fa) (hq : q ≤ 3) (hx : shf q = some Sa) : Ct l G yX5_shelf cX5_shelf 4 (some (FieldType.int)) 2 [.ref o, .int (nI s), .int 1, .int (nI q)] (wF [wMe o (An 0) (Ak 0) (At 0) (Ad 0) kk tp rw rc sh sf de, wQ G sf 4 4 sff, wSf Fa fho fhr fso fsz, wQ G sh 4 3 shf, wSh Sa so sz im]) (some (.int 1)) (wF [wMe o (An 0) (Ak 0) (At 0) (Ad 0) kk tp rw rc sh sf de, wQ G sf 4 4 sff, wSf Fa (fHo so) fhr so sz, wQ G sh 4 3 shf, wSh Sa so sz im]) := by
  refine Ct.of "GooseArms" [some (.ref o), some (.int (nI s)), some (.int 1), some (.int (nI q))] (by decide +kernel) rfl (Nat.le_of_ble_eq_true rfl) rfl ?_
  refine J_iload_n 0 1 dX5_shelf_0 rfl rfl ?_
  refine kb_RX5_219 (bs' := [wMe o (An 0) (Ak 0) (At 0) (Ad 0) kk tp rw rc sh sf de, wQ G sf 4 4 sff, wSf Fa fho fhr fso fsz, wQ G sh 4 3 shf, wSh Sa so sz im]) (rest := []) (st' := [.int 1]) 1 (c_X5_isPlace_t l G s (by first | omega | assumption)) [] rfl rfl [] rfl rfl rfl rfl rfl rfl (Nat.le_of_ble_eq_true rfl) rfl dX5_shelf_1 ?_
  refine J_if_ne (tgt := 9) 4 dX5_shelf_4 (by decide) (fun _ => ?_) (fun c_1_ => absurd c_1_ (by decide))
  refine J_iload_n 9 2 dX5_shelf_9 rfl rfl ?_
  refine J_tableIn (tgt := 58) (off := 48) 10 1 dX5_shelf_10 rfl (by decide +kernel) (by decide) ?_
  refine J_iload_n 58 3 dX5_shelf_58 rfl rfl ?_
  refine kb_RX5_219 (bs' := [wMe o (An 0) (Ak 0) (At 0) (Ad 0) kk tp rw rc sh sf de, wQ G sf 4 4 sff, wSf Fa fho fhr fso fsz, wQ G sh 4 3 shf, wSh Sa so sz im]) (rest := []) (st' := [.int 1]) 59 (c_X5_isPlace_t l G q (by first | omega | assumption)) [] rfl rfl [] rfl rfl rfl rfl rfl rfl (Nat.le_of_ble_eq_true rfl) rfl dX5_shelf_59 ?_
  refine J_if_ne (tgt := 67) 62 dX5_shelf_62 (by decide) (fun _ => ?_) (fun c_2_ => absurd c_2_ (by decide))
  refine J_aload_n 67 0 dX5_shelf_67 rfl rfl ?_
  refine g_205 (v := .ref sf) 68 0 rfl rfl dX5_shelf_68 ?_
  refine J_iload_n 71 1 dX5_shelf_71 rfl rfl ?_
  refine J_aldq (b := Fa) 72 1 4 s rfl rfl rfl (by omega) (by decide) hy dX5_shelf_72 ?_
  refine J_aload_n 73 0 dX5_shelf_73 rfl rfl ?_
  refine g_204 (v := .ref sh) 74 0 rfl rfl dX5_shelf_74 ?_
  refine J_iload_n 77 3 dX5_shelf_77 rfl rfl ?_
  refine J_aldq (b := Sa) 78 3 3 q rfl rfl rfl (by omega) (by decide) hx dX5_shelf_78 ?_
  refine kb_RX5_280 (bs' := [wMe o (An 0) (Ak 0) (At 0) (Ad 0) kk tp rw rc sh sf de, wQ G sf 4 4 sff, wSf Fa (fHo so) fhr so sz, wQ G sh 4 3 shf, wSh Sa so sz im]) (rest := []) (st' := []) 79 (c_X3_takesRow l G Fa fho fhr fso fsz Sa so sz im ) [2, 4] 2 rfl rfl rfl [[Fa], [Sa]] rfl rfl rfl rfl rfl rfl (Nat.le_of_ble_eq_true rfl) rfl dX5_shelf_79 ?_
  refine J_iconst (v := 1) 82 dX5_shelf_82 rfl ?_
  exact J_iret 83 dX5_shelf_83 rfl rfl
set_option maxRecDepth 100000 in
set_option maxHeartbeats 4000000 in
theorem c_X5_shelf_2 (l : Launch) (G : Gd) (s : Nat) (n : Int32) (Fa : Nat) (o : Nat) (An : Nat → Nat) (Ak : Nat → Nat) (At : Nat → Nat) (Ad : Nat → Nat) (kk : Int32) (tp : Nat) (rw : Nat) (rc : Nat) (sh : Nat) (sf : Nat) (de : Nat) (sff : Nat → Option Nat) (fho : Int32) (fhr : Int32) (fso : Int32) (fsz : Int32) (hs : s ≤ 3) (hy : sff s = some Fa) : Ct l G yX5_shelf cX5_shelf 4 (some (FieldType.int)) 2 [.ref o, .int (nI s), .int 2, .int n] (wF [wMe o (An 0) (Ak 0) (At 0) (Ad 0) kk tp rw rc sh sf de, wQ G sf 4 4 sff, wSf Fa fho fhr fso fsz]) (some (.int 1)) (wF [wMe o (An 0) (Ak 0) (At 0) (Ad 0) kk tp rw rc sh sf de, wQ G sf 4 4 sff, wSf Fa 0 fhr fso fsz]) := by
  refine Ct.of "GooseArms" [some (.ref o), some (.int (nI s)), some (.int 2), some (.int n)] (by decide +kernel) rfl (Nat.le_of_ble_eq_true rfl) rfl ?_
  refine J_iload_n 0 1 dX5_shelf_0 rfl rfl ?_
  refine kb_RX5_219 (bs' := [wMe o (An 0) (Ak 0) (At 0) (Ad 0) kk tp rw rc sh sf de, wQ G sf 4 4 sff, wSf Fa fho fhr fso fsz]) (rest := []) (st' := [.int 1]) 1 (c_X5_isPlace_t l G s (by first | omega | assumption)) [] rfl rfl [] rfl rfl rfl rfl rfl rfl (Nat.le_of_ble_eq_true rfl) rfl dX5_shelf_1 ?_
  refine J_if_ne (tgt := 9) 4 dX5_shelf_4 (by decide) (fun _ => ?_) (fun c_1_ => absurd c_1_ (by decide))
  refine J_iload_n 9 2 dX5_shelf_9 rfl rfl ?_
  refine J_tableIn (tgt := 84) (off := 74) 10 2 dX5_shelf_10 rfl (by decide +kernel) (by decide) ?_
  refine J_aload_n 84 0 dX5_shelf_84 rfl rfl ?_
  refine g_205 (v := .ref sf) 85 0 rfl rfl dX5_shelf_85 ?_
  refine J_iload_n 88 1 dX5_shelf_88 rfl rfl ?_
  refine J_aldq (b := Fa) 89 1 4 s rfl rfl rfl (by omega) (by decide) hy dX5_shelf_89 ?_
  refine kb_RX5_284 (bs' := [wMe o (An 0) (Ak 0) (At 0) (Ad 0) kk tp rw rc sh sf de, wQ G sf 4 4 sff, wSf Fa 0 fhr fso fsz]) (rest := []) (st' := []) 90 (c_X3_empties l G Fa fho fhr fso fsz ) [2] 2 rfl rfl rfl [[Fa]] rfl rfl rfl rfl rfl rfl (Nat.le_of_ble_eq_true rfl) rfl dX5_shelf_90 ?_
  refine J_iconst (v := 1) 93 dX5_shelf_93 rfl ?_
  exact J_iret 94 dX5_shelf_94 rfl rfl
set_option maxRecDepth 100000 in
set_option maxHeartbeats 4000000 in
theorem c_X5_taken_bad (l : Launch) (G : Gd) (s : Int32) (a : Int32) (o : Nat) (An : Nat → Nat) (Ak : Nat → Nat) (At : Nat → Nat) (Ad : Nat → Nat) (kk : Int32) (tp : Nat) (rw : Nat) (rc : Nat) (sh : Nat) (sf : Nat) (de : Nat) (hw : ¬ ((0 ≤ s ∧ s ≤ 3) ∧ ((10 ≤ a ∧ a ≤ 13) ∨ (0 ≤ a ∧ a ≤ 5)))) : Ct l G yX5_taken cX5_taken 5 (some (FieldType.int)) 3 [.ref o, .int s, .int a] (wF [wMe o (An 0) (Ak 0) (At 0) (Ad 0) kk tp rw rc sh sf de]) (some (.int (-1))) (wF [wMe o (An 0) (Ak 0) (At 0) (Ad 0) kk tp rw rc sh sf de]) := by
  refine Ct.of "GooseArms" [some (.ref o), some (.int s), some (.int a), none, none] (by decide +kernel) rfl (Nat.le_of_ble_eq_true rfl) rfl ?_
  refine J_iload_n 0 2 dX5_taken_0 rfl rfl ?_
  refine J_bipush (v := 10) 1 dX5_taken_1 rfl ?_
  refine J_bipush (v := 13) 3 dX5_taken_3 rfl ?_
  refine kb_RX5_65 (bs' := [wMe o (An 0) (Ak 0) (At 0) (Ad 0) kk tp rw rc sh sf de]) (rest := []) (st' := [.int (bI (10 ≤ a ∧ a ≤ 13))]) 5 (c_X5_within l G a 10 13 ) [] rfl rfl [] rfl rfl rfl rfl rfl rfl (Nat.le_of_ble_eq_true rfl) rfl dX5_taken_5 ?_
  refine J_istore_n (lv' := [some (.ref o), some (.int s), some (.int a), some (.int (bI (10 ≤ a ∧ a ≤ 13))), none]) 8 3 dX5_taken_8 rfl (by decide) rfl ?_
  refine J_iload_n 9 1 dX5_taken_9 rfl rfl ?_
  refine kb_RX5_219 (bs' := [wMe o (An 0) (Ak 0) (At 0) (Ad 0) kk tp rw rc sh sf de]) (rest := []) (st' := [.int (bI (0 ≤ s ∧ s ≤ 3))]) 10 (c_X5_isPlace l G s ) [] rfl rfl [] rfl rfl rfl rfl rfl rfl (Nat.le_of_ble_eq_true rfl) rfl dX5_taken_10 ?_
  refine J_ifB_eq (tgt := 27) 13 dX5_taken_13 (by decide) (fun c_1_ => ?_) (fun c_1_ => ?_)
  · skip
    refine J_iconst (v := (-1)) 27 dX5_taken_27 rfl ?_
    exact J_iret 28 dX5_taken_28 rfl rfl
  · skip
    refine J_iload_n 16 3 dX5_taken_16 rfl rfl ?_
    refine J_ifB_ne (tgt := 29) 17 dX5_taken_17 (by decide) (fun c_2_ => ?_) (fun c_2_ => ?_)
    · skip
      exact absurd ⟨by assumption, Or.inl (by assumption)⟩ hw
    · skip
      refine J_iload_n 20 2 dX5_taken_20 rfl rfl ?_
      refine kb_RX5_129 (bs' := [wMe o (An 0) (Ak 0) (At 0) (Ad 0) kk tp rw rc sh sf de]) (rest := []) (st' := [.int (bI (0 ≤ a ∧ a ≤ 5))]) 21 (c_X5_isKind l G a ) [] rfl rfl [] rfl rfl rfl rfl rfl rfl (Nat.le_of_ble_eq_true rfl) rfl dX5_taken_21 ?_
      refine J_ifB_ne (tgt := 29) 24 dX5_taken_24 (by decide) (fun c_3_ => ?_) (fun c_3_ => ?_)
      · skip
        exact absurd ⟨by assumption, Or.inr (by assumption)⟩ hw
      · skip
        refine J_iconst (v := (-1)) 27 dX5_taken_27 rfl ?_
        exact J_iret 28 dX5_taken_28 rfl rfl
set_option maxRecDepth 100000 in
set_option maxHeartbeats 4000000 in
theorem c_X5_taken_row (l : Launch) (G : Gd) (s : Nat) (a : Int32) (Fa : Nat) (o : Nat) (An : Nat → Nat) (Ak : Nat → Nat) (At : Nat → Nat) (Ad : Nat → Nat) (kk : Int32) (tp : Nat) (rw : Nat) (rc : Nat) (sh : Nat) (sf : Nat) (de : Nat) (sff : Nat → Option Nat) (fhr : Int32) (fso : Int32) (fsz : Int32) (hs : s ≤ 3) (hy : sff s = some Fa) (hv : (10 ≤ a ∧ a ≤ 13) ∨ (0 ≤ a ∧ a ≤ 5)) : Ct l G yX5_taken cX5_taken 5 (some (FieldType.int)) 3 [.ref o, .int (nI s), .int a] (wF [wMe o (An 0) (Ak 0) (At 0) (Ad 0) kk tp rw rc sh sf de, wQ G sf 4 4 sff, wSf Fa 2 fhr fso fsz]) (some (.int (cif ((10 ≤ a ∧ a ≤ 13) ∧ fso = a - 10) fsz (-13)))) (wF [wMe o (An 0) (Ak 0) (At 0) (Ad 0) kk tp rw rc sh sf de, wQ G sf 4 4 sff, wSf Fa 2 fhr fso fsz]) := by
  refine Ct.of "GooseArms" [some (.ref o), some (.int (nI s)), some (.int a), none, none] (by decide +kernel) rfl (Nat.le_of_ble_eq_true rfl) rfl ?_
  refine J_iload_n 0 2 dX5_taken_0 rfl rfl ?_
  refine J_bipush (v := 10) 1 dX5_taken_1 rfl ?_
  refine J_bipush (v := 13) 3 dX5_taken_3 rfl ?_
  refine kb_RX5_65 (bs' := [wMe o (An 0) (Ak 0) (At 0) (Ad 0) kk tp rw rc sh sf de, wQ G sf 4 4 sff, wSf Fa 2 fhr fso fsz]) (rest := []) (st' := [.int (bI (10 ≤ a ∧ a ≤ 13))]) 5 (c_X5_within l G a 10 13 ) [] rfl rfl [] rfl rfl rfl rfl rfl rfl (Nat.le_of_ble_eq_true rfl) rfl dX5_taken_5 ?_
  refine J_istore_n (lv' := [some (.ref o), some (.int (nI s)), some (.int a), some (.int (bI (10 ≤ a ∧ a ≤ 13))), none]) 8 3 dX5_taken_8 rfl (by decide) rfl ?_
  refine J_iload_n 9 1 dX5_taken_9 rfl rfl ?_
  refine kb_RX5_219 (bs' := [wMe o (An 0) (Ak 0) (At 0) (Ad 0) kk tp rw rc sh sf de, wQ G sf 4 4 sff, wSf Fa 2 fhr fso fsz]) (rest := []) (st' := [.int 1]) 10 (c_X5_isPlace_t l G s (by first | omega | assumption)) [] rfl rfl [] rfl rfl rfl rfl rfl rfl (Nat.le_of_ble_eq_true rfl) rfl dX5_taken_10 ?_
  refine J_if_eq (tgt := 27) 13 dX5_taken_13 (by decide) (fun c_1_ => absurd c_1_ (by decide)) (fun _ => ?_)
  refine J_iload_n 16 3 dX5_taken_16 rfl rfl ?_
  refine J_ifB_ne (tgt := 29) 17 dX5_taken_17 (by decide) (fun c_2_ => ?_) (fun c_2_ => ?_)
  · skip
    refine J_aload_n 29 0 dX5_taken_29 rfl rfl ?_
    refine g_205 (v := .ref sf) 30 0 rfl rfl dX5_taken_30 ?_
    refine J_iload_n 33 1 dX5_taken_33 rfl rfl ?_
    refine J_aldq (b := Fa) 34 1 4 s rfl rfl rfl (by omega) (by decide) hy dX5_taken_34 ?_
    refine J_astore (lv' := [some (.ref o), some (.int (nI s)), some (.int a), some (.int (bI (10 ≤ a ∧ a ≤ 13))), some (.ref Fa)]) 35 dX5_taken_35 (by decide) rfl ?_
    refine J_aload 37 dX5_taken_37 rfl ?_
    refine g_152 (v := .int 2) 39 2 rfl rfl dX5_taken_39 ?_
    refine J_iconst (v := 2) 42 dX5_taken_42 rfl ?_
    refine J_icmp_ne (tgt := 73) 43 dX5_taken_43 (by decide) (fun c_3_ => absurd c_3_ (by decide)) (fun _ => ?_)
    refine J_iload_n 46 3 dX5_taken_46 rfl rfl ?_
    refine J_ifB_eq (tgt := 70) 47 dX5_taken_47 (by decide) (fun c_4_ => ?_) (fun c_4_ => ?_)
    · skip
      refine J_bipush (v := (-13)) 70 dX5_taken_70 rfl ?_
      exact J_iret 72 dX5_taken_72 (congrArg (fun x_ => some (Value.int x_)) (by first | exact (cif_t ⟨by assumption, by assumption⟩).symm | exact (cif_f (fun z_ => by first | exact absurd z_.1 (by assumption) | exact absurd z_.2 (by assumption))).symm)) rfl
    · skip
      refine J_aload 50 dX5_taken_50 rfl ?_
      refine g_156 (v := .int fso) 52 2 rfl rfl dX5_taken_52 ?_
      refine J_iload_n 55 2 dX5_taken_55 rfl rfl ?_
      refine J_bipush (v := 10) 56 dX5_taken_56 rfl ?_
      refine J_isub 58 dX5_taken_58 ?_
      refine J_icmp_ne (tgt := 70) 59 dX5_taken_59 (by decide) (fun c_5_ => ?_) (fun c_5_ => ?_)
      · skip
        refine J_bipush (v := (-13)) 70 dX5_taken_70 rfl ?_
        exact J_iret 72 dX5_taken_72 (congrArg (fun x_ => some (Value.int x_)) (by first | exact (cif_t ⟨by assumption, by assumption⟩).symm | exact (cif_f (fun z_ => by first | exact absurd z_.1 (by assumption) | exact absurd z_.2 (by assumption))).symm)) rfl
      · skip
        refine J_aload 62 dX5_taken_62 rfl ?_
        refine g_158 (v := .int fsz) 64 2 rfl rfl dX5_taken_64 ?_
        refine J_goto (tgt := 72) 67 dX5_taken_67 (by decide) ?_
        exact J_iret 72 dX5_taken_72 (congrArg (fun x_ => some (Value.int x_)) (by first | exact (cif_t ⟨by assumption, by assumption⟩).symm | exact (cif_f (fun z_ => by first | exact absurd z_.1 (by assumption) | exact absurd z_.2 (by assumption))).symm)) rfl
  · skip
    refine J_iload_n 20 2 dX5_taken_20 rfl rfl ?_
    refine kb_RX5_129 (bs' := [wMe o (An 0) (Ak 0) (At 0) (Ad 0) kk tp rw rc sh sf de, wQ G sf 4 4 sff, wSf Fa 2 fhr fso fsz]) (rest := []) (st' := [.int (bI (0 ≤ a ∧ a ≤ 5))]) 21 (c_X5_isKind l G a ) [] rfl rfl [] rfl rfl rfl rfl rfl rfl (Nat.le_of_ble_eq_true rfl) rfl dX5_taken_21 ?_
    refine J_ifB_ne (tgt := 29) 24 dX5_taken_24 (by decide) (fun c_6_ => ?_) (fun c_6_ => ?_)
    · skip
      refine J_aload_n 29 0 dX5_taken_29 rfl rfl ?_
      refine g_205 (v := .ref sf) 30 0 rfl rfl dX5_taken_30 ?_
      refine J_iload_n 33 1 dX5_taken_33 rfl rfl ?_
      refine J_aldq (b := Fa) 34 1 4 s rfl rfl rfl (by omega) (by decide) hy dX5_taken_34 ?_
      refine J_astore (lv' := [some (.ref o), some (.int (nI s)), some (.int a), some (.int (bI (10 ≤ a ∧ a ≤ 13))), some (.ref Fa)]) 35 dX5_taken_35 (by decide) rfl ?_
      refine J_aload 37 dX5_taken_37 rfl ?_
      refine g_152 (v := .int 2) 39 2 rfl rfl dX5_taken_39 ?_
      refine J_iconst (v := 2) 42 dX5_taken_42 rfl ?_
      refine J_icmp_ne (tgt := 73) 43 dX5_taken_43 (by decide) (fun c_7_ => absurd c_7_ (by decide)) (fun _ => ?_)
      refine J_iload_n 46 3 dX5_taken_46 rfl rfl ?_
      refine J_ifB_eq (tgt := 70) 47 dX5_taken_47 (by decide) (fun c_8_ => ?_) (fun c_8_ => ?_)
      · skip
        refine J_bipush (v := (-13)) 70 dX5_taken_70 rfl ?_
        exact J_iret 72 dX5_taken_72 (congrArg (fun x_ => some (Value.int x_)) (by first | exact (cif_t ⟨by assumption, by assumption⟩).symm | exact (cif_f (fun z_ => by first | exact absurd z_.1 (by assumption) | exact absurd z_.2 (by assumption))).symm)) rfl
      · skip
        refine J_aload 50 dX5_taken_50 rfl ?_
        refine g_156 (v := .int fso) 52 2 rfl rfl dX5_taken_52 ?_
        refine J_iload_n 55 2 dX5_taken_55 rfl rfl ?_
        refine J_bipush (v := 10) 56 dX5_taken_56 rfl ?_
        refine J_isub 58 dX5_taken_58 ?_
        refine J_icmp_ne (tgt := 70) 59 dX5_taken_59 (by decide) (fun c_9_ => ?_) (fun c_9_ => ?_)
        · skip
          refine J_bipush (v := (-13)) 70 dX5_taken_70 rfl ?_
          exact J_iret 72 dX5_taken_72 (congrArg (fun x_ => some (Value.int x_)) (by first | exact (cif_t ⟨by assumption, by assumption⟩).symm | exact (cif_f (fun z_ => by first | exact absurd z_.1 (by assumption) | exact absurd z_.2 (by assumption))).symm)) rfl
        · skip
          refine J_aload 62 dX5_taken_62 rfl ?_
          refine g_158 (v := .int fsz) 64 2 rfl rfl dX5_taken_64 ?_
          refine J_goto (tgt := 72) 67 dX5_taken_67 (by decide) ?_
          exact J_iret 72 dX5_taken_72 (congrArg (fun x_ => some (Value.int x_)) (by first | exact (cif_t ⟨by assumption, by assumption⟩).symm | exact (cif_f (fun z_ => by first | exact absurd z_.1 (by assumption) | exact absurd z_.2 (by assumption))).symm)) rfl
    · skip
      exact absurd hv (fun z_ => z_.elim (by assumption) (by assumption))
set_option maxRecDepth 100000 in
set_option maxHeartbeats 4000000 in
theorem c_X5_taken_n (l : Launch) (G : Gd) (s : Nat) (a : Int32) (Fa : Nat) (o : Nat) (An : Nat → Nat) (Ak : Nat → Nat) (At : Nat → Nat) (Ad : Nat → Nat) (kk : Int32) (tp : Nat) (rw : Nat) (rc : Nat) (sh : Nat) (sf : Nat) (de : Nat) (la : Nat → Int32) (ns : Nat) (sd : Nat) (to : Nat → Int32) (he : Nat → Int32) (sw : Nat → Int32) (nh : Nat) (ki : Nat → Int32) (te : Nat → Int32) (mi : Nat → Int32) (ar : Nat → Int32) (z : Int32) (sff : Nat → Option Nat) (fho : Int32) (fhr : Int32) (fso : Int32) (fsz : Int32) (hs : s ≤ 3) (hy : sff s = some Fa) (hv : (10 ≤ a ∧ a ≤ 13) ∨ (0 ≤ a ∧ a ≤ 5)) (h2 : ¬ fho = 2) (h1 : ¬ fho = 1) : Ct l G yX5_taken cX5_taken 5 (some (FieldType.int)) 3 [.ref o, .int (nI s), .int a] (wF [wMe o (An 0) (Ak 0) (At 0) (Ad 0) kk tp rw rc sh sf de, wCt G An la ns sd to he sw nh ki te mi ar z, wQ G sf 4 4 sff, wSf Fa fho fhr fso fsz]) (some (.int (-11))) (wF [wMe o (An 0) (Ak 0) (At 0) (Ad 0) kk tp rw rc sh sf de, wCt G An la ns sd to he sw nh ki te mi ar z, wQ G sf 4 4 sff, wSf Fa fho fhr fso fsz]) := by
  refine Ct.of "GooseArms" [some (.ref o), some (.int (nI s)), some (.int a), none, none] (by decide +kernel) rfl (Nat.le_of_ble_eq_true rfl) rfl ?_
  refine J_iload_n 0 2 dX5_taken_0 rfl rfl ?_
  refine J_bipush (v := 10) 1 dX5_taken_1 rfl ?_
  refine J_bipush (v := 13) 3 dX5_taken_3 rfl ?_
  refine kb_RX5_65 (bs' := [wMe o (An 0) (Ak 0) (At 0) (Ad 0) kk tp rw rc sh sf de, wCt G An la ns sd to he sw nh ki te mi ar z, wQ G sf 4 4 sff, wSf Fa fho fhr fso fsz]) (rest := []) (st' := [.int (bI (10 ≤ a ∧ a ≤ 13))]) 5 (c_X5_within l G a 10 13 ) [] rfl rfl [] rfl rfl rfl rfl rfl rfl (Nat.le_of_ble_eq_true rfl) rfl dX5_taken_5 ?_
  refine J_istore_n (lv' := [some (.ref o), some (.int (nI s)), some (.int a), some (.int (bI (10 ≤ a ∧ a ≤ 13))), none]) 8 3 dX5_taken_8 rfl (by decide) rfl ?_
  refine J_iload_n 9 1 dX5_taken_9 rfl rfl ?_
  refine kb_RX5_219 (bs' := [wMe o (An 0) (Ak 0) (At 0) (Ad 0) kk tp rw rc sh sf de, wCt G An la ns sd to he sw nh ki te mi ar z, wQ G sf 4 4 sff, wSf Fa fho fhr fso fsz]) (rest := []) (st' := [.int 1]) 10 (c_X5_isPlace_t l G s (by first | omega | assumption)) [] rfl rfl [] rfl rfl rfl rfl rfl rfl (Nat.le_of_ble_eq_true rfl) rfl dX5_taken_10 ?_
  refine J_if_eq (tgt := 27) 13 dX5_taken_13 (by decide) (fun c_1_ => absurd c_1_ (by decide)) (fun _ => ?_)
  refine J_iload_n 16 3 dX5_taken_16 rfl rfl ?_
  refine J_ifB_ne (tgt := 29) 17 dX5_taken_17 (by decide) (fun c_2_ => ?_) (fun c_2_ => ?_)
  · skip
    refine J_aload_n 29 0 dX5_taken_29 rfl rfl ?_
    refine g_205 (v := .ref sf) 30 0 rfl rfl dX5_taken_30 ?_
    refine J_iload_n 33 1 dX5_taken_33 rfl rfl ?_
    refine J_aldq (b := Fa) 34 10 4 s rfl rfl rfl (by omega) (by decide) hy dX5_taken_34 ?_
    refine J_astore (lv' := [some (.ref o), some (.int (nI s)), some (.int a), some (.int (bI (10 ≤ a ∧ a ≤ 13))), some (.ref Fa)]) 35 dX5_taken_35 (by decide) rfl ?_
    refine J_aload 37 dX5_taken_37 rfl ?_
    refine g_152 (v := .int fho) 39 11 rfl rfl dX5_taken_39 ?_
    refine J_iconst (v := 2) 42 dX5_taken_42 rfl ?_
    refine J_icmp_ne (tgt := 73) 43 dX5_taken_43 (by decide) (fun c_3_ => ?_) (fun c_3_ => ?_)
    · skip
      refine J_aload_n 73 0 dX5_taken_73 rfl rfl ?_
      refine J_aload 74 dX5_taken_74 rfl ?_
      refine kb_RX5_292 (bs' := [wMe o (An 0) (Ak 0) (At 0) (Ad 0) kk tp rw rc sh sf de, wCt G An la ns sd to he sw nh ki te mi ar z, wQ G sf 4 4 sff, wSf Fa fho fhr fso fsz]) (rest := []) (st' := [.int 0]) 76 (c_X5_holdsHearer_n l G o An Ak At Ad kk tp rw rc sh sf de la ns sd to he sw nh ki te mi ar z Fa fho fhr fso fsz h1) [0, 1, 3] 0 rfl rfl rfl [[o], [An 0, An 1, An 2, An 3, An 4, An 5, An 6, An 7, An 8], [Fa]] rfl rfl rfl rfl rfl rfl (Nat.le_of_ble_eq_true rfl) rfl dX5_taken_76 ?_
      refine J_if_ne (tgt := 85) 79 dX5_taken_79 (by decide) (fun c_4_ => absurd c_4_ (by decide)) (fun _ => ?_)
      refine J_bipush (v := (-11)) 82 dX5_taken_82 rfl ?_
      exact J_iret 84 dX5_taken_84 rfl rfl
    · skip
      exact absurd c_3_ h2
  · skip
    refine J_iload_n 20 2 dX5_taken_20 rfl rfl ?_
    refine kb_RX5_129 (bs' := [wMe o (An 0) (Ak 0) (At 0) (Ad 0) kk tp rw rc sh sf de, wCt G An la ns sd to he sw nh ki te mi ar z, wQ G sf 4 4 sff, wSf Fa fho fhr fso fsz]) (rest := []) (st' := [.int (bI (0 ≤ a ∧ a ≤ 5))]) 21 (c_X5_isKind l G a ) [] rfl rfl [] rfl rfl rfl rfl rfl rfl (Nat.le_of_ble_eq_true rfl) rfl dX5_taken_21 ?_
    refine J_ifB_ne (tgt := 29) 24 dX5_taken_24 (by decide) (fun c_5_ => ?_) (fun c_5_ => ?_)
    · skip
      refine J_aload_n 29 0 dX5_taken_29 rfl rfl ?_
      refine g_205 (v := .ref sf) 30 0 rfl rfl dX5_taken_30 ?_
      refine J_iload_n 33 1 dX5_taken_33 rfl rfl ?_
      refine J_aldq (b := Fa) 34 10 4 s rfl rfl rfl (by omega) (by decide) hy dX5_taken_34 ?_
      refine J_astore (lv' := [some (.ref o), some (.int (nI s)), some (.int a), some (.int (bI (10 ≤ a ∧ a ≤ 13))), some (.ref Fa)]) 35 dX5_taken_35 (by decide) rfl ?_
      refine J_aload 37 dX5_taken_37 rfl ?_
      refine g_152 (v := .int fho) 39 11 rfl rfl dX5_taken_39 ?_
      refine J_iconst (v := 2) 42 dX5_taken_42 rfl ?_
      refine J_icmp_ne (tgt := 73) 43 dX5_taken_43 (by decide) (fun c_6_ => ?_) (fun c_6_ => ?_)
      · skip
        refine J_aload_n 73 0 dX5_taken_73 rfl rfl ?_
        refine J_aload 74 dX5_taken_74 rfl ?_
        refine kb_RX5_292 (bs' := [wMe o (An 0) (Ak 0) (At 0) (Ad 0) kk tp rw rc sh sf de, wCt G An la ns sd to he sw nh ki te mi ar z, wQ G sf 4 4 sff, wSf Fa fho fhr fso fsz]) (rest := []) (st' := [.int 0]) 76 (c_X5_holdsHearer_n l G o An Ak At Ad kk tp rw rc sh sf de la ns sd to he sw nh ki te mi ar z Fa fho fhr fso fsz h1) [0, 1, 3] 0 rfl rfl rfl [[o], [An 0, An 1, An 2, An 3, An 4, An 5, An 6, An 7, An 8], [Fa]] rfl rfl rfl rfl rfl rfl (Nat.le_of_ble_eq_true rfl) rfl dX5_taken_76 ?_
        refine J_if_ne (tgt := 85) 79 dX5_taken_79 (by decide) (fun c_7_ => absurd c_7_ (by decide)) (fun _ => ?_)
        refine J_bipush (v := (-11)) 82 dX5_taken_82 rfl ?_
        exact J_iret 84 dX5_taken_84 rfl rfl
      · skip
        exact absurd c_6_ h2
    · skip
      exact absurd hv (fun z_ => z_.elim (by assumption) (by assumption))
set_option maxRecDepth 100000 in
set_option maxHeartbeats 4000000 in
theorem c_X5_taken_f (l : Launch) (G : Gd) (s : Nat) (a : Int32) (Fa : Nat) (o : Nat) (An : Nat → Nat) (Ak : Nat → Nat) (At : Nat → Nat) (Ad : Nat → Nat) (kk : Int32) (tp : Nat) (rw : Nat) (rc : Nat) (sh : Nat) (sf : Nat) (de : Nat) (la : Nat → Int32) (ns : Nat) (sd : Nat) (to : Nat → Int32) (he : Nat → Int32) (sw : Nat → Int32) (nh : Nat) (ki : Nat → Int32) (te : Nat → Int32) (mi : Nat → Int32) (ar : Nat → Int32) (z : Int32) (sff : Nat → Option Nat) (fhr : Int32) (fso : Int32) (fsz : Int32) (hs : s ≤ 3) (hy : sff s = some Fa) (hv : (10 ≤ a ∧ a ≤ 13) ∨ (0 ≤ a ∧ a ≤ 5)) (h1 : ¬ (0 ≤ fhr ∧ fhr ≤ nI nh - 1)) : Ct l G yX5_taken cX5_taken 5 (some (FieldType.int)) 3 [.ref o, .int (nI s), .int a] (wF [wMe o (An 0) (Ak 0) (At 0) (Ad 0) kk tp rw rc sh sf de, wCt G An la ns sd to he sw nh ki te mi ar z, wQ G sf 4 4 sff, wSf Fa 1 fhr fso fsz]) (some (.int (-11))) (wF [wMe o (An 0) (Ak 0) (At 0) (Ad 0) kk tp rw rc sh sf de, wCt G An la ns sd to he sw nh ki te mi ar z, wQ G sf 4 4 sff, wSf Fa 1 fhr fso fsz]) := by
  refine Ct.of "GooseArms" [some (.ref o), some (.int (nI s)), some (.int a), none, none] (by decide +kernel) rfl (Nat.le_of_ble_eq_true rfl) rfl ?_
  refine J_iload_n 0 2 dX5_taken_0 rfl rfl ?_
  refine J_bipush (v := 10) 1 dX5_taken_1 rfl ?_
  refine J_bipush (v := 13) 3 dX5_taken_3 rfl ?_
  refine kb_RX5_65 (bs' := [wMe o (An 0) (Ak 0) (At 0) (Ad 0) kk tp rw rc sh sf de, wCt G An la ns sd to he sw nh ki te mi ar z, wQ G sf 4 4 sff, wSf Fa 1 fhr fso fsz]) (rest := []) (st' := [.int (bI (10 ≤ a ∧ a ≤ 13))]) 5 (c_X5_within l G a 10 13 ) [] rfl rfl [] rfl rfl rfl rfl rfl rfl (Nat.le_of_ble_eq_true rfl) rfl dX5_taken_5 ?_
  refine J_istore_n (lv' := [some (.ref o), some (.int (nI s)), some (.int a), some (.int (bI (10 ≤ a ∧ a ≤ 13))), none]) 8 3 dX5_taken_8 rfl (by decide) rfl ?_
  refine J_iload_n 9 1 dX5_taken_9 rfl rfl ?_
  refine kb_RX5_219 (bs' := [wMe o (An 0) (Ak 0) (At 0) (Ad 0) kk tp rw rc sh sf de, wCt G An la ns sd to he sw nh ki te mi ar z, wQ G sf 4 4 sff, wSf Fa 1 fhr fso fsz]) (rest := []) (st' := [.int 1]) 10 (c_X5_isPlace_t l G s (by first | omega | assumption)) [] rfl rfl [] rfl rfl rfl rfl rfl rfl (Nat.le_of_ble_eq_true rfl) rfl dX5_taken_10 ?_
  refine J_if_eq (tgt := 27) 13 dX5_taken_13 (by decide) (fun c_1_ => absurd c_1_ (by decide)) (fun _ => ?_)
  refine J_iload_n 16 3 dX5_taken_16 rfl rfl ?_
  refine J_ifB_ne (tgt := 29) 17 dX5_taken_17 (by decide) (fun c_2_ => ?_) (fun c_2_ => ?_)
  · skip
    refine J_aload_n 29 0 dX5_taken_29 rfl rfl ?_
    refine g_205 (v := .ref sf) 30 0 rfl rfl dX5_taken_30 ?_
    refine J_iload_n 33 1 dX5_taken_33 rfl rfl ?_
    refine J_aldq (b := Fa) 34 10 4 s rfl rfl rfl (by omega) (by decide) hy dX5_taken_34 ?_
    refine J_astore (lv' := [some (.ref o), some (.int (nI s)), some (.int a), some (.int (bI (10 ≤ a ∧ a ≤ 13))), some (.ref Fa)]) 35 dX5_taken_35 (by decide) rfl ?_
    refine J_aload 37 dX5_taken_37 rfl ?_
    refine g_152 (v := .int 1) 39 11 rfl rfl dX5_taken_39 ?_
    refine J_iconst (v := 2) 42 dX5_taken_42 rfl ?_
    refine J_icmp_ne (tgt := 73) 43 dX5_taken_43 (by decide) (fun _ => ?_) (fun c_3_ => absurd c_3_ (by decide))
    refine J_aload_n 73 0 dX5_taken_73 rfl rfl ?_
    refine J_aload 74 dX5_taken_74 rfl ?_
    refine kb_RX5_292 (bs' := [wMe o (An 0) (Ak 0) (At 0) (Ad 0) kk tp rw rc sh sf de, wCt G An la ns sd to he sw nh ki te mi ar z, wQ G sf 4 4 sff, wSf Fa 1 fhr fso fsz]) (rest := []) (st' := [.int 0]) 76 (c_X5_holdsHearer_f l G o An Ak At Ad kk tp rw rc sh sf de la ns sd to he sw nh ki te mi ar z Fa fhr fso fsz h1) [0, 1, 3] 0 rfl rfl rfl [[o], [An 0, An 1, An 2, An 3, An 4, An 5, An 6, An 7, An 8], [Fa]] rfl rfl rfl rfl rfl rfl (Nat.le_of_ble_eq_true rfl) rfl dX5_taken_76 ?_
    refine J_if_ne (tgt := 85) 79 dX5_taken_79 (by decide) (fun c_4_ => absurd c_4_ (by decide)) (fun _ => ?_)
    refine J_bipush (v := (-11)) 82 dX5_taken_82 rfl ?_
    exact J_iret 84 dX5_taken_84 rfl rfl
  · skip
    refine J_iload_n 20 2 dX5_taken_20 rfl rfl ?_
    refine kb_RX5_129 (bs' := [wMe o (An 0) (Ak 0) (At 0) (Ad 0) kk tp rw rc sh sf de, wCt G An la ns sd to he sw nh ki te mi ar z, wQ G sf 4 4 sff, wSf Fa 1 fhr fso fsz]) (rest := []) (st' := [.int (bI (0 ≤ a ∧ a ≤ 5))]) 21 (c_X5_isKind l G a ) [] rfl rfl [] rfl rfl rfl rfl rfl rfl (Nat.le_of_ble_eq_true rfl) rfl dX5_taken_21 ?_
    refine J_ifB_ne (tgt := 29) 24 dX5_taken_24 (by decide) (fun c_5_ => ?_) (fun c_5_ => ?_)
    · skip
      refine J_aload_n 29 0 dX5_taken_29 rfl rfl ?_
      refine g_205 (v := .ref sf) 30 0 rfl rfl dX5_taken_30 ?_
      refine J_iload_n 33 1 dX5_taken_33 rfl rfl ?_
      refine J_aldq (b := Fa) 34 10 4 s rfl rfl rfl (by omega) (by decide) hy dX5_taken_34 ?_
      refine J_astore (lv' := [some (.ref o), some (.int (nI s)), some (.int a), some (.int (bI (10 ≤ a ∧ a ≤ 13))), some (.ref Fa)]) 35 dX5_taken_35 (by decide) rfl ?_
      refine J_aload 37 dX5_taken_37 rfl ?_
      refine g_152 (v := .int 1) 39 11 rfl rfl dX5_taken_39 ?_
      refine J_iconst (v := 2) 42 dX5_taken_42 rfl ?_
      refine J_icmp_ne (tgt := 73) 43 dX5_taken_43 (by decide) (fun _ => ?_) (fun c_6_ => absurd c_6_ (by decide))
      refine J_aload_n 73 0 dX5_taken_73 rfl rfl ?_
      refine J_aload 74 dX5_taken_74 rfl ?_
      refine kb_RX5_292 (bs' := [wMe o (An 0) (Ak 0) (At 0) (Ad 0) kk tp rw rc sh sf de, wCt G An la ns sd to he sw nh ki te mi ar z, wQ G sf 4 4 sff, wSf Fa 1 fhr fso fsz]) (rest := []) (st' := [.int 0]) 76 (c_X5_holdsHearer_f l G o An Ak At Ad kk tp rw rc sh sf de la ns sd to he sw nh ki te mi ar z Fa fhr fso fsz h1) [0, 1, 3] 0 rfl rfl rfl [[o], [An 0, An 1, An 2, An 3, An 4, An 5, An 6, An 7, An 8], [Fa]] rfl rfl rfl rfl rfl rfl (Nat.le_of_ble_eq_true rfl) rfl dX5_taken_76 ?_
      refine J_if_ne (tgt := 85) 79 dX5_taken_79 (by decide) (fun c_7_ => absurd c_7_ (by decide)) (fun _ => ?_)
      refine J_bipush (v := (-11)) 82 dX5_taken_82 rfl ?_
      exact J_iret 84 dX5_taken_84 rfl rfl
    · skip
      exact absurd hv (fun z_ => z_.elim (by assumption) (by assumption))
set_option maxRecDepth 100000 in
set_option maxHeartbeats 4000000 in
theorem c_X5_taken_h (l : Launch) (G : Gd) (s : Nat) (a : Int32) (Fa : Nat) (j : Nat) (o : Nat) (An : Nat → Nat) (Ak : Nat → Nat) (At : Nat → Nat) (Ad : Nat → Nat) (kk : Int32) (tp : Nat) (rw : Nat) (rc : Nat) (sh : Nat) (sf : Nat) (de : Nat) (la : Nat → Int32) (ns : Nat) (sd : Nat) (to : Nat → Int32) (he : Nat → Int32) (sw : Nat → Int32) (nh : Nat) (ki : Nat → Int32) (te : Nat → Int32) (mi : Nat → Int32) (ar : Nat → Int32) (z : Int32) (sff : Nat → Option Nat) (fso : Int32) (fsz : Int32) (hs : s ≤ 3) (hy : sff s = some Fa) (hv : (10 ≤ a ∧ a ≤ 13) ∨ (0 ≤ a ∧ a ≤ 5)) (hj : j < nh) (hnh : nh ≤ 8) : Ct l G yX5_taken cX5_taken 5 (some (FieldType.int)) 3 [.ref o, .int (nI s), .int a] (wF [wMe o (An 0) (Ak 0) (At 0) (Ad 0) kk tp rw rc sh sf de, wCt G An la ns sd to he sw nh ki te mi ar z, wQ G sf 4 4 sff, wSf Fa 1 (nI j) fso fsz]) (some (.int (cif (¬ (10 ≤ a ∧ a ≤ 13) ∧ fUnd (ki j) a) (nI j) (-13)))) (wF [wMe o (An 0) (Ak 0) (At 0) (Ad 0) kk tp rw rc sh sf de, wCt G An la ns sd to he sw nh ki te mi ar z, wQ G sf 4 4 sff, wSf Fa 1 (nI j) fso fsz]) := by
  refine Ct.of "GooseArms" [some (.ref o), some (.int (nI s)), some (.int a), none, none] (by decide +kernel) rfl (Nat.le_of_ble_eq_true rfl) rfl ?_
  refine J_iload_n 0 2 dX5_taken_0 rfl rfl ?_
  refine J_bipush (v := 10) 1 dX5_taken_1 rfl ?_
  refine J_bipush (v := 13) 3 dX5_taken_3 rfl ?_
  refine kb_RX5_65 (bs' := [wMe o (An 0) (Ak 0) (At 0) (Ad 0) kk tp rw rc sh sf de, wCt G An la ns sd to he sw nh ki te mi ar z, wQ G sf 4 4 sff, wSf Fa 1 (nI j) fso fsz]) (rest := []) (st' := [.int (bI (10 ≤ a ∧ a ≤ 13))]) 5 (c_X5_within l G a 10 13 ) [] rfl rfl [] rfl rfl rfl rfl rfl rfl (Nat.le_of_ble_eq_true rfl) rfl dX5_taken_5 ?_
  refine J_istore_n (lv' := [some (.ref o), some (.int (nI s)), some (.int a), some (.int (bI (10 ≤ a ∧ a ≤ 13))), none]) 8 3 dX5_taken_8 rfl (by decide) rfl ?_
  refine J_iload_n 9 1 dX5_taken_9 rfl rfl ?_
  refine kb_RX5_219 (bs' := [wMe o (An 0) (Ak 0) (At 0) (Ad 0) kk tp rw rc sh sf de, wCt G An la ns sd to he sw nh ki te mi ar z, wQ G sf 4 4 sff, wSf Fa 1 (nI j) fso fsz]) (rest := []) (st' := [.int 1]) 10 (c_X5_isPlace_t l G s (by first | omega | assumption)) [] rfl rfl [] rfl rfl rfl rfl rfl rfl (Nat.le_of_ble_eq_true rfl) rfl dX5_taken_10 ?_
  refine J_if_eq (tgt := 27) 13 dX5_taken_13 (by decide) (fun c_1_ => absurd c_1_ (by decide)) (fun _ => ?_)
  refine J_iload_n 16 3 dX5_taken_16 rfl rfl ?_
  refine J_ifB_ne (tgt := 29) 17 dX5_taken_17 (by decide) (fun c_2_ => ?_) (fun c_2_ => ?_)
  · skip
    refine J_aload_n 29 0 dX5_taken_29 rfl rfl ?_
    refine g_205 (v := .ref sf) 30 0 rfl rfl dX5_taken_30 ?_
    refine J_iload_n 33 1 dX5_taken_33 rfl rfl ?_
    refine J_aldq (b := Fa) 34 10 4 s rfl rfl rfl (by omega) (by decide) hy dX5_taken_34 ?_
    refine J_astore (lv' := [some (.ref o), some (.int (nI s)), some (.int a), some (.int (bI (10 ≤ a ∧ a ≤ 13))), some (.ref Fa)]) 35 dX5_taken_35 (by decide) rfl ?_
    refine J_aload 37 dX5_taken_37 rfl ?_
    refine g_152 (v := .int 1) 39 11 rfl rfl dX5_taken_39 ?_
    refine J_iconst (v := 2) 42 dX5_taken_42 rfl ?_
    refine J_icmp_ne (tgt := 73) 43 dX5_taken_43 (by decide) (fun _ => ?_) (fun c_3_ => absurd c_3_ (by decide))
    refine J_aload_n 73 0 dX5_taken_73 rfl rfl ?_
    refine J_aload 74 dX5_taken_74 rfl ?_
    refine kb_RX5_292 (bs' := [wMe o (An 0) (Ak 0) (At 0) (Ad 0) kk tp rw rc sh sf de, wCt G An la ns sd to he sw nh ki te mi ar z, wQ G sf 4 4 sff, wSf Fa 1 (nI j) fso fsz]) (rest := []) (st' := [.int 1]) 76 (c_X5_holdsHearer_t l G j o An Ak At Ad kk tp rw rc sh sf de la ns sd to he sw nh ki te mi ar z Fa fso fsz (by first | omega | assumption) (by first | omega | assumption)) [0, 1, 3] 0 rfl rfl rfl [[o], [An 0, An 1, An 2, An 3, An 4, An 5, An 6, An 7, An 8], [Fa]] rfl rfl rfl rfl rfl rfl (Nat.le_of_ble_eq_true rfl) rfl dX5_taken_76 ?_
    refine J_if_ne (tgt := 85) 79 dX5_taken_79 (by decide) (fun _ => ?_) (fun c_4_ => absurd c_4_ (by decide))
    refine J_iload_n 85 3 dX5_taken_85 rfl rfl ?_
    refine J_ifB_ne (tgt := 117) 86 dX5_taken_86 (by decide) (fun c_5_ => ?_) (fun c_5_ => ?_)
    · skip
      refine J_bipush (v := (-13)) 117 dX5_taken_117 rfl ?_
      exact J_iret 119 dX5_taken_119 (congrArg (fun x_ => some (Value.int x_)) (by first | exact (cif_t ⟨by assumption, by assumption⟩).symm | exact (cif_f (fun z_ => by first | exact absurd (by assumption) z_.1 | exact absurd z_.2 (by assumption))).symm)) rfl
    · skip
      refine J_aload_n 89 0 dX5_taken_89 rfl rfl ?_
      refine g_196 (v := .ref (An 0)) 90 0 rfl rfl dX5_taken_90 ?_
      refine g_56 (v := .ref (An 5)) 93 1 rfl rfl dX5_taken_93 ?_
      refine J_aload 96 dX5_taken_96 rfl ?_
      refine g_154 (v := .int (nI j)) 98 11 rfl rfl dX5_taken_98 ?_
      refine J_iald 101 6 j rfl rfl (by omega) (by decide) dX5_taken_101 ?_
      refine J_iload_n 102 2 dX5_taken_102 rfl rfl ?_
      refine kb_RX5_299 (bs' := [wMe o (An 0) (Ak 0) (At 0) (Ad 0) kk tp rw rc sh sf de, wCt G An la ns sd to he sw nh ki te mi ar z, wQ G sf 4 4 sff, wSf Fa 1 (nI j) fso fsz]) (rest := []) (st' := [.int (bI (fUnd (ki j) a))]) 103 (c_X5_isUnder l G (ki j) a ) [] rfl rfl [] rfl rfl rfl rfl rfl rfl (Nat.le_of_ble_eq_true rfl) rfl dX5_taken_103 ?_
      refine J_ifB_eq (tgt := 117) 106 dX5_taken_106 (by decide) (fun c_6_ => ?_) (fun c_6_ => ?_)
      · skip
        refine J_bipush (v := (-13)) 117 dX5_taken_117 rfl ?_
        exact J_iret 119 dX5_taken_119 (congrArg (fun x_ => some (Value.int x_)) (by first | exact (cif_t ⟨by assumption, by assumption⟩).symm | exact (cif_f (fun z_ => by first | exact absurd (by assumption) z_.1 | exact absurd z_.2 (by assumption))).symm)) rfl
      · skip
        refine J_aload 109 dX5_taken_109 rfl ?_
        refine g_154 (v := .int (nI j)) 111 11 rfl rfl dX5_taken_111 ?_
        refine J_goto (tgt := 119) 114 dX5_taken_114 (by decide) ?_
        exact J_iret 119 dX5_taken_119 (congrArg (fun x_ => some (Value.int x_)) (by first | exact (cif_t ⟨by assumption, by assumption⟩).symm | exact (cif_f (fun z_ => by first | exact absurd (by assumption) z_.1 | exact absurd z_.2 (by assumption))).symm)) rfl
  · skip
    refine J_iload_n 20 2 dX5_taken_20 rfl rfl ?_
    refine kb_RX5_129 (bs' := [wMe o (An 0) (Ak 0) (At 0) (Ad 0) kk tp rw rc sh sf de, wCt G An la ns sd to he sw nh ki te mi ar z, wQ G sf 4 4 sff, wSf Fa 1 (nI j) fso fsz]) (rest := []) (st' := [.int (bI (0 ≤ a ∧ a ≤ 5))]) 21 (c_X5_isKind l G a ) [] rfl rfl [] rfl rfl rfl rfl rfl rfl (Nat.le_of_ble_eq_true rfl) rfl dX5_taken_21 ?_
    refine J_ifB_ne (tgt := 29) 24 dX5_taken_24 (by decide) (fun c_7_ => ?_) (fun c_7_ => ?_)
    · skip
      refine J_aload_n 29 0 dX5_taken_29 rfl rfl ?_
      refine g_205 (v := .ref sf) 30 0 rfl rfl dX5_taken_30 ?_
      refine J_iload_n 33 1 dX5_taken_33 rfl rfl ?_
      refine J_aldq (b := Fa) 34 10 4 s rfl rfl rfl (by omega) (by decide) hy dX5_taken_34 ?_
      refine J_astore (lv' := [some (.ref o), some (.int (nI s)), some (.int a), some (.int (bI (10 ≤ a ∧ a ≤ 13))), some (.ref Fa)]) 35 dX5_taken_35 (by decide) rfl ?_
      refine J_aload 37 dX5_taken_37 rfl ?_
      refine g_152 (v := .int 1) 39 11 rfl rfl dX5_taken_39 ?_
      refine J_iconst (v := 2) 42 dX5_taken_42 rfl ?_
      refine J_icmp_ne (tgt := 73) 43 dX5_taken_43 (by decide) (fun _ => ?_) (fun c_8_ => absurd c_8_ (by decide))
      refine J_aload_n 73 0 dX5_taken_73 rfl rfl ?_
      refine J_aload 74 dX5_taken_74 rfl ?_
      refine kb_RX5_292 (bs' := [wMe o (An 0) (Ak 0) (At 0) (Ad 0) kk tp rw rc sh sf de, wCt G An la ns sd to he sw nh ki te mi ar z, wQ G sf 4 4 sff, wSf Fa 1 (nI j) fso fsz]) (rest := []) (st' := [.int 1]) 76 (c_X5_holdsHearer_t l G j o An Ak At Ad kk tp rw rc sh sf de la ns sd to he sw nh ki te mi ar z Fa fso fsz (by first | omega | assumption) (by first | omega | assumption)) [0, 1, 3] 0 rfl rfl rfl [[o], [An 0, An 1, An 2, An 3, An 4, An 5, An 6, An 7, An 8], [Fa]] rfl rfl rfl rfl rfl rfl (Nat.le_of_ble_eq_true rfl) rfl dX5_taken_76 ?_
      refine J_if_ne (tgt := 85) 79 dX5_taken_79 (by decide) (fun _ => ?_) (fun c_9_ => absurd c_9_ (by decide))
      refine J_iload_n 85 3 dX5_taken_85 rfl rfl ?_
      refine J_ifB_ne (tgt := 117) 86 dX5_taken_86 (by decide) (fun c_10_ => ?_) (fun c_10_ => ?_)
      · skip
        refine J_bipush (v := (-13)) 117 dX5_taken_117 rfl ?_
        exact J_iret 119 dX5_taken_119 (congrArg (fun x_ => some (Value.int x_)) (by first | exact (cif_t ⟨by assumption, by assumption⟩).symm | exact (cif_f (fun z_ => by first | exact absurd (by assumption) z_.1 | exact absurd z_.2 (by assumption))).symm)) rfl
      · skip
        refine J_aload_n 89 0 dX5_taken_89 rfl rfl ?_
        refine g_196 (v := .ref (An 0)) 90 0 rfl rfl dX5_taken_90 ?_
        refine g_56 (v := .ref (An 5)) 93 1 rfl rfl dX5_taken_93 ?_
        refine J_aload 96 dX5_taken_96 rfl ?_
        refine g_154 (v := .int (nI j)) 98 11 rfl rfl dX5_taken_98 ?_
        refine J_iald 101 6 j rfl rfl (by omega) (by decide) dX5_taken_101 ?_
        refine J_iload_n 102 2 dX5_taken_102 rfl rfl ?_
        refine kb_RX5_299 (bs' := [wMe o (An 0) (Ak 0) (At 0) (Ad 0) kk tp rw rc sh sf de, wCt G An la ns sd to he sw nh ki te mi ar z, wQ G sf 4 4 sff, wSf Fa 1 (nI j) fso fsz]) (rest := []) (st' := [.int (bI (fUnd (ki j) a))]) 103 (c_X5_isUnder l G (ki j) a ) [] rfl rfl [] rfl rfl rfl rfl rfl rfl (Nat.le_of_ble_eq_true rfl) rfl dX5_taken_103 ?_
        refine J_ifB_eq (tgt := 117) 106 dX5_taken_106 (by decide) (fun c_11_ => ?_) (fun c_11_ => ?_)
        · skip
          refine J_bipush (v := (-13)) 117 dX5_taken_117 rfl ?_
          exact J_iret 119 dX5_taken_119 (congrArg (fun x_ => some (Value.int x_)) (by first | exact (cif_t ⟨by assumption, by assumption⟩).symm | exact (cif_f (fun z_ => by first | exact absurd (by assumption) z_.1 | exact absurd z_.2 (by assumption))).symm)) rfl
        · skip
          refine J_aload 109 dX5_taken_109 rfl ?_
          refine g_154 (v := .int (nI j)) 111 11 rfl rfl dX5_taken_111 ?_
          refine J_goto (tgt := 119) 114 dX5_taken_114 (by decide) ?_
          exact J_iret 119 dX5_taken_119 (congrArg (fun x_ => some (Value.int x_)) (by first | exact (cif_t ⟨by assumption, by assumption⟩).symm | exact (cif_f (fun z_ => by first | exact absurd (by assumption) z_.1 | exact absurd z_.2 (by assumption))).symm)) rfl
    · skip
      exact absurd hv (fun z_ => z_.elim (by assumption) (by assumption))
set_option maxRecDepth 100000 in
set_option maxHeartbeats 4000000 in
theorem c_X1_bodyOf_0_0 (l : Launch) (G : Gd)   : Ct l G yX1_bodyOf cX1_bodyOf 2 (some (FieldType.int)) 2 [.int 0, .int 0] (wF []) (some (.int 10)) (wF []) := by
  refine Ct.of "GooseArms$Deed" [some (.int 0), some (.int 0)] (by decide +kernel) rfl (Nat.le_of_ble_eq_true rfl) rfl ?_
  refine J_iload_n 0 0 dX1_bodyOf_0 rfl rfl ?_
  refine kb_RX1_32 (bs' := []) (rest := []) (st' := [.int (bI (0 ≤ 0 ∧ 0 ≤ 5))]) 1 (c_X5_isKind l G 0 ) [] rfl rfl [] rfl rfl rfl rfl rfl rfl (Nat.le_of_ble_eq_true rfl) rfl dX1_bodyOf_1 ?_
  refine J_ifB_ne (tgt := 10) 4 dX1_bodyOf_4 (by decide) (fun c_1_ => ?_) (fun c_1_ => ?_)
  · skip
    refine J_iload_n 10 1 dX1_bodyOf_10 rfl rfl ?_
    refine J_tableIn (tgt := 36) (off := 25) 11 0 dX1_bodyOf_11 rfl (by decide +kernel) (by decide) ?_
    refine J_gets (v := .ref (G.2.2 2)) 36 w_744 gz2 rfl dX1_bodyOf_36 ?_
    refine J_iload_n 39 0 dX1_bodyOf_39 rfl rfl ?_
    refine J_stat (v := .int 10) 40 gt2 0 rfl (by omega) (by decide) rfl dX1_bodyOf_40 ?_
    exact J_iret 41 dX1_bodyOf_41 rfl rfl
  · skip
    exact absurd (by decide) c_1_
set_option maxRecDepth 100000 in
set_option maxHeartbeats 4000000 in
theorem c_X1_bodyOf_0_1 (l : Launch) (G : Gd)   : Ct l G yX1_bodyOf cX1_bodyOf 2 (some (FieldType.int)) 2 [.int 0, .int 1] (wF []) (some (.int 11)) (wF []) := by
  refine Ct.of "GooseArms$Deed" [some (.int 0), some (.int 1)] (by decide +kernel) rfl (Nat.le_of_ble_eq_true rfl) rfl ?_
  refine J_iload_n 0 0 dX1_bodyOf_0 rfl rfl ?_
  refine kb_RX1_32 (bs' := []) (rest := []) (st' := [.int (bI (0 ≤ 0 ∧ 0 ≤ 5))]) 1 (c_X5_isKind l G 0 ) [] rfl rfl [] rfl rfl rfl rfl rfl rfl (Nat.le_of_ble_eq_true rfl) rfl dX1_bodyOf_1 ?_
  refine J_ifB_ne (tgt := 10) 4 dX1_bodyOf_4 (by decide) (fun c_1_ => ?_) (fun c_1_ => ?_)
  · skip
    refine J_iload_n 10 1 dX1_bodyOf_10 rfl rfl ?_
    refine J_tableIn (tgt := 42) (off := 31) 11 1 dX1_bodyOf_11 rfl (by decide +kernel) (by decide) ?_
    refine J_gets (v := .ref (G.2.2 3)) 42 w_746 gz3 rfl dX1_bodyOf_42 ?_
    refine J_iload_n 45 0 dX1_bodyOf_45 rfl rfl ?_
    refine J_stat (v := .int 11) 46 gt3 0 rfl (by omega) (by decide) rfl dX1_bodyOf_46 ?_
    exact J_iret 47 dX1_bodyOf_47 rfl rfl
  · skip
    exact absurd (by decide) c_1_
set_option maxRecDepth 100000 in
set_option maxHeartbeats 4000000 in
theorem c_X1_bodyOf_0_2 (l : Launch) (G : Gd)   : Ct l G yX1_bodyOf cX1_bodyOf 2 (some (FieldType.int)) 2 [.int 0, .int 2] (wF []) (some (.int 12)) (wF []) := by
  refine Ct.of "GooseArms$Deed" [some (.int 0), some (.int 2)] (by decide +kernel) rfl (Nat.le_of_ble_eq_true rfl) rfl ?_
  refine J_iload_n 0 0 dX1_bodyOf_0 rfl rfl ?_
  refine kb_RX1_32 (bs' := []) (rest := []) (st' := [.int (bI (0 ≤ 0 ∧ 0 ≤ 5))]) 1 (c_X5_isKind l G 0 ) [] rfl rfl [] rfl rfl rfl rfl rfl rfl (Nat.le_of_ble_eq_true rfl) rfl dX1_bodyOf_1 ?_
  refine J_ifB_ne (tgt := 10) 4 dX1_bodyOf_4 (by decide) (fun c_1_ => ?_) (fun c_1_ => ?_)
  · skip
    refine J_iload_n 10 1 dX1_bodyOf_10 rfl rfl ?_
    refine J_tableIn (tgt := 48) (off := 37) 11 2 dX1_bodyOf_11 rfl (by decide +kernel) (by decide) ?_
    refine J_gets (v := .ref (G.2.2 4)) 48 w_748 gz4 rfl dX1_bodyOf_48 ?_
    refine J_iload_n 51 0 dX1_bodyOf_51 rfl rfl ?_
    refine J_stat (v := .int 12) 52 gt4 0 rfl (by omega) (by decide) rfl dX1_bodyOf_52 ?_
    exact J_iret 53 dX1_bodyOf_53 rfl rfl
  · skip
    exact absurd (by decide) c_1_
set_option maxRecDepth 100000 in
set_option maxHeartbeats 4000000 in
theorem c_X1_bodyOf_0_3 (l : Launch) (G : Gd)   : Ct l G yX1_bodyOf cX1_bodyOf 2 (some (FieldType.int)) 2 [.int 0, .int 3] (wF []) (some (.int 13)) (wF []) := by
  refine Ct.of "GooseArms$Deed" [some (.int 0), some (.int 3)] (by decide +kernel) rfl (Nat.le_of_ble_eq_true rfl) rfl ?_
  refine J_iload_n 0 0 dX1_bodyOf_0 rfl rfl ?_
  refine kb_RX1_32 (bs' := []) (rest := []) (st' := [.int (bI (0 ≤ 0 ∧ 0 ≤ 5))]) 1 (c_X5_isKind l G 0 ) [] rfl rfl [] rfl rfl rfl rfl rfl rfl (Nat.le_of_ble_eq_true rfl) rfl dX1_bodyOf_1 ?_
  refine J_ifB_ne (tgt := 10) 4 dX1_bodyOf_4 (by decide) (fun c_1_ => ?_) (fun c_1_ => ?_)
  · skip
    refine J_iload_n 10 1 dX1_bodyOf_10 rfl rfl ?_
    refine J_tableOut (tgt := 54) 11 dX1_bodyOf_11 (by decide +kernel) (by decide) ?_
    refine J_gets (v := .ref (G.2.2 5)) 54 w_750 gz5 rfl dX1_bodyOf_54 ?_
    refine J_iload_n 57 0 dX1_bodyOf_57 rfl rfl ?_
    refine J_stat (v := .int 13) 58 gt5 0 rfl (by omega) (by decide) rfl dX1_bodyOf_58 ?_
    exact J_iret 59 dX1_bodyOf_59 rfl rfl
  · skip
    exact absurd (by decide) c_1_
set_option maxRecDepth 100000 in
set_option maxHeartbeats 4000000 in
theorem c_X1_bodyOf_1_0 (l : Launch) (G : Gd)   : Ct l G yX1_bodyOf cX1_bodyOf 2 (some (FieldType.int)) 2 [.int 1, .int 0] (wF []) (some (.int 10)) (wF []) := by
  refine Ct.of "GooseArms$Deed" [some (.int 1), some (.int 0)] (by decide +kernel) rfl (Nat.le_of_ble_eq_true rfl) rfl ?_
  refine J_iload_n 0 0 dX1_bodyOf_0 rfl rfl ?_
  refine kb_RX1_32 (bs' := []) (rest := []) (st' := [.int (bI (0 ≤ 1 ∧ 1 ≤ 5))]) 1 (c_X5_isKind l G 1 ) [] rfl rfl [] rfl rfl rfl rfl rfl rfl (Nat.le_of_ble_eq_true rfl) rfl dX1_bodyOf_1 ?_
  refine J_ifB_ne (tgt := 10) 4 dX1_bodyOf_4 (by decide) (fun c_1_ => ?_) (fun c_1_ => ?_)
  · skip
    refine J_iload_n 10 1 dX1_bodyOf_10 rfl rfl ?_
    refine J_tableIn (tgt := 36) (off := 25) 11 0 dX1_bodyOf_11 rfl (by decide +kernel) (by decide) ?_
    refine J_gets (v := .ref (G.2.2 2)) 36 w_744 gz2 rfl dX1_bodyOf_36 ?_
    refine J_iload_n 39 0 dX1_bodyOf_39 rfl rfl ?_
    refine J_stat (v := .int 10) 40 gt2 1 rfl (by omega) (by decide) rfl dX1_bodyOf_40 ?_
    exact J_iret 41 dX1_bodyOf_41 rfl rfl
  · skip
    exact absurd (by decide) c_1_
set_option maxRecDepth 100000 in
set_option maxHeartbeats 4000000 in
theorem c_X1_bodyOf_1_1 (l : Launch) (G : Gd)   : Ct l G yX1_bodyOf cX1_bodyOf 2 (some (FieldType.int)) 2 [.int 1, .int 1] (wF []) (some (.int 20)) (wF []) := by
  refine Ct.of "GooseArms$Deed" [some (.int 1), some (.int 1)] (by decide +kernel) rfl (Nat.le_of_ble_eq_true rfl) rfl ?_
  refine J_iload_n 0 0 dX1_bodyOf_0 rfl rfl ?_
  refine kb_RX1_32 (bs' := []) (rest := []) (st' := [.int (bI (0 ≤ 1 ∧ 1 ≤ 5))]) 1 (c_X5_isKind l G 1 ) [] rfl rfl [] rfl rfl rfl rfl rfl rfl (Nat.le_of_ble_eq_true rfl) rfl dX1_bodyOf_1 ?_
  refine J_ifB_ne (tgt := 10) 4 dX1_bodyOf_4 (by decide) (fun c_1_ => ?_) (fun c_1_ => ?_)
  · skip
    refine J_iload_n 10 1 dX1_bodyOf_10 rfl rfl ?_
    refine J_tableIn (tgt := 42) (off := 31) 11 1 dX1_bodyOf_11 rfl (by decide +kernel) (by decide) ?_
    refine J_gets (v := .ref (G.2.2 3)) 42 w_746 gz3 rfl dX1_bodyOf_42 ?_
    refine J_iload_n 45 0 dX1_bodyOf_45 rfl rfl ?_
    refine J_stat (v := .int 20) 46 gt3 1 rfl (by omega) (by decide) rfl dX1_bodyOf_46 ?_
    exact J_iret 47 dX1_bodyOf_47 rfl rfl
  · skip
    exact absurd (by decide) c_1_
set_option maxRecDepth 100000 in
set_option maxHeartbeats 4000000 in
theorem c_X1_bodyOf_1_2 (l : Launch) (G : Gd)   : Ct l G yX1_bodyOf cX1_bodyOf 2 (some (FieldType.int)) 2 [.int 1, .int 2] (wF []) (some (.int 12)) (wF []) := by
  refine Ct.of "GooseArms$Deed" [some (.int 1), some (.int 2)] (by decide +kernel) rfl (Nat.le_of_ble_eq_true rfl) rfl ?_
  refine J_iload_n 0 0 dX1_bodyOf_0 rfl rfl ?_
  refine kb_RX1_32 (bs' := []) (rest := []) (st' := [.int (bI (0 ≤ 1 ∧ 1 ≤ 5))]) 1 (c_X5_isKind l G 1 ) [] rfl rfl [] rfl rfl rfl rfl rfl rfl (Nat.le_of_ble_eq_true rfl) rfl dX1_bodyOf_1 ?_
  refine J_ifB_ne (tgt := 10) 4 dX1_bodyOf_4 (by decide) (fun c_1_ => ?_) (fun c_1_ => ?_)
  · skip
    refine J_iload_n 10 1 dX1_bodyOf_10 rfl rfl ?_
    refine J_tableIn (tgt := 48) (off := 37) 11 2 dX1_bodyOf_11 rfl (by decide +kernel) (by decide) ?_
    refine J_gets (v := .ref (G.2.2 4)) 48 w_748 gz4 rfl dX1_bodyOf_48 ?_
    refine J_iload_n 51 0 dX1_bodyOf_51 rfl rfl ?_
    refine J_stat (v := .int 12) 52 gt4 1 rfl (by omega) (by decide) rfl dX1_bodyOf_52 ?_
    exact J_iret 53 dX1_bodyOf_53 rfl rfl
  · skip
    exact absurd (by decide) c_1_
set_option maxRecDepth 100000 in
set_option maxHeartbeats 4000000 in
theorem c_X1_bodyOf_1_3 (l : Launch) (G : Gd)   : Ct l G yX1_bodyOf cX1_bodyOf 2 (some (FieldType.int)) 2 [.int 1, .int 3] (wF []) (some (.int 13)) (wF []) := by
  refine Ct.of "GooseArms$Deed" [some (.int 1), some (.int 3)] (by decide +kernel) rfl (Nat.le_of_ble_eq_true rfl) rfl ?_
  refine J_iload_n 0 0 dX1_bodyOf_0 rfl rfl ?_
  refine kb_RX1_32 (bs' := []) (rest := []) (st' := [.int (bI (0 ≤ 1 ∧ 1 ≤ 5))]) 1 (c_X5_isKind l G 1 ) [] rfl rfl [] rfl rfl rfl rfl rfl rfl (Nat.le_of_ble_eq_true rfl) rfl dX1_bodyOf_1 ?_
  refine J_ifB_ne (tgt := 10) 4 dX1_bodyOf_4 (by decide) (fun c_1_ => ?_) (fun c_1_ => ?_)
  · skip
    refine J_iload_n 10 1 dX1_bodyOf_10 rfl rfl ?_
    refine J_tableOut (tgt := 54) 11 dX1_bodyOf_11 (by decide +kernel) (by decide) ?_
    refine J_gets (v := .ref (G.2.2 5)) 54 w_750 gz5 rfl dX1_bodyOf_54 ?_
    refine J_iload_n 57 0 dX1_bodyOf_57 rfl rfl ?_
    refine J_stat (v := .int 13) 58 gt5 1 rfl (by omega) (by decide) rfl dX1_bodyOf_58 ?_
    exact J_iret 59 dX1_bodyOf_59 rfl rfl
  · skip
    exact absurd (by decide) c_1_
set_option maxRecDepth 100000 in
set_option maxHeartbeats 4000000 in
theorem c_X1_bodyOf_2_0 (l : Launch) (G : Gd)   : Ct l G yX1_bodyOf cX1_bodyOf 2 (some (FieldType.int)) 2 [.int 2, .int 0] (wF []) (some (.int 30)) (wF []) := by
  refine Ct.of "GooseArms$Deed" [some (.int 2), some (.int 0)] (by decide +kernel) rfl (Nat.le_of_ble_eq_true rfl) rfl ?_
  refine J_iload_n 0 0 dX1_bodyOf_0 rfl rfl ?_
  refine kb_RX1_32 (bs' := []) (rest := []) (st' := [.int (bI (0 ≤ 2 ∧ 2 ≤ 5))]) 1 (c_X5_isKind l G 2 ) [] rfl rfl [] rfl rfl rfl rfl rfl rfl (Nat.le_of_ble_eq_true rfl) rfl dX1_bodyOf_1 ?_
  refine J_ifB_ne (tgt := 10) 4 dX1_bodyOf_4 (by decide) (fun c_1_ => ?_) (fun c_1_ => ?_)
  · skip
    refine J_iload_n 10 1 dX1_bodyOf_10 rfl rfl ?_
    refine J_tableIn (tgt := 36) (off := 25) 11 0 dX1_bodyOf_11 rfl (by decide +kernel) (by decide) ?_
    refine J_gets (v := .ref (G.2.2 2)) 36 w_744 gz2 rfl dX1_bodyOf_36 ?_
    refine J_iload_n 39 0 dX1_bodyOf_39 rfl rfl ?_
    refine J_stat (v := .int 30) 40 gt2 2 rfl (by omega) (by decide) rfl dX1_bodyOf_40 ?_
    exact J_iret 41 dX1_bodyOf_41 rfl rfl
  · skip
    exact absurd (by decide) c_1_
set_option maxRecDepth 100000 in
set_option maxHeartbeats 4000000 in
theorem c_X1_bodyOf_2_1 (l : Launch) (G : Gd)   : Ct l G yX1_bodyOf cX1_bodyOf 2 (some (FieldType.int)) 2 [.int 2, .int 1] (wF []) (some (.int 11)) (wF []) := by
  refine Ct.of "GooseArms$Deed" [some (.int 2), some (.int 1)] (by decide +kernel) rfl (Nat.le_of_ble_eq_true rfl) rfl ?_
  refine J_iload_n 0 0 dX1_bodyOf_0 rfl rfl ?_
  refine kb_RX1_32 (bs' := []) (rest := []) (st' := [.int (bI (0 ≤ 2 ∧ 2 ≤ 5))]) 1 (c_X5_isKind l G 2 ) [] rfl rfl [] rfl rfl rfl rfl rfl rfl (Nat.le_of_ble_eq_true rfl) rfl dX1_bodyOf_1 ?_
  refine J_ifB_ne (tgt := 10) 4 dX1_bodyOf_4 (by decide) (fun c_1_ => ?_) (fun c_1_ => ?_)
  · skip
    refine J_iload_n 10 1 dX1_bodyOf_10 rfl rfl ?_
    refine J_tableIn (tgt := 42) (off := 31) 11 1 dX1_bodyOf_11 rfl (by decide +kernel) (by decide) ?_
    refine J_gets (v := .ref (G.2.2 3)) 42 w_746 gz3 rfl dX1_bodyOf_42 ?_
    refine J_iload_n 45 0 dX1_bodyOf_45 rfl rfl ?_
    refine J_stat (v := .int 11) 46 gt3 2 rfl (by omega) (by decide) rfl dX1_bodyOf_46 ?_
    exact J_iret 47 dX1_bodyOf_47 rfl rfl
  · skip
    exact absurd (by decide) c_1_
set_option maxRecDepth 100000 in
set_option maxHeartbeats 4000000 in
theorem c_X1_bodyOf_2_2 (l : Launch) (G : Gd)   : Ct l G yX1_bodyOf cX1_bodyOf 2 (some (FieldType.int)) 2 [.int 2, .int 2] (wF []) (some (.int 12)) (wF []) := by
  refine Ct.of "GooseArms$Deed" [some (.int 2), some (.int 2)] (by decide +kernel) rfl (Nat.le_of_ble_eq_true rfl) rfl ?_
  refine J_iload_n 0 0 dX1_bodyOf_0 rfl rfl ?_
  refine kb_RX1_32 (bs' := []) (rest := []) (st' := [.int (bI (0 ≤ 2 ∧ 2 ≤ 5))]) 1 (c_X5_isKind l G 2 ) [] rfl rfl [] rfl rfl rfl rfl rfl rfl (Nat.le_of_ble_eq_true rfl) rfl dX1_bodyOf_1 ?_
  refine J_ifB_ne (tgt := 10) 4 dX1_bodyOf_4 (by decide) (fun c_1_ => ?_) (fun c_1_ => ?_)
  · skip
    refine J_iload_n 10 1 dX1_bodyOf_10 rfl rfl ?_
    refine J_tableIn (tgt := 48) (off := 37) 11 2 dX1_bodyOf_11 rfl (by decide +kernel) (by decide) ?_
    refine J_gets (v := .ref (G.2.2 4)) 48 w_748 gz4 rfl dX1_bodyOf_48 ?_
    refine J_iload_n 51 0 dX1_bodyOf_51 rfl rfl ?_
    refine J_stat (v := .int 12) 52 gt4 2 rfl (by omega) (by decide) rfl dX1_bodyOf_52 ?_
    exact J_iret 53 dX1_bodyOf_53 rfl rfl
  · skip
    exact absurd (by decide) c_1_
set_option maxRecDepth 100000 in
set_option maxHeartbeats 4000000 in
theorem c_X1_bodyOf_2_3 (l : Launch) (G : Gd)   : Ct l G yX1_bodyOf cX1_bodyOf 2 (some (FieldType.int)) 2 [.int 2, .int 3] (wF []) (some (.int 31)) (wF []) := by
  refine Ct.of "GooseArms$Deed" [some (.int 2), some (.int 3)] (by decide +kernel) rfl (Nat.le_of_ble_eq_true rfl) rfl ?_
  refine J_iload_n 0 0 dX1_bodyOf_0 rfl rfl ?_
  refine kb_RX1_32 (bs' := []) (rest := []) (st' := [.int (bI (0 ≤ 2 ∧ 2 ≤ 5))]) 1 (c_X5_isKind l G 2 ) [] rfl rfl [] rfl rfl rfl rfl rfl rfl (Nat.le_of_ble_eq_true rfl) rfl dX1_bodyOf_1 ?_
  refine J_ifB_ne (tgt := 10) 4 dX1_bodyOf_4 (by decide) (fun c_1_ => ?_) (fun c_1_ => ?_)
  · skip
    refine J_iload_n 10 1 dX1_bodyOf_10 rfl rfl ?_
    refine J_tableOut (tgt := 54) 11 dX1_bodyOf_11 (by decide +kernel) (by decide) ?_
    refine J_gets (v := .ref (G.2.2 5)) 54 w_750 gz5 rfl dX1_bodyOf_54 ?_
    refine J_iload_n 57 0 dX1_bodyOf_57 rfl rfl ?_
    refine J_stat (v := .int 31) 58 gt5 2 rfl (by omega) (by decide) rfl dX1_bodyOf_58 ?_
    exact J_iret 59 dX1_bodyOf_59 rfl rfl
  · skip
    exact absurd (by decide) c_1_
set_option maxRecDepth 100000 in
set_option maxHeartbeats 4000000 in
theorem c_X1_bodyOf_3_0 (l : Launch) (G : Gd)   : Ct l G yX1_bodyOf cX1_bodyOf 2 (some (FieldType.int)) 2 [.int 3, .int 0] (wF []) (some (.int 51)) (wF []) := by
  refine Ct.of "GooseArms$Deed" [some (.int 3), some (.int 0)] (by decide +kernel) rfl (Nat.le_of_ble_eq_true rfl) rfl ?_
  refine J_iload_n 0 0 dX1_bodyOf_0 rfl rfl ?_
  refine kb_RX1_32 (bs' := []) (rest := []) (st' := [.int (bI (0 ≤ 3 ∧ 3 ≤ 5))]) 1 (c_X5_isKind l G 3 ) [] rfl rfl [] rfl rfl rfl rfl rfl rfl (Nat.le_of_ble_eq_true rfl) rfl dX1_bodyOf_1 ?_
  refine J_ifB_ne (tgt := 10) 4 dX1_bodyOf_4 (by decide) (fun c_1_ => ?_) (fun c_1_ => ?_)
  · skip
    refine J_iload_n 10 1 dX1_bodyOf_10 rfl rfl ?_
    refine J_tableIn (tgt := 36) (off := 25) 11 0 dX1_bodyOf_11 rfl (by decide +kernel) (by decide) ?_
    refine J_gets (v := .ref (G.2.2 2)) 36 w_744 gz2 rfl dX1_bodyOf_36 ?_
    refine J_iload_n 39 0 dX1_bodyOf_39 rfl rfl ?_
    refine J_stat (v := .int 51) 40 gt2 3 rfl (by omega) (by decide) rfl dX1_bodyOf_40 ?_
    exact J_iret 41 dX1_bodyOf_41 rfl rfl
  · skip
    exact absurd (by decide) c_1_
set_option maxRecDepth 100000 in
set_option maxHeartbeats 4000000 in
theorem c_X1_bodyOf_3_1 (l : Launch) (G : Gd)   : Ct l G yX1_bodyOf cX1_bodyOf 2 (some (FieldType.int)) 2 [.int 3, .int 1] (wF []) (some (.int 20)) (wF []) := by
  refine Ct.of "GooseArms$Deed" [some (.int 3), some (.int 1)] (by decide +kernel) rfl (Nat.le_of_ble_eq_true rfl) rfl ?_
  refine J_iload_n 0 0 dX1_bodyOf_0 rfl rfl ?_
  refine kb_RX1_32 (bs' := []) (rest := []) (st' := [.int (bI (0 ≤ 3 ∧ 3 ≤ 5))]) 1 (c_X5_isKind l G 3 ) [] rfl rfl [] rfl rfl rfl rfl rfl rfl (Nat.le_of_ble_eq_true rfl) rfl dX1_bodyOf_1 ?_
  refine J_ifB_ne (tgt := 10) 4 dX1_bodyOf_4 (by decide) (fun c_1_ => ?_) (fun c_1_ => ?_)
  · skip
    refine J_iload_n 10 1 dX1_bodyOf_10 rfl rfl ?_
    refine J_tableIn (tgt := 42) (off := 31) 11 1 dX1_bodyOf_11 rfl (by decide +kernel) (by decide) ?_
    refine J_gets (v := .ref (G.2.2 3)) 42 w_746 gz3 rfl dX1_bodyOf_42 ?_
    refine J_iload_n 45 0 dX1_bodyOf_45 rfl rfl ?_
    refine J_stat (v := .int 20) 46 gt3 3 rfl (by omega) (by decide) rfl dX1_bodyOf_46 ?_
    exact J_iret 47 dX1_bodyOf_47 rfl rfl
  · skip
    exact absurd (by decide) c_1_
set_option maxRecDepth 100000 in
set_option maxHeartbeats 4000000 in
theorem c_X1_bodyOf_3_2 (l : Launch) (G : Gd)   : Ct l G yX1_bodyOf cX1_bodyOf 2 (some (FieldType.int)) 2 [.int 3, .int 2] (wF []) (some (.int 50)) (wF []) := by
  refine Ct.of "GooseArms$Deed" [some (.int 3), some (.int 2)] (by decide +kernel) rfl (Nat.le_of_ble_eq_true rfl) rfl ?_
  refine J_iload_n 0 0 dX1_bodyOf_0 rfl rfl ?_
  refine kb_RX1_32 (bs' := []) (rest := []) (st' := [.int (bI (0 ≤ 3 ∧ 3 ≤ 5))]) 1 (c_X5_isKind l G 3 ) [] rfl rfl [] rfl rfl rfl rfl rfl rfl (Nat.le_of_ble_eq_true rfl) rfl dX1_bodyOf_1 ?_
  refine J_ifB_ne (tgt := 10) 4 dX1_bodyOf_4 (by decide) (fun c_1_ => ?_) (fun c_1_ => ?_)
  · skip
    refine J_iload_n 10 1 dX1_bodyOf_10 rfl rfl ?_
    refine J_tableIn (tgt := 48) (off := 37) 11 2 dX1_bodyOf_11 rfl (by decide +kernel) (by decide) ?_
    refine J_gets (v := .ref (G.2.2 4)) 48 w_748 gz4 rfl dX1_bodyOf_48 ?_
    refine J_iload_n 51 0 dX1_bodyOf_51 rfl rfl ?_
    refine J_stat (v := .int 50) 52 gt4 3 rfl (by omega) (by decide) rfl dX1_bodyOf_52 ?_
    exact J_iret 53 dX1_bodyOf_53 rfl rfl
  · skip
    exact absurd (by decide) c_1_
set_option maxRecDepth 100000 in
set_option maxHeartbeats 4000000 in
theorem c_X1_bodyOf_3_3 (l : Launch) (G : Gd)   : Ct l G yX1_bodyOf cX1_bodyOf 2 (some (FieldType.int)) 2 [.int 3, .int 3] (wF []) (some (.int 13)) (wF []) := by
  refine Ct.of "GooseArms$Deed" [some (.int 3), some (.int 3)] (by decide +kernel) rfl (Nat.le_of_ble_eq_true rfl) rfl ?_
  refine J_iload_n 0 0 dX1_bodyOf_0 rfl rfl ?_
  refine kb_RX1_32 (bs' := []) (rest := []) (st' := [.int (bI (0 ≤ 3 ∧ 3 ≤ 5))]) 1 (c_X5_isKind l G 3 ) [] rfl rfl [] rfl rfl rfl rfl rfl rfl (Nat.le_of_ble_eq_true rfl) rfl dX1_bodyOf_1 ?_
  refine J_ifB_ne (tgt := 10) 4 dX1_bodyOf_4 (by decide) (fun c_1_ => ?_) (fun c_1_ => ?_)
  · skip
    refine J_iload_n 10 1 dX1_bodyOf_10 rfl rfl ?_
    refine J_tableOut (tgt := 54) 11 dX1_bodyOf_11 (by decide +kernel) (by decide) ?_
    refine J_gets (v := .ref (G.2.2 5)) 54 w_750 gz5 rfl dX1_bodyOf_54 ?_
    refine J_iload_n 57 0 dX1_bodyOf_57 rfl rfl ?_
    refine J_stat (v := .int 13) 58 gt5 3 rfl (by omega) (by decide) rfl dX1_bodyOf_58 ?_
    exact J_iret 59 dX1_bodyOf_59 rfl rfl
  · skip
    exact absurd (by decide) c_1_
set_option maxRecDepth 100000 in
set_option maxHeartbeats 4000000 in
theorem c_X1_bodyOf_4_0 (l : Launch) (G : Gd)   : Ct l G yX1_bodyOf cX1_bodyOf 2 (some (FieldType.int)) 2 [.int 4, .int 0] (wF []) (some (.int 40)) (wF []) := by
  refine Ct.of "GooseArms$Deed" [some (.int 4), some (.int 0)] (by decide +kernel) rfl (Nat.le_of_ble_eq_true rfl) rfl ?_
  refine J_iload_n 0 0 dX1_bodyOf_0 rfl rfl ?_
  refine kb_RX1_32 (bs' := []) (rest := []) (st' := [.int (bI (0 ≤ 4 ∧ 4 ≤ 5))]) 1 (c_X5_isKind l G 4 ) [] rfl rfl [] rfl rfl rfl rfl rfl rfl (Nat.le_of_ble_eq_true rfl) rfl dX1_bodyOf_1 ?_
  refine J_ifB_ne (tgt := 10) 4 dX1_bodyOf_4 (by decide) (fun c_1_ => ?_) (fun c_1_ => ?_)
  · skip
    refine J_iload_n 10 1 dX1_bodyOf_10 rfl rfl ?_
    refine J_tableIn (tgt := 36) (off := 25) 11 0 dX1_bodyOf_11 rfl (by decide +kernel) (by decide) ?_
    refine J_gets (v := .ref (G.2.2 2)) 36 w_744 gz2 rfl dX1_bodyOf_36 ?_
    refine J_iload_n 39 0 dX1_bodyOf_39 rfl rfl ?_
    refine J_stat (v := .int 40) 40 gt2 4 rfl (by omega) (by decide) rfl dX1_bodyOf_40 ?_
    exact J_iret 41 dX1_bodyOf_41 rfl rfl
  · skip
    exact absurd (by decide) c_1_
set_option maxRecDepth 100000 in
set_option maxHeartbeats 4000000 in
theorem c_X1_bodyOf_4_1 (l : Launch) (G : Gd)   : Ct l G yX1_bodyOf cX1_bodyOf 2 (some (FieldType.int)) 2 [.int 4, .int 1] (wF []) (some (.int 41)) (wF []) := by
  refine Ct.of "GooseArms$Deed" [some (.int 4), some (.int 1)] (by decide +kernel) rfl (Nat.le_of_ble_eq_true rfl) rfl ?_
  refine J_iload_n 0 0 dX1_bodyOf_0 rfl rfl ?_
  refine kb_RX1_32 (bs' := []) (rest := []) (st' := [.int (bI (0 ≤ 4 ∧ 4 ≤ 5))]) 1 (c_X5_isKind l G 4 ) [] rfl rfl [] rfl rfl rfl rfl rfl rfl (Nat.le_of_ble_eq_true rfl) rfl dX1_bodyOf_1 ?_
  refine J_ifB_ne (tgt := 10) 4 dX1_bodyOf_4 (by decide) (fun c_1_ => ?_) (fun c_1_ => ?_)
  · skip
    refine J_iload_n 10 1 dX1_bodyOf_10 rfl rfl ?_
    refine J_tableIn (tgt := 42) (off := 31) 11 1 dX1_bodyOf_11 rfl (by decide +kernel) (by decide) ?_
    refine J_gets (v := .ref (G.2.2 3)) 42 w_746 gz3 rfl dX1_bodyOf_42 ?_
    refine J_iload_n 45 0 dX1_bodyOf_45 rfl rfl ?_
    refine J_stat (v := .int 41) 46 gt3 4 rfl (by omega) (by decide) rfl dX1_bodyOf_46 ?_
    exact J_iret 47 dX1_bodyOf_47 rfl rfl
  · skip
    exact absurd (by decide) c_1_
set_option maxRecDepth 100000 in
set_option maxHeartbeats 4000000 in
theorem c_X1_bodyOf_4_2 (l : Launch) (G : Gd)   : Ct l G yX1_bodyOf cX1_bodyOf 2 (some (FieldType.int)) 2 [.int 4, .int 2] (wF []) (some (.int 12)) (wF []) := by
  refine Ct.of "GooseArms$Deed" [some (.int 4), some (.int 2)] (by decide +kernel) rfl (Nat.le_of_ble_eq_true rfl) rfl ?_
  refine J_iload_n 0 0 dX1_bodyOf_0 rfl rfl ?_
  refine kb_RX1_32 (bs' := []) (rest := []) (st' := [.int (bI (0 ≤ 4 ∧ 4 ≤ 5))]) 1 (c_X5_isKind l G 4 ) [] rfl rfl [] rfl rfl rfl rfl rfl rfl (Nat.le_of_ble_eq_true rfl) rfl dX1_bodyOf_1 ?_
  refine J_ifB_ne (tgt := 10) 4 dX1_bodyOf_4 (by decide) (fun c_1_ => ?_) (fun c_1_ => ?_)
  · skip
    refine J_iload_n 10 1 dX1_bodyOf_10 rfl rfl ?_
    refine J_tableIn (tgt := 48) (off := 37) 11 2 dX1_bodyOf_11 rfl (by decide +kernel) (by decide) ?_
    refine J_gets (v := .ref (G.2.2 4)) 48 w_748 gz4 rfl dX1_bodyOf_48 ?_
    refine J_iload_n 51 0 dX1_bodyOf_51 rfl rfl ?_
    refine J_stat (v := .int 12) 52 gt4 4 rfl (by omega) (by decide) rfl dX1_bodyOf_52 ?_
    exact J_iret 53 dX1_bodyOf_53 rfl rfl
  · skip
    exact absurd (by decide) c_1_
set_option maxRecDepth 100000 in
set_option maxHeartbeats 4000000 in
theorem c_X1_bodyOf_4_3 (l : Launch) (G : Gd)   : Ct l G yX1_bodyOf cX1_bodyOf 2 (some (FieldType.int)) 2 [.int 4, .int 3] (wF []) (some (.int 31)) (wF []) := by
  refine Ct.of "GooseArms$Deed" [some (.int 4), some (.int 3)] (by decide +kernel) rfl (Nat.le_of_ble_eq_true rfl) rfl ?_
  refine J_iload_n 0 0 dX1_bodyOf_0 rfl rfl ?_
  refine kb_RX1_32 (bs' := []) (rest := []) (st' := [.int (bI (0 ≤ 4 ∧ 4 ≤ 5))]) 1 (c_X5_isKind l G 4 ) [] rfl rfl [] rfl rfl rfl rfl rfl rfl (Nat.le_of_ble_eq_true rfl) rfl dX1_bodyOf_1 ?_
  refine J_ifB_ne (tgt := 10) 4 dX1_bodyOf_4 (by decide) (fun c_1_ => ?_) (fun c_1_ => ?_)
  · skip
    refine J_iload_n 10 1 dX1_bodyOf_10 rfl rfl ?_
    refine J_tableOut (tgt := 54) 11 dX1_bodyOf_11 (by decide +kernel) (by decide) ?_
    refine J_gets (v := .ref (G.2.2 5)) 54 w_750 gz5 rfl dX1_bodyOf_54 ?_
    refine J_iload_n 57 0 dX1_bodyOf_57 rfl rfl ?_
    refine J_stat (v := .int 31) 58 gt5 4 rfl (by omega) (by decide) rfl dX1_bodyOf_58 ?_
    exact J_iret 59 dX1_bodyOf_59 rfl rfl
  · skip
    exact absurd (by decide) c_1_
set_option maxRecDepth 100000 in
set_option maxHeartbeats 4000000 in
theorem c_X1_bodyOf_5_0 (l : Launch) (G : Gd)   : Ct l G yX1_bodyOf cX1_bodyOf 2 (some (FieldType.int)) 2 [.int 5, .int 0] (wF []) (some (.int 10)) (wF []) := by
  refine Ct.of "GooseArms$Deed" [some (.int 5), some (.int 0)] (by decide +kernel) rfl (Nat.le_of_ble_eq_true rfl) rfl ?_
  refine J_iload_n 0 0 dX1_bodyOf_0 rfl rfl ?_
  refine kb_RX1_32 (bs' := []) (rest := []) (st' := [.int (bI (0 ≤ 5 ∧ 5 ≤ 5))]) 1 (c_X5_isKind l G 5 ) [] rfl rfl [] rfl rfl rfl rfl rfl rfl (Nat.le_of_ble_eq_true rfl) rfl dX1_bodyOf_1 ?_
  refine J_ifB_ne (tgt := 10) 4 dX1_bodyOf_4 (by decide) (fun c_1_ => ?_) (fun c_1_ => ?_)
  · skip
    refine J_iload_n 10 1 dX1_bodyOf_10 rfl rfl ?_
    refine J_tableIn (tgt := 36) (off := 25) 11 0 dX1_bodyOf_11 rfl (by decide +kernel) (by decide) ?_
    refine J_gets (v := .ref (G.2.2 2)) 36 w_744 gz2 rfl dX1_bodyOf_36 ?_
    refine J_iload_n 39 0 dX1_bodyOf_39 rfl rfl ?_
    refine J_stat (v := .int 10) 40 gt2 5 rfl (by omega) (by decide) rfl dX1_bodyOf_40 ?_
    exact J_iret 41 dX1_bodyOf_41 rfl rfl
  · skip
    exact absurd (by decide) c_1_
set_option maxRecDepth 100000 in
set_option maxHeartbeats 4000000 in
theorem c_X1_bodyOf_5_1 (l : Launch) (G : Gd)   : Ct l G yX1_bodyOf cX1_bodyOf 2 (some (FieldType.int)) 2 [.int 5, .int 1] (wF []) (some (.int 11)) (wF []) := by
  refine Ct.of "GooseArms$Deed" [some (.int 5), some (.int 1)] (by decide +kernel) rfl (Nat.le_of_ble_eq_true rfl) rfl ?_
  refine J_iload_n 0 0 dX1_bodyOf_0 rfl rfl ?_
  refine kb_RX1_32 (bs' := []) (rest := []) (st' := [.int (bI (0 ≤ 5 ∧ 5 ≤ 5))]) 1 (c_X5_isKind l G 5 ) [] rfl rfl [] rfl rfl rfl rfl rfl rfl (Nat.le_of_ble_eq_true rfl) rfl dX1_bodyOf_1 ?_
  refine J_ifB_ne (tgt := 10) 4 dX1_bodyOf_4 (by decide) (fun c_1_ => ?_) (fun c_1_ => ?_)
  · skip
    refine J_iload_n 10 1 dX1_bodyOf_10 rfl rfl ?_
    refine J_tableIn (tgt := 42) (off := 31) 11 1 dX1_bodyOf_11 rfl (by decide +kernel) (by decide) ?_
    refine J_gets (v := .ref (G.2.2 3)) 42 w_746 gz3 rfl dX1_bodyOf_42 ?_
    refine J_iload_n 45 0 dX1_bodyOf_45 rfl rfl ?_
    refine J_stat (v := .int 11) 46 gt3 5 rfl (by omega) (by decide) rfl dX1_bodyOf_46 ?_
    exact J_iret 47 dX1_bodyOf_47 rfl rfl
  · skip
    exact absurd (by decide) c_1_
set_option maxRecDepth 100000 in
set_option maxHeartbeats 4000000 in
theorem c_X1_bodyOf_5_2 (l : Launch) (G : Gd)   : Ct l G yX1_bodyOf cX1_bodyOf 2 (some (FieldType.int)) 2 [.int 5, .int 2] (wF []) (some (.int 61)) (wF []) := by
  refine Ct.of "GooseArms$Deed" [some (.int 5), some (.int 2)] (by decide +kernel) rfl (Nat.le_of_ble_eq_true rfl) rfl ?_
  refine J_iload_n 0 0 dX1_bodyOf_0 rfl rfl ?_
  refine kb_RX1_32 (bs' := []) (rest := []) (st' := [.int (bI (0 ≤ 5 ∧ 5 ≤ 5))]) 1 (c_X5_isKind l G 5 ) [] rfl rfl [] rfl rfl rfl rfl rfl rfl (Nat.le_of_ble_eq_true rfl) rfl dX1_bodyOf_1 ?_
  refine J_ifB_ne (tgt := 10) 4 dX1_bodyOf_4 (by decide) (fun c_1_ => ?_) (fun c_1_ => ?_)
  · skip
    refine J_iload_n 10 1 dX1_bodyOf_10 rfl rfl ?_
    refine J_tableIn (tgt := 48) (off := 37) 11 2 dX1_bodyOf_11 rfl (by decide +kernel) (by decide) ?_
    refine J_gets (v := .ref (G.2.2 4)) 48 w_748 gz4 rfl dX1_bodyOf_48 ?_
    refine J_iload_n 51 0 dX1_bodyOf_51 rfl rfl ?_
    refine J_stat (v := .int 61) 52 gt4 5 rfl (by omega) (by decide) rfl dX1_bodyOf_52 ?_
    exact J_iret 53 dX1_bodyOf_53 rfl rfl
  · skip
    exact absurd (by decide) c_1_
set_option maxRecDepth 100000 in
set_option maxHeartbeats 4000000 in
theorem c_X1_bodyOf_5_3 (l : Launch) (G : Gd)   : Ct l G yX1_bodyOf cX1_bodyOf 2 (some (FieldType.int)) 2 [.int 5, .int 3] (wF []) (some (.int 60)) (wF []) := by
  refine Ct.of "GooseArms$Deed" [some (.int 5), some (.int 3)] (by decide +kernel) rfl (Nat.le_of_ble_eq_true rfl) rfl ?_
  refine J_iload_n 0 0 dX1_bodyOf_0 rfl rfl ?_
  refine kb_RX1_32 (bs' := []) (rest := []) (st' := [.int (bI (0 ≤ 5 ∧ 5 ≤ 5))]) 1 (c_X5_isKind l G 5 ) [] rfl rfl [] rfl rfl rfl rfl rfl rfl (Nat.le_of_ble_eq_true rfl) rfl dX1_bodyOf_1 ?_
  refine J_ifB_ne (tgt := 10) 4 dX1_bodyOf_4 (by decide) (fun c_1_ => ?_) (fun c_1_ => ?_)
  · skip
    refine J_iload_n 10 1 dX1_bodyOf_10 rfl rfl ?_
    refine J_tableOut (tgt := 54) 11 dX1_bodyOf_11 (by decide +kernel) (by decide) ?_
    refine J_gets (v := .ref (G.2.2 5)) 54 w_750 gz5 rfl dX1_bodyOf_54 ?_
    refine J_iload_n 57 0 dX1_bodyOf_57 rfl rfl ?_
    refine J_stat (v := .int 60) 58 gt5 5 rfl (by omega) (by decide) rfl dX1_bodyOf_58 ?_
    exact J_iret 59 dX1_bodyOf_59 rfl rfl
  · skip
    exact absurd (by decide) c_1_
set_option maxRecDepth 100000 in
set_option maxHeartbeats 4000000 in
theorem c_X5_act_bad (l : Launch) (G : Gd) (s : Int32) (a : Int32) (x : Int32) (o : Nat) (An : Nat → Nat) (Ak : Nat → Nat) (At : Nat → Nat) (Ad : Nat → Nat) (kk : Int32) (tp : Nat) (rw : Nat) (rc : Nat) (sh : Nat) (sf : Nat) (de : Nat) (bo : Nat) (ct : Nat) (pz : Int32) (dk : Int32) (nu : Int32) (dt : Int32) (hw : ¬ ((0 ≤ s ∧ s ≤ 3) ∧ (0 ≤ a ∧ a ≤ 3))) : Ct l G yX5_act cX5_act 6 (some (FieldType.int)) 8 [.ref o, .int s, .int a, .int x] (wF [wMe o (An 0) (Ak 0) (At 0) (Ad 0) kk tp rw rc sh sf de, wDe de bo ct pz dk nu dt]) (some (.int 0)) (wF [wMe o (An 0) (Ak 0) (At 0) (Ad 0) kk tp rw rc sh sf de, wDe de bo 0 pz dk nu dt]) := by
  refine Ct.of "GooseArms" [some (.ref o), some (.int s), some (.int a), some (.int x), none, none] (by decide +kernel) rfl (Nat.le_of_ble_eq_true rfl) rfl ?_
  refine J_aload_n 0 0 dX5_act_0 rfl rfl ?_
  refine g_206 (v := .ref de) 1 0 rfl rfl dX5_act_1 ?_
  refine J_iconst (v := 0) 4 dX5_act_4 rfl ?_
  refine p_177 (ws' := (wF [wMe o (An 0) (Ak 0) (At 0) (Ad 0) kk tp rw rc sh sf de, wDe de bo 0 pz dk nu dt])) 5 1 rfl rfl rfl (Nat.le_of_ble_eq_true rfl) rfl dX5_act_5 ?_
  refine J_iload_n 8 1 dX5_act_8 rfl rfl ?_
  refine kb_RX5_219 (bs' := [wMe o (An 0) (Ak 0) (At 0) (Ad 0) kk tp rw rc sh sf de, wDe de bo 0 pz dk nu dt]) (rest := []) (st' := [.int (bI (0 ≤ s ∧ s ≤ 3))]) 9 (c_X5_isPlace l G s ) [] rfl rfl [] rfl rfl rfl rfl rfl rfl (Nat.le_of_ble_eq_true rfl) rfl dX5_act_9 ?_
  refine J_ifB_eq (tgt := 37) 12 dX5_act_12 (by decide) (fun c_1_ => ?_) (fun c_1_ => ?_)
  · skip
    refine J_iconst (v := 0) 37 dX5_act_37 rfl ?_
    exact J_iret 38 dX5_act_38 rfl rfl
  · skip
    refine J_iload_n 15 2 dX5_act_15 rfl rfl ?_
    refine J_iconst (v := 0) 16 dX5_act_16 rfl ?_
    refine J_iconst (v := 3) 17 dX5_act_17 rfl ?_
    refine kb_RX5_65 (bs' := [wMe o (An 0) (Ak 0) (At 0) (Ad 0) kk tp rw rc sh sf de, wDe de bo 0 pz dk nu dt]) (rest := []) (st' := [.int (bI (0 ≤ a ∧ a ≤ 3))]) 18 (c_X5_within l G a 0 3 ) [] rfl rfl [] rfl rfl rfl rfl rfl rfl (Nat.le_of_ble_eq_true rfl) rfl dX5_act_18 ?_
    refine J_ifB_eq (tgt := 37) 21 dX5_act_21 (by decide) (fun c_2_ => ?_) (fun c_2_ => ?_)
    · skip
      refine J_iconst (v := 0) 37 dX5_act_37 rfl ?_
      exact J_iret 38 dX5_act_38 rfl rfl
    · skip
      exact absurd ⟨by assumption, by assumption⟩ hw
set_option maxRecDepth 100000 in
set_option maxHeartbeats 4000000 in
theorem c_X5_act_n (l : Launch) (G : Gd) (s : Nat) (a : Int32) (x : Int32) (Fa : Nat) (o : Nat) (An : Nat → Nat) (Ak : Nat → Nat) (At : Nat → Nat) (Ad : Nat → Nat) (kk : Int32) (tp : Nat) (rw : Nat) (rc : Nat) (sh : Nat) (sf : Nat) (de : Nat) (la : Nat → Int32) (ns : Nat) (sd : Nat) (to : Nat → Int32) (he : Nat → Int32) (sw : Nat → Int32) (nh : Nat) (ki : Nat → Int32) (te : Nat → Int32) (mi : Nat → Int32) (ar : Nat → Int32) (z : Int32) (bo : Nat) (ct : Nat) (pz : Int32) (dk : Int32) (nu : Int32) (dt : Int32) (sff : Nat → Option Nat) (fho : Int32) (fhr : Int32) (fso : Int32) (fsz : Int32) (hs : s ≤ 3) (hy : sff s = some Fa) (hv : 0 ≤ a ∧ a ≤ 3) (h1 : ¬ fho = 1) : Ct l G yX5_act cX5_act 6 (some (FieldType.int)) 8 [.ref o, .int (nI s), .int a, .int x] (wF [wMe o (An 0) (Ak 0) (At 0) (Ad 0) kk tp rw rc sh sf de, wCt G An la ns sd to he sw nh ki te mi ar z, wDe de bo ct pz dk nu dt, wQ G sf 4 4 sff, wSf Fa fho fhr fso fsz]) (some (.int 0)) (wF [wMe o (An 0) (Ak 0) (At 0) (Ad 0) kk tp rw rc sh sf de, wCt G An la ns sd to he sw nh ki te mi ar z, wDe de bo 0 pz dk nu dt, wQ G sf 4 4 sff, wSf Fa fho fhr fso fsz]) := by
  refine Ct.of "GooseArms" [some (.ref o), some (.int (nI s)), some (.int a), some (.int x), none, none] (by decide +kernel) rfl (Nat.le_of_ble_eq_true rfl) rfl ?_
  refine J_aload_n 0 0 dX5_act_0 rfl rfl ?_
  refine g_206 (v := .ref de) 1 0 rfl rfl dX5_act_1 ?_
  refine J_iconst (v := 0) 4 dX5_act_4 rfl ?_
  refine p_177 (ws' := (wF [wMe o (An 0) (Ak 0) (At 0) (Ad 0) kk tp rw rc sh sf de, wCt G An la ns sd to he sw nh ki te mi ar z, wDe de bo 0 pz dk nu dt, wQ G sf 4 4 sff, wSf Fa fho fhr fso fsz])) 5 10 rfl rfl rfl (Nat.le_of_ble_eq_true rfl) rfl dX5_act_5 ?_
  refine J_iload_n 8 1 dX5_act_8 rfl rfl ?_
  refine kb_RX5_219 (bs' := [wMe o (An 0) (Ak 0) (At 0) (Ad 0) kk tp rw rc sh sf de, wCt G An la ns sd to he sw nh ki te mi ar z, wDe de bo 0 pz dk nu dt, wQ G sf 4 4 sff, wSf Fa fho fhr fso fsz]) (rest := []) (st' := [.int 1]) 9 (c_X5_isPlace_t l G s (by first | omega | assumption)) [] rfl rfl [] rfl rfl rfl rfl rfl rfl (Nat.le_of_ble_eq_true rfl) rfl dX5_act_9 ?_
  refine J_if_eq (tgt := 37) 12 dX5_act_12 (by decide) (fun c_1_ => absurd c_1_ (by decide)) (fun _ => ?_)
  refine J_iload_n 15 2 dX5_act_15 rfl rfl ?_
  refine J_iconst (v := 0) 16 dX5_act_16 rfl ?_
  refine J_iconst (v := 3) 17 dX5_act_17 rfl ?_
  refine kb_RX5_65 (bs' := [wMe o (An 0) (Ak 0) (At 0) (Ad 0) kk tp rw rc sh sf de, wCt G An la ns sd to he sw nh ki te mi ar z, wDe de bo 0 pz dk nu dt, wQ G sf 4 4 sff, wSf Fa fho fhr fso fsz]) (rest := []) (st' := [.int 1]) 18 (c_X5_within_t l G a 0 3 hv) [] rfl rfl [] rfl rfl rfl rfl rfl rfl (Nat.le_of_ble_eq_true rfl) rfl dX5_act_18 ?_
  refine J_if_eq (tgt := 37) 21 dX5_act_21 (by decide) (fun c_2_ => absurd c_2_ (by decide)) (fun _ => ?_)
  refine J_aload_n 24 0 dX5_act_24 rfl rfl ?_
  refine J_aload_n 25 0 dX5_act_25 rfl rfl ?_
  refine g_205 (v := .ref sf) 26 0 rfl rfl dX5_act_26 ?_
  refine J_iload_n 29 1 dX5_act_29 rfl rfl ?_
  refine J_aldq (b := Fa) 30 11 4 s rfl rfl rfl (by omega) (by decide) hy dX5_act_30 ?_
  refine kb_RX5_292 (bs' := [wMe o (An 0) (Ak 0) (At 0) (Ad 0) kk tp rw rc sh sf de, wCt G An la ns sd to he sw nh ki te mi ar z, wDe de bo 0 pz dk nu dt, wQ G sf 4 4 sff, wSf Fa fho fhr fso fsz]) (rest := []) (st' := [.int 0]) 31 (c_X5_holdsHearer_n l G o An Ak At Ad kk tp rw rc sh sf de la ns sd to he sw nh ki te mi ar z Fa fho fhr fso fsz h1) [0, 1, 4] 0 rfl rfl rfl [[o], [An 0, An 1, An 2, An 3, An 4, An 5, An 6, An 7, An 8], [Fa]] rfl rfl rfl rfl rfl rfl (Nat.le_of_ble_eq_true rfl) rfl dX5_act_31 ?_
  refine J_if_ne (tgt := 39) 34 dX5_act_34 (by decide) (fun c_3_ => absurd c_3_ (by decide)) (fun _ => ?_)
  refine J_iconst (v := 0) 37 dX5_act_37 rfl ?_
  exact J_iret 38 dX5_act_38 rfl rfl
set_option maxRecDepth 100000 in
set_option maxHeartbeats 4000000 in
theorem c_X5_act_f (l : Launch) (G : Gd) (s : Nat) (a : Int32) (x : Int32) (Fa : Nat) (o : Nat) (An : Nat → Nat) (Ak : Nat → Nat) (At : Nat → Nat) (Ad : Nat → Nat) (kk : Int32) (tp : Nat) (rw : Nat) (rc : Nat) (sh : Nat) (sf : Nat) (de : Nat) (la : Nat → Int32) (ns : Nat) (sd : Nat) (to : Nat → Int32) (he : Nat → Int32) (sw : Nat → Int32) (nh : Nat) (ki : Nat → Int32) (te : Nat → Int32) (mi : Nat → Int32) (ar : Nat → Int32) (z : Int32) (bo : Nat) (ct : Nat) (pz : Int32) (dk : Int32) (nu : Int32) (dt : Int32) (sff : Nat → Option Nat) (fhr : Int32) (fso : Int32) (fsz : Int32) (hs : s ≤ 3) (hy : sff s = some Fa) (hv : 0 ≤ a ∧ a ≤ 3) (h1 : ¬ (0 ≤ fhr ∧ fhr ≤ nI nh - 1)) : Ct l G yX5_act cX5_act 6 (some (FieldType.int)) 8 [.ref o, .int (nI s), .int a, .int x] (wF [wMe o (An 0) (Ak 0) (At 0) (Ad 0) kk tp rw rc sh sf de, wCt G An la ns sd to he sw nh ki te mi ar z, wDe de bo ct pz dk nu dt, wQ G sf 4 4 sff, wSf Fa 1 fhr fso fsz]) (some (.int 0)) (wF [wMe o (An 0) (Ak 0) (At 0) (Ad 0) kk tp rw rc sh sf de, wCt G An la ns sd to he sw nh ki te mi ar z, wDe de bo 0 pz dk nu dt, wQ G sf 4 4 sff, wSf Fa 1 fhr fso fsz]) := by
  refine Ct.of "GooseArms" [some (.ref o), some (.int (nI s)), some (.int a), some (.int x), none, none] (by decide +kernel) rfl (Nat.le_of_ble_eq_true rfl) rfl ?_
  refine J_aload_n 0 0 dX5_act_0 rfl rfl ?_
  refine g_206 (v := .ref de) 1 0 rfl rfl dX5_act_1 ?_
  refine J_iconst (v := 0) 4 dX5_act_4 rfl ?_
  refine p_177 (ws' := (wF [wMe o (An 0) (Ak 0) (At 0) (Ad 0) kk tp rw rc sh sf de, wCt G An la ns sd to he sw nh ki te mi ar z, wDe de bo 0 pz dk nu dt, wQ G sf 4 4 sff, wSf Fa 1 fhr fso fsz])) 5 10 rfl rfl rfl (Nat.le_of_ble_eq_true rfl) rfl dX5_act_5 ?_
  refine J_iload_n 8 1 dX5_act_8 rfl rfl ?_
  refine kb_RX5_219 (bs' := [wMe o (An 0) (Ak 0) (At 0) (Ad 0) kk tp rw rc sh sf de, wCt G An la ns sd to he sw nh ki te mi ar z, wDe de bo 0 pz dk nu dt, wQ G sf 4 4 sff, wSf Fa 1 fhr fso fsz]) (rest := []) (st' := [.int 1]) 9 (c_X5_isPlace_t l G s (by first | omega | assumption)) [] rfl rfl [] rfl rfl rfl rfl rfl rfl (Nat.le_of_ble_eq_true rfl) rfl dX5_act_9 ?_
  refine J_if_eq (tgt := 37) 12 dX5_act_12 (by decide) (fun c_1_ => absurd c_1_ (by decide)) (fun _ => ?_)
  refine J_iload_n 15 2 dX5_act_15 rfl rfl ?_
  refine J_iconst (v := 0) 16 dX5_act_16 rfl ?_
  refine J_iconst (v := 3) 17 dX5_act_17 rfl ?_
  refine kb_RX5_65 (bs' := [wMe o (An 0) (Ak 0) (At 0) (Ad 0) kk tp rw rc sh sf de, wCt G An la ns sd to he sw nh ki te mi ar z, wDe de bo 0 pz dk nu dt, wQ G sf 4 4 sff, wSf Fa 1 fhr fso fsz]) (rest := []) (st' := [.int 1]) 18 (c_X5_within_t l G a 0 3 hv) [] rfl rfl [] rfl rfl rfl rfl rfl rfl (Nat.le_of_ble_eq_true rfl) rfl dX5_act_18 ?_
  refine J_if_eq (tgt := 37) 21 dX5_act_21 (by decide) (fun c_2_ => absurd c_2_ (by decide)) (fun _ => ?_)
  refine J_aload_n 24 0 dX5_act_24 rfl rfl ?_
  refine J_aload_n 25 0 dX5_act_25 rfl rfl ?_
  refine g_205 (v := .ref sf) 26 0 rfl rfl dX5_act_26 ?_
  refine J_iload_n 29 1 dX5_act_29 rfl rfl ?_
  refine J_aldq (b := Fa) 30 11 4 s rfl rfl rfl (by omega) (by decide) hy dX5_act_30 ?_
  refine kb_RX5_292 (bs' := [wMe o (An 0) (Ak 0) (At 0) (Ad 0) kk tp rw rc sh sf de, wCt G An la ns sd to he sw nh ki te mi ar z, wDe de bo 0 pz dk nu dt, wQ G sf 4 4 sff, wSf Fa 1 fhr fso fsz]) (rest := []) (st' := [.int 0]) 31 (c_X5_holdsHearer_f l G o An Ak At Ad kk tp rw rc sh sf de la ns sd to he sw nh ki te mi ar z Fa fhr fso fsz h1) [0, 1, 4] 0 rfl rfl rfl [[o], [An 0, An 1, An 2, An 3, An 4, An 5, An 6, An 7, An 8], [Fa]] rfl rfl rfl rfl rfl rfl (Nat.le_of_ble_eq_true rfl) rfl dX5_act_31 ?_
  refine J_if_ne (tgt := 39) 34 dX5_act_34 (by decide) (fun c_3_ => absurd c_3_ (by decide)) (fun _ => ?_)
  refine J_iconst (v := 0) 37 dX5_act_37 rfl ?_
  exact J_iret 38 dX5_act_38 rfl rfl
set_option maxRecDepth 100000 in
set_option maxHeartbeats 4000000 in
theorem c_X5_act_0_0 (l : Launch) (G : Gd) (s : Nat) (x : Int32) (Fa : Nat) (j : Nat) (o : Nat) (An : Nat → Nat) (Ak : Nat → Nat) (At : Nat → Nat) (Ad : Nat → Nat) (kk : Int32) (tp : Nat) (rw : Nat) (rc : Nat) (sh : Nat) (sf : Nat) (de : Nat) (la : Nat → Int32) (ns : Nat) (sd : Nat) (to : Nat → Int32) (he : Nat → Int32) (sw : Nat → Int32) (nh : Nat) (ki : Nat → Int32) (te : Nat → Int32) (mi : Nat → Int32) (ar : Nat → Int32) (z : Int32) (bo : Nat) (ct : Nat) (pz : Int32) (dk : Int32) (nu : Int32) (dt : Int32) (dbo : Nat → Int32) (sff : Nat → Option Nat) (fso : Int32) (fsz : Int32) (hs : s ≤ 3) (hy : sff s = some Fa) (hj : j < nh) (hnh : nh ≤ 8) (hk : ki j = 0) : Ct l G yX5_act cX5_act 6 (some (FieldType.int)) 8 [.ref o, .int (nI s), .int 0, .int x] (wF [wMe o (An 0) (Ak 0) (At 0) (Ad 0) kk tp rw rc sh sf de, wCt G An la ns sd to he sw nh ki te mi ar z, wDe de bo ct pz dk nu dt, wI G bo 30 dbo, wQ G sf 4 4 sff, wSf Fa 1 (nI j) fso fsz]) (some (.int (x * 5 + (nI j)))) (wF [wMe o (An 0) (Ak 0) (At 0) (Ad 0) kk tp rw rc sh sf de, wCt G An la ns sd to he sw nh ki te mi ar z, wDe de bo 1 0 0 (nI j) (te j), wI G bo 30 (pF [10] dbo 0), wQ G sf 4 4 sff, wSf Fa 1 (nI j) fso fsz]) := by
  refine Ct.of "GooseArms" [some (.ref o), some (.int (nI s)), some (.int 0), some (.int x), none, none] (by decide +kernel) rfl (Nat.le_of_ble_eq_true rfl) rfl ?_
  refine J_aload_n 0 0 dX5_act_0 rfl rfl ?_
  refine g_206 (v := .ref de) 1 0 rfl rfl dX5_act_1 ?_
  refine J_iconst (v := 0) 4 dX5_act_4 rfl ?_
  refine p_177 (ws' := (wF [wMe o (An 0) (Ak 0) (At 0) (Ad 0) kk tp rw rc sh sf de, wCt G An la ns sd to he sw nh ki te mi ar z, wDe de bo 0 pz dk nu dt, wI G bo 30 dbo, wQ G sf 4 4 sff, wSf Fa 1 (nI j) fso fsz])) 5 10 rfl rfl rfl (Nat.le_of_ble_eq_true rfl) rfl dX5_act_5 ?_
  refine J_iload_n 8 1 dX5_act_8 rfl rfl ?_
  refine kb_RX5_219 (bs' := [wMe o (An 0) (Ak 0) (At 0) (Ad 0) kk tp rw rc sh sf de, wCt G An la ns sd to he sw nh ki te mi ar z, wDe de bo 0 pz dk nu dt, wI G bo 30 dbo, wQ G sf 4 4 sff, wSf Fa 1 (nI j) fso fsz]) (rest := []) (st' := [.int 1]) 9 (c_X5_isPlace_t l G s (by first | omega | assumption)) [] rfl rfl [] rfl rfl rfl rfl rfl rfl (Nat.le_of_ble_eq_true rfl) rfl dX5_act_9 ?_
  refine J_if_eq (tgt := 37) 12 dX5_act_12 (by decide) (fun c_1_ => absurd c_1_ (by decide)) (fun _ => ?_)
  refine J_iload_n 15 2 dX5_act_15 rfl rfl ?_
  refine J_iconst (v := 0) 16 dX5_act_16 rfl ?_
  refine J_iconst (v := 3) 17 dX5_act_17 rfl ?_
  refine kb_RX5_65 (bs' := [wMe o (An 0) (Ak 0) (At 0) (Ad 0) kk tp rw rc sh sf de, wCt G An la ns sd to he sw nh ki te mi ar z, wDe de bo 0 pz dk nu dt, wI G bo 30 dbo, wQ G sf 4 4 sff, wSf Fa 1 (nI j) fso fsz]) (rest := []) (st' := [.int 1]) 18 (c_X5_within_t l G 0 0 3 (by decide)) [] rfl rfl [] rfl rfl rfl rfl rfl rfl (Nat.le_of_ble_eq_true rfl) rfl dX5_act_18 ?_
  refine J_if_eq (tgt := 37) 21 dX5_act_21 (by decide) (fun c_2_ => absurd c_2_ (by decide)) (fun _ => ?_)
  refine J_aload_n 24 0 dX5_act_24 rfl rfl ?_
  refine J_aload_n 25 0 dX5_act_25 rfl rfl ?_
  refine g_205 (v := .ref sf) 26 0 rfl rfl dX5_act_26 ?_
  refine J_iload_n 29 1 dX5_act_29 rfl rfl ?_
  refine J_aldq (b := Fa) 30 12 4 s rfl rfl rfl (by omega) (by decide) hy dX5_act_30 ?_
  refine kb_RX5_292 (bs' := [wMe o (An 0) (Ak 0) (At 0) (Ad 0) kk tp rw rc sh sf de, wCt G An la ns sd to he sw nh ki te mi ar z, wDe de bo 0 pz dk nu dt, wI G bo 30 dbo, wQ G sf 4 4 sff, wSf Fa 1 (nI j) fso fsz]) (rest := []) (st' := [.int 1]) 31 (c_X5_holdsHearer_t l G j o An Ak At Ad kk tp rw rc sh sf de la ns sd to he sw nh ki te mi ar z Fa fso fsz (by first | omega | assumption) (by first | omega | assumption)) [0, 1, 5] 0 rfl rfl rfl [[o], [An 0, An 1, An 2, An 3, An 4, An 5, An 6, An 7, An 8], [Fa]] rfl rfl rfl rfl rfl rfl (Nat.le_of_ble_eq_true rfl) rfl dX5_act_31 ?_
  refine J_if_ne (tgt := 39) 34 dX5_act_34 (by decide) (fun _ => ?_) (fun c_3_ => absurd c_3_ (by decide))
  refine J_aload_n 39 0 dX5_act_39 rfl rfl ?_
  refine g_205 (v := .ref sf) 40 0 rfl rfl dX5_act_40 ?_
  refine J_iload_n 43 1 dX5_act_43 rfl rfl ?_
  refine J_aldq (b := Fa) 44 12 4 s rfl rfl rfl (by omega) (by decide) hy dX5_act_44 ?_
  refine g_154 (v := .int (nI j)) 45 13 rfl rfl dX5_act_45 ?_
  refine J_istore (lv' := [some (.ref o), some (.int (nI s)), some (.int 0), some (.int x), some (.int (nI j)), none]) 48 dX5_act_48 (by decide) rfl ?_
  refine J_aload_n 50 0 dX5_act_50 rfl rfl ?_
  refine g_206 (v := .ref de) 51 0 rfl rfl dX5_act_51 ?_
  refine J_aload_n 54 0 dX5_act_54 rfl rfl ?_
  refine g_196 (v := .ref (An 0)) 55 0 rfl rfl dX5_act_55 ?_
  refine g_56 (v := .ref (An 5)) 58 1 rfl rfl dX5_act_58 ?_
  refine J_iload 61 dX5_act_61 rfl ?_
  refine J_iald 63 6 j rfl rfl (by omega) (by decide) dX5_act_63 ?_
  refine J_topi (y := 0) 64 hk ?_
  refine J_iload 64 dX5_act_64 rfl ?_
  refine J_aload_n 66 0 dX5_act_66 rfl rfl ?_
  refine g_196 (v := .ref (An 0)) 67 0 rfl rfl dX5_act_67 ?_
  refine g_58 (v := .ref (An 6)) 70 1 rfl rfl dX5_act_70 ?_
  refine J_iload 73 dX5_act_73 rfl ?_
  refine J_iald 75 7 j rfl rfl (by omega) (by decide) dX5_act_75 ?_
  refine kb_RX5_305 (bs' := [wMe o (An 0) (Ak 0) (At 0) (Ad 0) kk tp rw rc sh sf de, wCt G An la ns sd to he sw nh ki te mi ar z, wDe de bo 0 0 0 (nI j) (te j), wI G bo 30 dbo, wQ G sf 4 4 sff, wSf Fa 1 (nI j) fso fsz]) (rest := []) (st' := []) 76 (c_X1_begin l G 0 (nI j) (te j) de bo 0 pz dk nu dt ) [2] 10 rfl rfl rfl [[de]] rfl rfl rfl rfl rfl rfl (Nat.le_of_ble_eq_true rfl) rfl dX5_act_76 ?_
  refine J_aload_n 79 0 dX5_act_79 rfl rfl ?_
  refine g_206 (v := .ref de) 80 0 rfl rfl dX5_act_80 ?_
  refine J_aload_n 83 0 dX5_act_83 rfl rfl ?_
  refine g_196 (v := .ref (An 0)) 84 0 rfl rfl dX5_act_84 ?_
  refine g_56 (v := .ref (An 5)) 87 1 rfl rfl dX5_act_87 ?_
  refine J_iload 90 dX5_act_90 rfl ?_
  refine J_iald 92 6 j rfl rfl (by omega) (by decide) dX5_act_92 ?_
  refine J_topi (y := 0) 93 hk ?_
  refine J_iload_n 93 2 dX5_act_93 rfl rfl ?_
  refine kb_RX5_308 (bs' := [wMe o (An 0) (Ak 0) (At 0) (Ad 0) kk tp rw rc sh sf de, wCt G An la ns sd to he sw nh ki te mi ar z, wDe de bo 0 0 0 (nI j) (te j), wI G bo 30 dbo, wQ G sf 4 4 sff, wSf Fa 1 (nI j) fso fsz]) (rest := [.ref de]) (st' := [.int 10, .ref de]) 94 (c_X1_bodyOf_0_0 l G  ) [] rfl rfl [] rfl rfl rfl rfl rfl rfl (Nat.le_of_ble_eq_true rfl) rfl dX5_act_94 ?_
  refine J_iload_n 97 3 dX5_act_97 rfl rfl ?_
  refine J_iconst (v := 0) 98 dX5_act_98 rfl ?_
  refine kb_RX5_311 (bs' := [wMe o (An 0) (Ak 0) (At 0) (Ad 0) kk tp rw rc sh sf de, wCt G An la ns sd to he sw nh ki te mi ar z, wDe de bo (0 + 1) 0 0 (nI j) (te j), wI G bo 30 (pF [10] dbo 0), wQ G sf 4 4 sff, wSf Fa 1 (nI j) fso fsz]) (rest := []) (st' := [.int (x * 5 + (nI j))]) 99 (c_runs_0_10 l G x 0 de bo 0 (nI j) (te j) dbo (by decide) (by decide)) [2, 3] rfl rfl [[de], [bo]] rfl rfl rfl rfl rfl rfl (Nat.le_of_ble_eq_true rfl) rfl dX5_act_99 ?_
  refine J_istore (lv' := [some (.ref o), some (.int (nI s)), some (.int 0), some (.int x), some (.int (nI j)), some (.int (x * 5 + (nI j)))]) 102 dX5_act_102 (by decide) rfl ?_
  refine J_aload_n 104 0 dX5_act_104 rfl rfl ?_
  refine g_206 (v := .ref de) 105 0 rfl rfl dX5_act_105 ?_
  refine g_179 (v := .int 0) 108 10 rfl rfl dX5_act_108 ?_
  refine J_if_eq (tgt := 119) 111 dX5_act_111 (by decide) (fun _ => ?_) (fun c_4_ => absurd c_4_ (by decide))
  refine J_iload 119 dX5_act_119 rfl ?_
  exact J_iret 121 dX5_act_121 rfl (cg1 (fun (x0_ : Nat) => (wF [wMe o (An 0) (Ak 0) (At 0) (Ad 0) kk tp rw rc sh sf de, wCt G An la ns sd to he sw nh ki te mi ar z, wDe de bo x0_ 0 0 (nI j) (te j), wI G bo 30 (pF [10] dbo 0), wQ G sf 4 4 sff, wSf Fa 1 (nI j) fso fsz])) (0 + 1) 1 rfl)
set_option maxRecDepth 100000 in
set_option maxHeartbeats 4000000 in
theorem c_X5_act_0_1 (l : Launch) (G : Gd) (s : Nat) (x : Int32) (Fa : Nat) (j : Nat) (o : Nat) (An : Nat → Nat) (Ak : Nat → Nat) (At : Nat → Nat) (Ad : Nat → Nat) (kk : Int32) (tp : Nat) (rw : Nat) (rc : Nat) (sh : Nat) (sf : Nat) (de : Nat) (la : Nat → Int32) (ns : Nat) (sd : Nat) (to : Nat → Int32) (he : Nat → Int32) (sw : Nat → Int32) (nh : Nat) (ki : Nat → Int32) (te : Nat → Int32) (mi : Nat → Int32) (ar : Nat → Int32) (z : Int32) (bo : Nat) (ct : Nat) (pz : Int32) (dk : Int32) (nu : Int32) (dt : Int32) (dbo : Nat → Int32) (sff : Nat → Option Nat) (fso : Int32) (fsz : Int32) (hs : s ≤ 3) (hy : sff s = some Fa) (hj : j < nh) (hnh : nh ≤ 8) (hk : ki j = 0) : Ct l G yX5_act cX5_act 6 (some (FieldType.int)) 8 [.ref o, .int (nI s), .int 1, .int x] (wF [wMe o (An 0) (Ak 0) (At 0) (Ad 0) kk tp rw rc sh sf de, wCt G An la ns sd to he sw nh ki te mi ar z, wDe de bo ct pz dk nu dt, wI G bo 30 dbo, wQ G sf 4 4 sff, wSf Fa 1 (nI j) fso fsz]) (some (.int ((x * 5 + (nI j)) - (te j)))) (wF [wMe o (An 0) (Ak 0) (At 0) (Ad 0) kk tp rw rc sh sf de, wCt G An la ns sd to he sw nh ki te mi ar z, wDe de bo 2 0 0 (nI j) (te j), wI G bo 30 (pF [11, 10] dbo 0), wQ G sf 4 4 sff, wSf Fa 1 (nI j) fso fsz]) := by
  refine Ct.of "GooseArms" [some (.ref o), some (.int (nI s)), some (.int 1), some (.int x), none, none] (by decide +kernel) rfl (Nat.le_of_ble_eq_true rfl) rfl ?_
  refine J_aload_n 0 0 dX5_act_0 rfl rfl ?_
  refine g_206 (v := .ref de) 1 0 rfl rfl dX5_act_1 ?_
  refine J_iconst (v := 0) 4 dX5_act_4 rfl ?_
  refine p_177 (ws' := (wF [wMe o (An 0) (Ak 0) (At 0) (Ad 0) kk tp rw rc sh sf de, wCt G An la ns sd to he sw nh ki te mi ar z, wDe de bo 0 pz dk nu dt, wI G bo 30 dbo, wQ G sf 4 4 sff, wSf Fa 1 (nI j) fso fsz])) 5 10 rfl rfl rfl (Nat.le_of_ble_eq_true rfl) rfl dX5_act_5 ?_
  refine J_iload_n 8 1 dX5_act_8 rfl rfl ?_
  refine kb_RX5_219 (bs' := [wMe o (An 0) (Ak 0) (At 0) (Ad 0) kk tp rw rc sh sf de, wCt G An la ns sd to he sw nh ki te mi ar z, wDe de bo 0 pz dk nu dt, wI G bo 30 dbo, wQ G sf 4 4 sff, wSf Fa 1 (nI j) fso fsz]) (rest := []) (st' := [.int 1]) 9 (c_X5_isPlace_t l G s (by first | omega | assumption)) [] rfl rfl [] rfl rfl rfl rfl rfl rfl (Nat.le_of_ble_eq_true rfl) rfl dX5_act_9 ?_
  refine J_if_eq (tgt := 37) 12 dX5_act_12 (by decide) (fun c_1_ => absurd c_1_ (by decide)) (fun _ => ?_)
  refine J_iload_n 15 2 dX5_act_15 rfl rfl ?_
  refine J_iconst (v := 0) 16 dX5_act_16 rfl ?_
  refine J_iconst (v := 3) 17 dX5_act_17 rfl ?_
  refine kb_RX5_65 (bs' := [wMe o (An 0) (Ak 0) (At 0) (Ad 0) kk tp rw rc sh sf de, wCt G An la ns sd to he sw nh ki te mi ar z, wDe de bo 0 pz dk nu dt, wI G bo 30 dbo, wQ G sf 4 4 sff, wSf Fa 1 (nI j) fso fsz]) (rest := []) (st' := [.int 1]) 18 (c_X5_within_t l G 1 0 3 (by decide)) [] rfl rfl [] rfl rfl rfl rfl rfl rfl (Nat.le_of_ble_eq_true rfl) rfl dX5_act_18 ?_
  refine J_if_eq (tgt := 37) 21 dX5_act_21 (by decide) (fun c_2_ => absurd c_2_ (by decide)) (fun _ => ?_)
  refine J_aload_n 24 0 dX5_act_24 rfl rfl ?_
  refine J_aload_n 25 0 dX5_act_25 rfl rfl ?_
  refine g_205 (v := .ref sf) 26 0 rfl rfl dX5_act_26 ?_
  refine J_iload_n 29 1 dX5_act_29 rfl rfl ?_
  refine J_aldq (b := Fa) 30 12 4 s rfl rfl rfl (by omega) (by decide) hy dX5_act_30 ?_
  refine kb_RX5_292 (bs' := [wMe o (An 0) (Ak 0) (At 0) (Ad 0) kk tp rw rc sh sf de, wCt G An la ns sd to he sw nh ki te mi ar z, wDe de bo 0 pz dk nu dt, wI G bo 30 dbo, wQ G sf 4 4 sff, wSf Fa 1 (nI j) fso fsz]) (rest := []) (st' := [.int 1]) 31 (c_X5_holdsHearer_t l G j o An Ak At Ad kk tp rw rc sh sf de la ns sd to he sw nh ki te mi ar z Fa fso fsz (by first | omega | assumption) (by first | omega | assumption)) [0, 1, 5] 0 rfl rfl rfl [[o], [An 0, An 1, An 2, An 3, An 4, An 5, An 6, An 7, An 8], [Fa]] rfl rfl rfl rfl rfl rfl (Nat.le_of_ble_eq_true rfl) rfl dX5_act_31 ?_
  refine J_if_ne (tgt := 39) 34 dX5_act_34 (by decide) (fun _ => ?_) (fun c_3_ => absurd c_3_ (by decide))
  refine J_aload_n 39 0 dX5_act_39 rfl rfl ?_
  refine g_205 (v := .ref sf) 40 0 rfl rfl dX5_act_40 ?_
  refine J_iload_n 43 1 dX5_act_43 rfl rfl ?_
  refine J_aldq (b := Fa) 44 12 4 s rfl rfl rfl (by omega) (by decide) hy dX5_act_44 ?_
  refine g_154 (v := .int (nI j)) 45 13 rfl rfl dX5_act_45 ?_
  refine J_istore (lv' := [some (.ref o), some (.int (nI s)), some (.int 1), some (.int x), some (.int (nI j)), none]) 48 dX5_act_48 (by decide) rfl ?_
  refine J_aload_n 50 0 dX5_act_50 rfl rfl ?_
  refine g_206 (v := .ref de) 51 0 rfl rfl dX5_act_51 ?_
  refine J_aload_n 54 0 dX5_act_54 rfl rfl ?_
  refine g_196 (v := .ref (An 0)) 55 0 rfl rfl dX5_act_55 ?_
  refine g_56 (v := .ref (An 5)) 58 1 rfl rfl dX5_act_58 ?_
  refine J_iload 61 dX5_act_61 rfl ?_
  refine J_iald 63 6 j rfl rfl (by omega) (by decide) dX5_act_63 ?_
  refine J_topi (y := 0) 64 hk ?_
  refine J_iload 64 dX5_act_64 rfl ?_
  refine J_aload_n 66 0 dX5_act_66 rfl rfl ?_
  refine g_196 (v := .ref (An 0)) 67 0 rfl rfl dX5_act_67 ?_
  refine g_58 (v := .ref (An 6)) 70 1 rfl rfl dX5_act_70 ?_
  refine J_iload 73 dX5_act_73 rfl ?_
  refine J_iald 75 7 j rfl rfl (by omega) (by decide) dX5_act_75 ?_
  refine kb_RX5_305 (bs' := [wMe o (An 0) (Ak 0) (At 0) (Ad 0) kk tp rw rc sh sf de, wCt G An la ns sd to he sw nh ki te mi ar z, wDe de bo 0 0 0 (nI j) (te j), wI G bo 30 dbo, wQ G sf 4 4 sff, wSf Fa 1 (nI j) fso fsz]) (rest := []) (st' := []) 76 (c_X1_begin l G 0 (nI j) (te j) de bo 0 pz dk nu dt ) [2] 10 rfl rfl rfl [[de]] rfl rfl rfl rfl rfl rfl (Nat.le_of_ble_eq_true rfl) rfl dX5_act_76 ?_
  refine J_aload_n 79 0 dX5_act_79 rfl rfl ?_
  refine g_206 (v := .ref de) 80 0 rfl rfl dX5_act_80 ?_
  refine J_aload_n 83 0 dX5_act_83 rfl rfl ?_
  refine g_196 (v := .ref (An 0)) 84 0 rfl rfl dX5_act_84 ?_
  refine g_56 (v := .ref (An 5)) 87 1 rfl rfl dX5_act_87 ?_
  refine J_iload 90 dX5_act_90 rfl ?_
  refine J_iald 92 6 j rfl rfl (by omega) (by decide) dX5_act_92 ?_
  refine J_topi (y := 0) 93 hk ?_
  refine J_iload_n 93 2 dX5_act_93 rfl rfl ?_
  refine kb_RX5_308 (bs' := [wMe o (An 0) (Ak 0) (At 0) (Ad 0) kk tp rw rc sh sf de, wCt G An la ns sd to he sw nh ki te mi ar z, wDe de bo 0 0 0 (nI j) (te j), wI G bo 30 dbo, wQ G sf 4 4 sff, wSf Fa 1 (nI j) fso fsz]) (rest := [.ref de]) (st' := [.int 11, .ref de]) 94 (c_X1_bodyOf_0_1 l G  ) [] rfl rfl [] rfl rfl rfl rfl rfl rfl (Nat.le_of_ble_eq_true rfl) rfl dX5_act_94 ?_
  refine J_iload_n 97 3 dX5_act_97 rfl rfl ?_
  refine J_iconst (v := 0) 98 dX5_act_98 rfl ?_
  refine kb_RX5_311 (bs' := [wMe o (An 0) (Ak 0) (At 0) (Ad 0) kk tp rw rc sh sf de, wCt G An la ns sd to he sw nh ki te mi ar z, wDe de bo (0 + 2) 0 0 (nI j) (te j), wI G bo 30 (pF [11, 10] dbo 0), wQ G sf 4 4 sff, wSf Fa 1 (nI j) fso fsz]) (rest := []) (st' := [.int ((x * 5 + (nI j)) - (te j))]) 99 (c_runs_0_11 l G x 0 de bo 0 (nI j) (te j) dbo (by decide) (by decide)) [2, 3] rfl rfl [[de], [bo]] rfl rfl rfl rfl rfl rfl (Nat.le_of_ble_eq_true rfl) rfl dX5_act_99 ?_
  refine J_istore (lv' := [some (.ref o), some (.int (nI s)), some (.int 1), some (.int x), some (.int (nI j)), some (.int ((x * 5 + (nI j)) - (te j)))]) 102 dX5_act_102 (by decide) rfl ?_
  refine J_aload_n 104 0 dX5_act_104 rfl rfl ?_
  refine g_206 (v := .ref de) 105 0 rfl rfl dX5_act_105 ?_
  refine g_179 (v := .int 0) 108 10 rfl rfl dX5_act_108 ?_
  refine J_if_eq (tgt := 119) 111 dX5_act_111 (by decide) (fun _ => ?_) (fun c_4_ => absurd c_4_ (by decide))
  refine J_iload 119 dX5_act_119 rfl ?_
  exact J_iret 121 dX5_act_121 rfl (cg1 (fun (x0_ : Nat) => (wF [wMe o (An 0) (Ak 0) (At 0) (Ad 0) kk tp rw rc sh sf de, wCt G An la ns sd to he sw nh ki te mi ar z, wDe de bo x0_ 0 0 (nI j) (te j), wI G bo 30 (pF [11, 10] dbo 0), wQ G sf 4 4 sff, wSf Fa 1 (nI j) fso fsz])) (0 + 2) 2 rfl)
set_option maxRecDepth 100000 in
set_option maxHeartbeats 4000000 in
theorem c_X5_act_0_2 (l : Launch) (G : Gd) (s : Nat) (x : Int32) (Fa : Nat) (j : Nat) (o : Nat) (An : Nat → Nat) (Ak : Nat → Nat) (At : Nat → Nat) (Ad : Nat → Nat) (kk : Int32) (tp : Nat) (rw : Nat) (rc : Nat) (sh : Nat) (sf : Nat) (de : Nat) (la : Nat → Int32) (ns : Nat) (sd : Nat) (to : Nat → Int32) (he : Nat → Int32) (sw : Nat → Int32) (nh : Nat) (ki : Nat → Int32) (te : Nat → Int32) (mi : Nat → Int32) (ar : Nat → Int32) (z : Int32) (bo : Nat) (ct : Nat) (pz : Int32) (dk : Int32) (nu : Int32) (dt : Int32) (dbo : Nat → Int32) (sff : Nat → Option Nat) (fso : Int32) (fsz : Int32) (hs : s ≤ 3) (hy : sff s = some Fa) (hj : j < nh) (hnh : nh ≤ 8) (hk : ki j = 0) (hz : ¬ (te j) - (nI j) = 0) : Ct l G yX5_act cX5_act 6 (some (FieldType.int)) 8 [.ref o, .int (nI s), .int 2, .int x] (wF [wMe o (An 0) (Ak 0) (At 0) (Ad 0) kk tp rw rc sh sf de, wCt G An la ns sd to he sw nh ki te mi ar z, wDe de bo ct pz dk nu dt, wI G bo 30 dbo, wQ G sf 4 4 sff, wSf Fa 1 (nI j) fso fsz]) (some (.int (x / ((te j) - (nI j))))) (wF [wMe o (An 0) (Ak 0) (At 0) (Ad 0) kk tp rw rc sh sf de, wCt G An la ns sd to he sw nh ki te mi ar z, wDe de bo 1 0 0 (nI j) (te j), wI G bo 30 (pF [12] dbo 0), wQ G sf 4 4 sff, wSf Fa 1 (nI j) fso fsz]) := by
  refine Ct.of "GooseArms" [some (.ref o), some (.int (nI s)), some (.int 2), some (.int x), none, none] (by decide +kernel) rfl (Nat.le_of_ble_eq_true rfl) rfl ?_
  refine J_aload_n 0 0 dX5_act_0 rfl rfl ?_
  refine g_206 (v := .ref de) 1 0 rfl rfl dX5_act_1 ?_
  refine J_iconst (v := 0) 4 dX5_act_4 rfl ?_
  refine p_177 (ws' := (wF [wMe o (An 0) (Ak 0) (At 0) (Ad 0) kk tp rw rc sh sf de, wCt G An la ns sd to he sw nh ki te mi ar z, wDe de bo 0 pz dk nu dt, wI G bo 30 dbo, wQ G sf 4 4 sff, wSf Fa 1 (nI j) fso fsz])) 5 10 rfl rfl rfl (Nat.le_of_ble_eq_true rfl) rfl dX5_act_5 ?_
  refine J_iload_n 8 1 dX5_act_8 rfl rfl ?_
  refine kb_RX5_219 (bs' := [wMe o (An 0) (Ak 0) (At 0) (Ad 0) kk tp rw rc sh sf de, wCt G An la ns sd to he sw nh ki te mi ar z, wDe de bo 0 pz dk nu dt, wI G bo 30 dbo, wQ G sf 4 4 sff, wSf Fa 1 (nI j) fso fsz]) (rest := []) (st' := [.int 1]) 9 (c_X5_isPlace_t l G s (by first | omega | assumption)) [] rfl rfl [] rfl rfl rfl rfl rfl rfl (Nat.le_of_ble_eq_true rfl) rfl dX5_act_9 ?_
  refine J_if_eq (tgt := 37) 12 dX5_act_12 (by decide) (fun c_1_ => absurd c_1_ (by decide)) (fun _ => ?_)
  refine J_iload_n 15 2 dX5_act_15 rfl rfl ?_
  refine J_iconst (v := 0) 16 dX5_act_16 rfl ?_
  refine J_iconst (v := 3) 17 dX5_act_17 rfl ?_
  refine kb_RX5_65 (bs' := [wMe o (An 0) (Ak 0) (At 0) (Ad 0) kk tp rw rc sh sf de, wCt G An la ns sd to he sw nh ki te mi ar z, wDe de bo 0 pz dk nu dt, wI G bo 30 dbo, wQ G sf 4 4 sff, wSf Fa 1 (nI j) fso fsz]) (rest := []) (st' := [.int 1]) 18 (c_X5_within_t l G 2 0 3 (by decide)) [] rfl rfl [] rfl rfl rfl rfl rfl rfl (Nat.le_of_ble_eq_true rfl) rfl dX5_act_18 ?_
  refine J_if_eq (tgt := 37) 21 dX5_act_21 (by decide) (fun c_2_ => absurd c_2_ (by decide)) (fun _ => ?_)
  refine J_aload_n 24 0 dX5_act_24 rfl rfl ?_
  refine J_aload_n 25 0 dX5_act_25 rfl rfl ?_
  refine g_205 (v := .ref sf) 26 0 rfl rfl dX5_act_26 ?_
  refine J_iload_n 29 1 dX5_act_29 rfl rfl ?_
  refine J_aldq (b := Fa) 30 12 4 s rfl rfl rfl (by omega) (by decide) hy dX5_act_30 ?_
  refine kb_RX5_292 (bs' := [wMe o (An 0) (Ak 0) (At 0) (Ad 0) kk tp rw rc sh sf de, wCt G An la ns sd to he sw nh ki te mi ar z, wDe de bo 0 pz dk nu dt, wI G bo 30 dbo, wQ G sf 4 4 sff, wSf Fa 1 (nI j) fso fsz]) (rest := []) (st' := [.int 1]) 31 (c_X5_holdsHearer_t l G j o An Ak At Ad kk tp rw rc sh sf de la ns sd to he sw nh ki te mi ar z Fa fso fsz (by first | omega | assumption) (by first | omega | assumption)) [0, 1, 5] 0 rfl rfl rfl [[o], [An 0, An 1, An 2, An 3, An 4, An 5, An 6, An 7, An 8], [Fa]] rfl rfl rfl rfl rfl rfl (Nat.le_of_ble_eq_true rfl) rfl dX5_act_31 ?_
  refine J_if_ne (tgt := 39) 34 dX5_act_34 (by decide) (fun _ => ?_) (fun c_3_ => absurd c_3_ (by decide))
  refine J_aload_n 39 0 dX5_act_39 rfl rfl ?_
  refine g_205 (v := .ref sf) 40 0 rfl rfl dX5_act_40 ?_
  refine J_iload_n 43 1 dX5_act_43 rfl rfl ?_
  refine J_aldq (b := Fa) 44 12 4 s rfl rfl rfl (by omega) (by decide) hy dX5_act_44 ?_
  refine g_154 (v := .int (nI j)) 45 13 rfl rfl dX5_act_45 ?_
  refine J_istore (lv' := [some (.ref o), some (.int (nI s)), some (.int 2), some (.int x), some (.int (nI j)), none]) 48 dX5_act_48 (by decide) rfl ?_
  refine J_aload_n 50 0 dX5_act_50 rfl rfl ?_
  refine g_206 (v := .ref de) 51 0 rfl rfl dX5_act_51 ?_
  refine J_aload_n 54 0 dX5_act_54 rfl rfl ?_
  refine g_196 (v := .ref (An 0)) 55 0 rfl rfl dX5_act_55 ?_
  refine g_56 (v := .ref (An 5)) 58 1 rfl rfl dX5_act_58 ?_
  refine J_iload 61 dX5_act_61 rfl ?_
  refine J_iald 63 6 j rfl rfl (by omega) (by decide) dX5_act_63 ?_
  refine J_topi (y := 0) 64 hk ?_
  refine J_iload 64 dX5_act_64 rfl ?_
  refine J_aload_n 66 0 dX5_act_66 rfl rfl ?_
  refine g_196 (v := .ref (An 0)) 67 0 rfl rfl dX5_act_67 ?_
  refine g_58 (v := .ref (An 6)) 70 1 rfl rfl dX5_act_70 ?_
  refine J_iload 73 dX5_act_73 rfl ?_
  refine J_iald 75 7 j rfl rfl (by omega) (by decide) dX5_act_75 ?_
  refine kb_RX5_305 (bs' := [wMe o (An 0) (Ak 0) (At 0) (Ad 0) kk tp rw rc sh sf de, wCt G An la ns sd to he sw nh ki te mi ar z, wDe de bo 0 0 0 (nI j) (te j), wI G bo 30 dbo, wQ G sf 4 4 sff, wSf Fa 1 (nI j) fso fsz]) (rest := []) (st' := []) 76 (c_X1_begin l G 0 (nI j) (te j) de bo 0 pz dk nu dt ) [2] 10 rfl rfl rfl [[de]] rfl rfl rfl rfl rfl rfl (Nat.le_of_ble_eq_true rfl) rfl dX5_act_76 ?_
  refine J_aload_n 79 0 dX5_act_79 rfl rfl ?_
  refine g_206 (v := .ref de) 80 0 rfl rfl dX5_act_80 ?_
  refine J_aload_n 83 0 dX5_act_83 rfl rfl ?_
  refine g_196 (v := .ref (An 0)) 84 0 rfl rfl dX5_act_84 ?_
  refine g_56 (v := .ref (An 5)) 87 1 rfl rfl dX5_act_87 ?_
  refine J_iload 90 dX5_act_90 rfl ?_
  refine J_iald 92 6 j rfl rfl (by omega) (by decide) dX5_act_92 ?_
  refine J_topi (y := 0) 93 hk ?_
  refine J_iload_n 93 2 dX5_act_93 rfl rfl ?_
  refine kb_RX5_308 (bs' := [wMe o (An 0) (Ak 0) (At 0) (Ad 0) kk tp rw rc sh sf de, wCt G An la ns sd to he sw nh ki te mi ar z, wDe de bo 0 0 0 (nI j) (te j), wI G bo 30 dbo, wQ G sf 4 4 sff, wSf Fa 1 (nI j) fso fsz]) (rest := [.ref de]) (st' := [.int 12, .ref de]) 94 (c_X1_bodyOf_0_2 l G  ) [] rfl rfl [] rfl rfl rfl rfl rfl rfl (Nat.le_of_ble_eq_true rfl) rfl dX5_act_94 ?_
  refine J_iload_n 97 3 dX5_act_97 rfl rfl ?_
  refine J_iconst (v := 0) 98 dX5_act_98 rfl ?_
  refine kb_RX5_311 (bs' := [wMe o (An 0) (Ak 0) (At 0) (Ad 0) kk tp rw rc sh sf de, wCt G An la ns sd to he sw nh ki te mi ar z, wDe de bo (0 + 1) 0 0 (nI j) (te j), wI G bo 30 (pF [12] dbo 0), wQ G sf 4 4 sff, wSf Fa 1 (nI j) fso fsz]) (rest := []) (st' := [.int (x / ((te j) - (nI j)))]) 99 (c_runs_0_12 l G x 0 de bo 0 (nI j) (te j) dbo (by decide) (by decide) hz) [2, 3] rfl rfl [[de], [bo]] rfl rfl rfl rfl rfl rfl (Nat.le_of_ble_eq_true rfl) rfl dX5_act_99 ?_
  refine J_istore (lv' := [some (.ref o), some (.int (nI s)), some (.int 2), some (.int x), some (.int (nI j)), some (.int (x / ((te j) - (nI j))))]) 102 dX5_act_102 (by decide) rfl ?_
  refine J_aload_n 104 0 dX5_act_104 rfl rfl ?_
  refine g_206 (v := .ref de) 105 0 rfl rfl dX5_act_105 ?_
  refine g_179 (v := .int 0) 108 10 rfl rfl dX5_act_108 ?_
  refine J_if_eq (tgt := 119) 111 dX5_act_111 (by decide) (fun _ => ?_) (fun c_4_ => absurd c_4_ (by decide))
  refine J_iload 119 dX5_act_119 rfl ?_
  exact J_iret 121 dX5_act_121 rfl (cg1 (fun (x0_ : Nat) => (wF [wMe o (An 0) (Ak 0) (At 0) (Ad 0) kk tp rw rc sh sf de, wCt G An la ns sd to he sw nh ki te mi ar z, wDe de bo x0_ 0 0 (nI j) (te j), wI G bo 30 (pF [12] dbo 0), wQ G sf 4 4 sff, wSf Fa 1 (nI j) fso fsz])) (0 + 1) 1 rfl)
set_option maxRecDepth 100000 in
set_option maxHeartbeats 4000000 in
theorem c_X5_act_0_2z (l : Launch) (G : Gd) (s : Nat) (x : Int32) (Fa : Nat) (j : Nat) (o : Nat) (An : Nat → Nat) (Ak : Nat → Nat) (At : Nat → Nat) (Ad : Nat → Nat) (kk : Int32) (tp : Nat) (rw : Nat) (rc : Nat) (sh : Nat) (sf : Nat) (de : Nat) (la : Nat → Int32) (ns : Nat) (sd : Nat) (to : Nat → Int32) (he : Nat → Int32) (sw : Nat → Int32) (nh : Nat) (ki : Nat → Int32) (te : Nat → Int32) (mi : Nat → Int32) (ar : Nat → Int32) (z : Int32) (bo : Nat) (ct : Nat) (pz : Int32) (dk : Int32) (nu : Int32) (dt : Int32) (dbo : Nat → Int32) (sff : Nat → Option Nat) (fso : Int32) (fsz : Int32) (hs : s ≤ 3) (hy : sff s = some Fa) (hj : j < nh) (hnh : nh ≤ 8) (hk : ki j = 0) (hz : (te j) - (nI j) = 0) : Ct l G yX5_act cX5_act 6 (some (FieldType.int)) 8 [.ref o, .int (nI s), .int 2, .int x] (wF [wMe o (An 0) (Ak 0) (At 0) (Ad 0) kk tp rw rc sh sf de, wCt G An la ns sd to he sw nh ki te mi ar z, wDe de bo ct pz dk nu dt, wI G bo 30 dbo, wQ G sf 4 4 sff, wSf Fa 1 (nI j) fso fsz]) (some (.int (-15))) (wF [wMe o (An 0) (Ak 0) (At 0) (Ad 0) kk tp rw rc sh sf de, wCt G An la ns sd to he sw nh ki te mi ar z, wDe de bo 1 1 0 (nI j) (te j), wI G bo 30 (pF [12] dbo 0), wQ G sf 4 4 sff, wSf Fa 1 (nI j) fso fsz]) := by
  refine Ct.of "GooseArms" [some (.ref o), some (.int (nI s)), some (.int 2), some (.int x), none, none] (by decide +kernel) rfl (Nat.le_of_ble_eq_true rfl) rfl ?_
  refine J_aload_n 0 0 dX5_act_0 rfl rfl ?_
  refine g_206 (v := .ref de) 1 0 rfl rfl dX5_act_1 ?_
  refine J_iconst (v := 0) 4 dX5_act_4 rfl ?_
  refine p_177 (ws' := (wF [wMe o (An 0) (Ak 0) (At 0) (Ad 0) kk tp rw rc sh sf de, wCt G An la ns sd to he sw nh ki te mi ar z, wDe de bo 0 pz dk nu dt, wI G bo 30 dbo, wQ G sf 4 4 sff, wSf Fa 1 (nI j) fso fsz])) 5 10 rfl rfl rfl (Nat.le_of_ble_eq_true rfl) rfl dX5_act_5 ?_
  refine J_iload_n 8 1 dX5_act_8 rfl rfl ?_
  refine kb_RX5_219 (bs' := [wMe o (An 0) (Ak 0) (At 0) (Ad 0) kk tp rw rc sh sf de, wCt G An la ns sd to he sw nh ki te mi ar z, wDe de bo 0 pz dk nu dt, wI G bo 30 dbo, wQ G sf 4 4 sff, wSf Fa 1 (nI j) fso fsz]) (rest := []) (st' := [.int 1]) 9 (c_X5_isPlace_t l G s (by first | omega | assumption)) [] rfl rfl [] rfl rfl rfl rfl rfl rfl (Nat.le_of_ble_eq_true rfl) rfl dX5_act_9 ?_
  refine J_if_eq (tgt := 37) 12 dX5_act_12 (by decide) (fun c_1_ => absurd c_1_ (by decide)) (fun _ => ?_)
  refine J_iload_n 15 2 dX5_act_15 rfl rfl ?_
  refine J_iconst (v := 0) 16 dX5_act_16 rfl ?_
  refine J_iconst (v := 3) 17 dX5_act_17 rfl ?_
  refine kb_RX5_65 (bs' := [wMe o (An 0) (Ak 0) (At 0) (Ad 0) kk tp rw rc sh sf de, wCt G An la ns sd to he sw nh ki te mi ar z, wDe de bo 0 pz dk nu dt, wI G bo 30 dbo, wQ G sf 4 4 sff, wSf Fa 1 (nI j) fso fsz]) (rest := []) (st' := [.int 1]) 18 (c_X5_within_t l G 2 0 3 (by decide)) [] rfl rfl [] rfl rfl rfl rfl rfl rfl (Nat.le_of_ble_eq_true rfl) rfl dX5_act_18 ?_
  refine J_if_eq (tgt := 37) 21 dX5_act_21 (by decide) (fun c_2_ => absurd c_2_ (by decide)) (fun _ => ?_)
  refine J_aload_n 24 0 dX5_act_24 rfl rfl ?_
  refine J_aload_n 25 0 dX5_act_25 rfl rfl ?_
  refine g_205 (v := .ref sf) 26 0 rfl rfl dX5_act_26 ?_
  refine J_iload_n 29 1 dX5_act_29 rfl rfl ?_
  refine J_aldq (b := Fa) 30 12 4 s rfl rfl rfl (by omega) (by decide) hy dX5_act_30 ?_
  refine kb_RX5_292 (bs' := [wMe o (An 0) (Ak 0) (At 0) (Ad 0) kk tp rw rc sh sf de, wCt G An la ns sd to he sw nh ki te mi ar z, wDe de bo 0 pz dk nu dt, wI G bo 30 dbo, wQ G sf 4 4 sff, wSf Fa 1 (nI j) fso fsz]) (rest := []) (st' := [.int 1]) 31 (c_X5_holdsHearer_t l G j o An Ak At Ad kk tp rw rc sh sf de la ns sd to he sw nh ki te mi ar z Fa fso fsz (by first | omega | assumption) (by first | omega | assumption)) [0, 1, 5] 0 rfl rfl rfl [[o], [An 0, An 1, An 2, An 3, An 4, An 5, An 6, An 7, An 8], [Fa]] rfl rfl rfl rfl rfl rfl (Nat.le_of_ble_eq_true rfl) rfl dX5_act_31 ?_
  refine J_if_ne (tgt := 39) 34 dX5_act_34 (by decide) (fun _ => ?_) (fun c_3_ => absurd c_3_ (by decide))
  refine J_aload_n 39 0 dX5_act_39 rfl rfl ?_
  refine g_205 (v := .ref sf) 40 0 rfl rfl dX5_act_40 ?_
  refine J_iload_n 43 1 dX5_act_43 rfl rfl ?_
  refine J_aldq (b := Fa) 44 12 4 s rfl rfl rfl (by omega) (by decide) hy dX5_act_44 ?_
  refine g_154 (v := .int (nI j)) 45 13 rfl rfl dX5_act_45 ?_
  refine J_istore (lv' := [some (.ref o), some (.int (nI s)), some (.int 2), some (.int x), some (.int (nI j)), none]) 48 dX5_act_48 (by decide) rfl ?_
  refine J_aload_n 50 0 dX5_act_50 rfl rfl ?_
  refine g_206 (v := .ref de) 51 0 rfl rfl dX5_act_51 ?_
  refine J_aload_n 54 0 dX5_act_54 rfl rfl ?_
  refine g_196 (v := .ref (An 0)) 55 0 rfl rfl dX5_act_55 ?_
  refine g_56 (v := .ref (An 5)) 58 1 rfl rfl dX5_act_58 ?_
  refine J_iload 61 dX5_act_61 rfl ?_
  refine J_iald 63 6 j rfl rfl (by omega) (by decide) dX5_act_63 ?_
  refine J_topi (y := 0) 64 hk ?_
  refine J_iload 64 dX5_act_64 rfl ?_
  refine J_aload_n 66 0 dX5_act_66 rfl rfl ?_
  refine g_196 (v := .ref (An 0)) 67 0 rfl rfl dX5_act_67 ?_
  refine g_58 (v := .ref (An 6)) 70 1 rfl rfl dX5_act_70 ?_
  refine J_iload 73 dX5_act_73 rfl ?_
  refine J_iald 75 7 j rfl rfl (by omega) (by decide) dX5_act_75 ?_
  refine kb_RX5_305 (bs' := [wMe o (An 0) (Ak 0) (At 0) (Ad 0) kk tp rw rc sh sf de, wCt G An la ns sd to he sw nh ki te mi ar z, wDe de bo 0 0 0 (nI j) (te j), wI G bo 30 dbo, wQ G sf 4 4 sff, wSf Fa 1 (nI j) fso fsz]) (rest := []) (st' := []) 76 (c_X1_begin l G 0 (nI j) (te j) de bo 0 pz dk nu dt ) [2] 10 rfl rfl rfl [[de]] rfl rfl rfl rfl rfl rfl (Nat.le_of_ble_eq_true rfl) rfl dX5_act_76 ?_
  refine J_aload_n 79 0 dX5_act_79 rfl rfl ?_
  refine g_206 (v := .ref de) 80 0 rfl rfl dX5_act_80 ?_
  refine J_aload_n 83 0 dX5_act_83 rfl rfl ?_
  refine g_196 (v := .ref (An 0)) 84 0 rfl rfl dX5_act_84 ?_
  refine g_56 (v := .ref (An 5)) 87 1 rfl rfl dX5_act_87 ?_
  refine J_iload 90 dX5_act_90 rfl ?_
  refine J_iald 92 6 j rfl rfl (by omega) (by decide) dX5_act_92 ?_
  refine J_topi (y := 0) 93 hk ?_
  refine J_iload_n 93 2 dX5_act_93 rfl rfl ?_
  refine kb_RX5_308 (bs' := [wMe o (An 0) (Ak 0) (At 0) (Ad 0) kk tp rw rc sh sf de, wCt G An la ns sd to he sw nh ki te mi ar z, wDe de bo 0 0 0 (nI j) (te j), wI G bo 30 dbo, wQ G sf 4 4 sff, wSf Fa 1 (nI j) fso fsz]) (rest := [.ref de]) (st' := [.int 12, .ref de]) 94 (c_X1_bodyOf_0_2 l G  ) [] rfl rfl [] rfl rfl rfl rfl rfl rfl (Nat.le_of_ble_eq_true rfl) rfl dX5_act_94 ?_
  refine J_iload_n 97 3 dX5_act_97 rfl rfl ?_
  refine J_iconst (v := 0) 98 dX5_act_98 rfl ?_
  refine kb_RX5_311 (bs' := [wMe o (An 0) (Ak 0) (At 0) (Ad 0) kk tp rw rc sh sf de, wCt G An la ns sd to he sw nh ki te mi ar z, wDe de bo (0 + 1) 1 0 (nI j) (te j), wI G bo 30 (pF [12] dbo 0), wQ G sf 4 4 sff, wSf Fa 1 (nI j) fso fsz]) (rest := []) (st' := [.int 0]) 99 (c_runs_0_12z l G x 0 de bo 0 (nI j) (te j) dbo (by decide) (by decide) hz) [2, 3] rfl rfl [[de], [bo]] rfl rfl rfl rfl rfl rfl (Nat.le_of_ble_eq_true rfl) rfl dX5_act_99 ?_
  refine J_istore (lv' := [some (.ref o), some (.int (nI s)), some (.int 2), some (.int x), some (.int (nI j)), some (.int 0)]) 102 dX5_act_102 (by decide) rfl ?_
  refine J_aload_n 104 0 dX5_act_104 rfl rfl ?_
  refine g_206 (v := .ref de) 105 0 rfl rfl dX5_act_105 ?_
  refine g_179 (v := .int 1) 108 10 rfl rfl dX5_act_108 ?_
  refine J_if_eq (tgt := 119) 111 dX5_act_111 (by decide) (fun c_4_ => absurd c_4_ (by decide)) (fun _ => ?_)
  refine J_bipush (v := (-15)) 114 dX5_act_114 rfl ?_
  refine J_goto (tgt := 121) 116 dX5_act_116 (by decide) ?_
  exact J_iret 121 dX5_act_121 rfl (cg1 (fun (x0_ : Nat) => (wF [wMe o (An 0) (Ak 0) (At 0) (Ad 0) kk tp rw rc sh sf de, wCt G An la ns sd to he sw nh ki te mi ar z, wDe de bo x0_ 1 0 (nI j) (te j), wI G bo 30 (pF [12] dbo 0), wQ G sf 4 4 sff, wSf Fa 1 (nI j) fso fsz])) (0 + 1) 1 rfl)
set_option maxRecDepth 100000 in
set_option maxHeartbeats 4000000 in
theorem c_X5_act_0_3 (l : Launch) (G : Gd) (s : Nat) (x : Int32) (Fa : Nat) (j : Nat) (o : Nat) (An : Nat → Nat) (Ak : Nat → Nat) (At : Nat → Nat) (Ad : Nat → Nat) (kk : Int32) (tp : Nat) (rw : Nat) (rc : Nat) (sh : Nat) (sf : Nat) (de : Nat) (la : Nat → Int32) (ns : Nat) (sd : Nat) (to : Nat → Int32) (he : Nat → Int32) (sw : Nat → Int32) (nh : Nat) (ki : Nat → Int32) (te : Nat → Int32) (mi : Nat → Int32) (ar : Nat → Int32) (z : Int32) (bo : Nat) (ct : Nat) (pz : Int32) (dk : Int32) (nu : Int32) (dt : Int32) (dbo : Nat → Int32) (sff : Nat → Option Nat) (fso : Int32) (fsz : Int32) (hs : s ≤ 3) (hy : sff s = some Fa) (hj : j < nh) (hnh : nh ≤ 8) (hk : ki j = 0) : Ct l G yX5_act cX5_act 6 (some (FieldType.int)) 8 [.ref o, .int (nI s), .int 3, .int x] (wF [wMe o (An 0) (Ak 0) (At 0) (Ad 0) kk tp rw rc sh sf de, wCt G An la ns sd to he sw nh ki te mi ar z, wDe de bo ct pz dk nu dt, wI G bo 30 dbo, wQ G sf 4 4 sff, wSf Fa 1 (nI j) fso fsz]) (some (.int (((x * 5 + (nI j)) - (te j)) ^^^ 150))) (wF [wMe o (An 0) (Ak 0) (At 0) (Ad 0) kk tp rw rc sh sf de, wCt G An la ns sd to he sw nh ki te mi ar z, wDe de bo 3 0 0 (nI j) (te j), wI G bo 30 (pF [13, 11, 10] dbo 0), wQ G sf 4 4 sff, wSf Fa 1 (nI j) fso fsz]) := by
  refine Ct.of "GooseArms" [some (.ref o), some (.int (nI s)), some (.int 3), some (.int x), none, none] (by decide +kernel) rfl (Nat.le_of_ble_eq_true rfl) rfl ?_
  refine J_aload_n 0 0 dX5_act_0 rfl rfl ?_
  refine g_206 (v := .ref de) 1 0 rfl rfl dX5_act_1 ?_
  refine J_iconst (v := 0) 4 dX5_act_4 rfl ?_
  refine p_177 (ws' := (wF [wMe o (An 0) (Ak 0) (At 0) (Ad 0) kk tp rw rc sh sf de, wCt G An la ns sd to he sw nh ki te mi ar z, wDe de bo 0 pz dk nu dt, wI G bo 30 dbo, wQ G sf 4 4 sff, wSf Fa 1 (nI j) fso fsz])) 5 10 rfl rfl rfl (Nat.le_of_ble_eq_true rfl) rfl dX5_act_5 ?_
  refine J_iload_n 8 1 dX5_act_8 rfl rfl ?_
  refine kb_RX5_219 (bs' := [wMe o (An 0) (Ak 0) (At 0) (Ad 0) kk tp rw rc sh sf de, wCt G An la ns sd to he sw nh ki te mi ar z, wDe de bo 0 pz dk nu dt, wI G bo 30 dbo, wQ G sf 4 4 sff, wSf Fa 1 (nI j) fso fsz]) (rest := []) (st' := [.int 1]) 9 (c_X5_isPlace_t l G s (by first | omega | assumption)) [] rfl rfl [] rfl rfl rfl rfl rfl rfl (Nat.le_of_ble_eq_true rfl) rfl dX5_act_9 ?_
  refine J_if_eq (tgt := 37) 12 dX5_act_12 (by decide) (fun c_1_ => absurd c_1_ (by decide)) (fun _ => ?_)
  refine J_iload_n 15 2 dX5_act_15 rfl rfl ?_
  refine J_iconst (v := 0) 16 dX5_act_16 rfl ?_
  refine J_iconst (v := 3) 17 dX5_act_17 rfl ?_
  refine kb_RX5_65 (bs' := [wMe o (An 0) (Ak 0) (At 0) (Ad 0) kk tp rw rc sh sf de, wCt G An la ns sd to he sw nh ki te mi ar z, wDe de bo 0 pz dk nu dt, wI G bo 30 dbo, wQ G sf 4 4 sff, wSf Fa 1 (nI j) fso fsz]) (rest := []) (st' := [.int 1]) 18 (c_X5_within_t l G 3 0 3 (by decide)) [] rfl rfl [] rfl rfl rfl rfl rfl rfl (Nat.le_of_ble_eq_true rfl) rfl dX5_act_18 ?_
  refine J_if_eq (tgt := 37) 21 dX5_act_21 (by decide) (fun c_2_ => absurd c_2_ (by decide)) (fun _ => ?_)
  refine J_aload_n 24 0 dX5_act_24 rfl rfl ?_
  refine J_aload_n 25 0 dX5_act_25 rfl rfl ?_
  refine g_205 (v := .ref sf) 26 0 rfl rfl dX5_act_26 ?_
  refine J_iload_n 29 1 dX5_act_29 rfl rfl ?_
  refine J_aldq (b := Fa) 30 12 4 s rfl rfl rfl (by omega) (by decide) hy dX5_act_30 ?_
  refine kb_RX5_292 (bs' := [wMe o (An 0) (Ak 0) (At 0) (Ad 0) kk tp rw rc sh sf de, wCt G An la ns sd to he sw nh ki te mi ar z, wDe de bo 0 pz dk nu dt, wI G bo 30 dbo, wQ G sf 4 4 sff, wSf Fa 1 (nI j) fso fsz]) (rest := []) (st' := [.int 1]) 31 (c_X5_holdsHearer_t l G j o An Ak At Ad kk tp rw rc sh sf de la ns sd to he sw nh ki te mi ar z Fa fso fsz (by first | omega | assumption) (by first | omega | assumption)) [0, 1, 5] 0 rfl rfl rfl [[o], [An 0, An 1, An 2, An 3, An 4, An 5, An 6, An 7, An 8], [Fa]] rfl rfl rfl rfl rfl rfl (Nat.le_of_ble_eq_true rfl) rfl dX5_act_31 ?_
  refine J_if_ne (tgt := 39) 34 dX5_act_34 (by decide) (fun _ => ?_) (fun c_3_ => absurd c_3_ (by decide))
  refine J_aload_n 39 0 dX5_act_39 rfl rfl ?_
  refine g_205 (v := .ref sf) 40 0 rfl rfl dX5_act_40 ?_
  refine J_iload_n 43 1 dX5_act_43 rfl rfl ?_
  refine J_aldq (b := Fa) 44 12 4 s rfl rfl rfl (by omega) (by decide) hy dX5_act_44 ?_
  refine g_154 (v := .int (nI j)) 45 13 rfl rfl dX5_act_45 ?_
  refine J_istore (lv' := [some (.ref o), some (.int (nI s)), some (.int 3), some (.int x), some (.int (nI j)), none]) 48 dX5_act_48 (by decide) rfl ?_
  refine J_aload_n 50 0 dX5_act_50 rfl rfl ?_
  refine g_206 (v := .ref de) 51 0 rfl rfl dX5_act_51 ?_
  refine J_aload_n 54 0 dX5_act_54 rfl rfl ?_
  refine g_196 (v := .ref (An 0)) 55 0 rfl rfl dX5_act_55 ?_
  refine g_56 (v := .ref (An 5)) 58 1 rfl rfl dX5_act_58 ?_
  refine J_iload 61 dX5_act_61 rfl ?_
  refine J_iald 63 6 j rfl rfl (by omega) (by decide) dX5_act_63 ?_
  refine J_topi (y := 0) 64 hk ?_
  refine J_iload 64 dX5_act_64 rfl ?_
  refine J_aload_n 66 0 dX5_act_66 rfl rfl ?_
  refine g_196 (v := .ref (An 0)) 67 0 rfl rfl dX5_act_67 ?_
  refine g_58 (v := .ref (An 6)) 70 1 rfl rfl dX5_act_70 ?_
  refine J_iload 73 dX5_act_73 rfl ?_
  refine J_iald 75 7 j rfl rfl (by omega) (by decide) dX5_act_75 ?_
  refine kb_RX5_305 (bs' := [wMe o (An 0) (Ak 0) (At 0) (Ad 0) kk tp rw rc sh sf de, wCt G An la ns sd to he sw nh ki te mi ar z, wDe de bo 0 0 0 (nI j) (te j), wI G bo 30 dbo, wQ G sf 4 4 sff, wSf Fa 1 (nI j) fso fsz]) (rest := []) (st' := []) 76 (c_X1_begin l G 0 (nI j) (te j) de bo 0 pz dk nu dt ) [2] 10 rfl rfl rfl [[de]] rfl rfl rfl rfl rfl rfl (Nat.le_of_ble_eq_true rfl) rfl dX5_act_76 ?_
  refine J_aload_n 79 0 dX5_act_79 rfl rfl ?_
  refine g_206 (v := .ref de) 80 0 rfl rfl dX5_act_80 ?_
  refine J_aload_n 83 0 dX5_act_83 rfl rfl ?_
  refine g_196 (v := .ref (An 0)) 84 0 rfl rfl dX5_act_84 ?_
  refine g_56 (v := .ref (An 5)) 87 1 rfl rfl dX5_act_87 ?_
  refine J_iload 90 dX5_act_90 rfl ?_
  refine J_iald 92 6 j rfl rfl (by omega) (by decide) dX5_act_92 ?_
  refine J_topi (y := 0) 93 hk ?_
  refine J_iload_n 93 2 dX5_act_93 rfl rfl ?_
  refine kb_RX5_308 (bs' := [wMe o (An 0) (Ak 0) (At 0) (Ad 0) kk tp rw rc sh sf de, wCt G An la ns sd to he sw nh ki te mi ar z, wDe de bo 0 0 0 (nI j) (te j), wI G bo 30 dbo, wQ G sf 4 4 sff, wSf Fa 1 (nI j) fso fsz]) (rest := [.ref de]) (st' := [.int 13, .ref de]) 94 (c_X1_bodyOf_0_3 l G  ) [] rfl rfl [] rfl rfl rfl rfl rfl rfl (Nat.le_of_ble_eq_true rfl) rfl dX5_act_94 ?_
  refine J_iload_n 97 3 dX5_act_97 rfl rfl ?_
  refine J_iconst (v := 0) 98 dX5_act_98 rfl ?_
  refine kb_RX5_311 (bs' := [wMe o (An 0) (Ak 0) (At 0) (Ad 0) kk tp rw rc sh sf de, wCt G An la ns sd to he sw nh ki te mi ar z, wDe de bo (0 + 3) 0 0 (nI j) (te j), wI G bo 30 (pF [13, 11, 10] dbo 0), wQ G sf 4 4 sff, wSf Fa 1 (nI j) fso fsz]) (rest := []) (st' := [.int (((x * 5 + (nI j)) - (te j)) ^^^ 150)]) 99 (c_runs_0_13 l G x 0 de bo 0 (nI j) (te j) dbo (by decide) (by decide)) [2, 3] rfl rfl [[de], [bo]] rfl rfl rfl rfl rfl rfl (Nat.le_of_ble_eq_true rfl) rfl dX5_act_99 ?_
  refine J_istore (lv' := [some (.ref o), some (.int (nI s)), some (.int 3), some (.int x), some (.int (nI j)), some (.int (((x * 5 + (nI j)) - (te j)) ^^^ 150))]) 102 dX5_act_102 (by decide) rfl ?_
  refine J_aload_n 104 0 dX5_act_104 rfl rfl ?_
  refine g_206 (v := .ref de) 105 0 rfl rfl dX5_act_105 ?_
  refine g_179 (v := .int 0) 108 10 rfl rfl dX5_act_108 ?_
  refine J_if_eq (tgt := 119) 111 dX5_act_111 (by decide) (fun _ => ?_) (fun c_4_ => absurd c_4_ (by decide))
  refine J_iload 119 dX5_act_119 rfl ?_
  exact J_iret 121 dX5_act_121 rfl (cg1 (fun (x0_ : Nat) => (wF [wMe o (An 0) (Ak 0) (At 0) (Ad 0) kk tp rw rc sh sf de, wCt G An la ns sd to he sw nh ki te mi ar z, wDe de bo x0_ 0 0 (nI j) (te j), wI G bo 30 (pF [13, 11, 10] dbo 0), wQ G sf 4 4 sff, wSf Fa 1 (nI j) fso fsz])) (0 + 3) 3 rfl)
set_option maxRecDepth 100000 in
set_option maxHeartbeats 4000000 in
theorem c_X5_act_1_0 (l : Launch) (G : Gd) (s : Nat) (x : Int32) (Fa : Nat) (j : Nat) (o : Nat) (An : Nat → Nat) (Ak : Nat → Nat) (At : Nat → Nat) (Ad : Nat → Nat) (kk : Int32) (tp : Nat) (rw : Nat) (rc : Nat) (sh : Nat) (sf : Nat) (de : Nat) (la : Nat → Int32) (ns : Nat) (sd : Nat) (to : Nat → Int32) (he : Nat → Int32) (sw : Nat → Int32) (nh : Nat) (ki : Nat → Int32) (te : Nat → Int32) (mi : Nat → Int32) (ar : Nat → Int32) (z : Int32) (bo : Nat) (ct : Nat) (pz : Int32) (dk : Int32) (nu : Int32) (dt : Int32) (dbo : Nat → Int32) (sff : Nat → Option Nat) (fso : Int32) (fsz : Int32) (hs : s ≤ 3) (hy : sff s = some Fa) (hj : j < nh) (hnh : nh ≤ 8) (hk : ki j = 1) : Ct l G yX5_act cX5_act 6 (some (FieldType.int)) 8 [.ref o, .int (nI s), .int 0, .int x] (wF [wMe o (An 0) (Ak 0) (At 0) (Ad 0) kk tp rw rc sh sf de, wCt G An la ns sd to he sw nh ki te mi ar z, wDe de bo ct pz dk nu dt, wI G bo 30 dbo, wQ G sf 4 4 sff, wSf Fa 1 (nI j) fso fsz]) (some (.int (x * 5 + (nI j)))) (wF [wMe o (An 0) (Ak 0) (At 0) (Ad 0) kk tp rw rc sh sf de, wCt G An la ns sd to he sw nh ki te mi ar z, wDe de bo 1 0 1 (nI j) (te j), wI G bo 30 (pF [10] dbo 0), wQ G sf 4 4 sff, wSf Fa 1 (nI j) fso fsz]) := by
  refine Ct.of "GooseArms" [some (.ref o), some (.int (nI s)), some (.int 0), some (.int x), none, none] (by decide +kernel) rfl (Nat.le_of_ble_eq_true rfl) rfl ?_
  refine J_aload_n 0 0 dX5_act_0 rfl rfl ?_
  refine g_206 (v := .ref de) 1 0 rfl rfl dX5_act_1 ?_
  refine J_iconst (v := 0) 4 dX5_act_4 rfl ?_
  refine p_177 (ws' := (wF [wMe o (An 0) (Ak 0) (At 0) (Ad 0) kk tp rw rc sh sf de, wCt G An la ns sd to he sw nh ki te mi ar z, wDe de bo 0 pz dk nu dt, wI G bo 30 dbo, wQ G sf 4 4 sff, wSf Fa 1 (nI j) fso fsz])) 5 10 rfl rfl rfl (Nat.le_of_ble_eq_true rfl) rfl dX5_act_5 ?_
  refine J_iload_n 8 1 dX5_act_8 rfl rfl ?_
  refine kb_RX5_219 (bs' := [wMe o (An 0) (Ak 0) (At 0) (Ad 0) kk tp rw rc sh sf de, wCt G An la ns sd to he sw nh ki te mi ar z, wDe de bo 0 pz dk nu dt, wI G bo 30 dbo, wQ G sf 4 4 sff, wSf Fa 1 (nI j) fso fsz]) (rest := []) (st' := [.int 1]) 9 (c_X5_isPlace_t l G s (by first | omega | assumption)) [] rfl rfl [] rfl rfl rfl rfl rfl rfl (Nat.le_of_ble_eq_true rfl) rfl dX5_act_9 ?_
  refine J_if_eq (tgt := 37) 12 dX5_act_12 (by decide) (fun c_1_ => absurd c_1_ (by decide)) (fun _ => ?_)
  refine J_iload_n 15 2 dX5_act_15 rfl rfl ?_
  refine J_iconst (v := 0) 16 dX5_act_16 rfl ?_
  refine J_iconst (v := 3) 17 dX5_act_17 rfl ?_
  refine kb_RX5_65 (bs' := [wMe o (An 0) (Ak 0) (At 0) (Ad 0) kk tp rw rc sh sf de, wCt G An la ns sd to he sw nh ki te mi ar z, wDe de bo 0 pz dk nu dt, wI G bo 30 dbo, wQ G sf 4 4 sff, wSf Fa 1 (nI j) fso fsz]) (rest := []) (st' := [.int 1]) 18 (c_X5_within_t l G 0 0 3 (by decide)) [] rfl rfl [] rfl rfl rfl rfl rfl rfl (Nat.le_of_ble_eq_true rfl) rfl dX5_act_18 ?_
  refine J_if_eq (tgt := 37) 21 dX5_act_21 (by decide) (fun c_2_ => absurd c_2_ (by decide)) (fun _ => ?_)
  refine J_aload_n 24 0 dX5_act_24 rfl rfl ?_
  refine J_aload_n 25 0 dX5_act_25 rfl rfl ?_
  refine g_205 (v := .ref sf) 26 0 rfl rfl dX5_act_26 ?_
  refine J_iload_n 29 1 dX5_act_29 rfl rfl ?_
  refine J_aldq (b := Fa) 30 12 4 s rfl rfl rfl (by omega) (by decide) hy dX5_act_30 ?_
  refine kb_RX5_292 (bs' := [wMe o (An 0) (Ak 0) (At 0) (Ad 0) kk tp rw rc sh sf de, wCt G An la ns sd to he sw nh ki te mi ar z, wDe de bo 0 pz dk nu dt, wI G bo 30 dbo, wQ G sf 4 4 sff, wSf Fa 1 (nI j) fso fsz]) (rest := []) (st' := [.int 1]) 31 (c_X5_holdsHearer_t l G j o An Ak At Ad kk tp rw rc sh sf de la ns sd to he sw nh ki te mi ar z Fa fso fsz (by first | omega | assumption) (by first | omega | assumption)) [0, 1, 5] 0 rfl rfl rfl [[o], [An 0, An 1, An 2, An 3, An 4, An 5, An 6, An 7, An 8], [Fa]] rfl rfl rfl rfl rfl rfl (Nat.le_of_ble_eq_true rfl) rfl dX5_act_31 ?_
  refine J_if_ne (tgt := 39) 34 dX5_act_34 (by decide) (fun _ => ?_) (fun c_3_ => absurd c_3_ (by decide))
  refine J_aload_n 39 0 dX5_act_39 rfl rfl ?_
  refine g_205 (v := .ref sf) 40 0 rfl rfl dX5_act_40 ?_
  refine J_iload_n 43 1 dX5_act_43 rfl rfl ?_
  refine J_aldq (b := Fa) 44 12 4 s rfl rfl rfl (by omega) (by decide) hy dX5_act_44 ?_
  refine g_154 (v := .int (nI j)) 45 13 rfl rfl dX5_act_45 ?_
  refine J_istore (lv' := [some (.ref o), some (.int (nI s)), some (.int 0), some (.int x), some (.int (nI j)), none]) 48 dX5_act_48 (by decide) rfl ?_
  refine J_aload_n 50 0 dX5_act_50 rfl rfl ?_
  refine g_206 (v := .ref de) 51 0 rfl rfl dX5_act_51 ?_
  refine J_aload_n 54 0 dX5_act_54 rfl rfl ?_
  refine g_196 (v := .ref (An 0)) 55 0 rfl rfl dX5_act_55 ?_
  refine g_56 (v := .ref (An 5)) 58 1 rfl rfl dX5_act_58 ?_
  refine J_iload 61 dX5_act_61 rfl ?_
  refine J_iald 63 6 j rfl rfl (by omega) (by decide) dX5_act_63 ?_
  refine J_topi (y := 1) 64 hk ?_
  refine J_iload 64 dX5_act_64 rfl ?_
  refine J_aload_n 66 0 dX5_act_66 rfl rfl ?_
  refine g_196 (v := .ref (An 0)) 67 0 rfl rfl dX5_act_67 ?_
  refine g_58 (v := .ref (An 6)) 70 1 rfl rfl dX5_act_70 ?_
  refine J_iload 73 dX5_act_73 rfl ?_
  refine J_iald 75 7 j rfl rfl (by omega) (by decide) dX5_act_75 ?_
  refine kb_RX5_305 (bs' := [wMe o (An 0) (Ak 0) (At 0) (Ad 0) kk tp rw rc sh sf de, wCt G An la ns sd to he sw nh ki te mi ar z, wDe de bo 0 0 1 (nI j) (te j), wI G bo 30 dbo, wQ G sf 4 4 sff, wSf Fa 1 (nI j) fso fsz]) (rest := []) (st' := []) 76 (c_X1_begin l G 1 (nI j) (te j) de bo 0 pz dk nu dt ) [2] 10 rfl rfl rfl [[de]] rfl rfl rfl rfl rfl rfl (Nat.le_of_ble_eq_true rfl) rfl dX5_act_76 ?_
  refine J_aload_n 79 0 dX5_act_79 rfl rfl ?_
  refine g_206 (v := .ref de) 80 0 rfl rfl dX5_act_80 ?_
  refine J_aload_n 83 0 dX5_act_83 rfl rfl ?_
  refine g_196 (v := .ref (An 0)) 84 0 rfl rfl dX5_act_84 ?_
  refine g_56 (v := .ref (An 5)) 87 1 rfl rfl dX5_act_87 ?_
  refine J_iload 90 dX5_act_90 rfl ?_
  refine J_iald 92 6 j rfl rfl (by omega) (by decide) dX5_act_92 ?_
  refine J_topi (y := 1) 93 hk ?_
  refine J_iload_n 93 2 dX5_act_93 rfl rfl ?_
  refine kb_RX5_308 (bs' := [wMe o (An 0) (Ak 0) (At 0) (Ad 0) kk tp rw rc sh sf de, wCt G An la ns sd to he sw nh ki te mi ar z, wDe de bo 0 0 1 (nI j) (te j), wI G bo 30 dbo, wQ G sf 4 4 sff, wSf Fa 1 (nI j) fso fsz]) (rest := [.ref de]) (st' := [.int 10, .ref de]) 94 (c_X1_bodyOf_1_0 l G  ) [] rfl rfl [] rfl rfl rfl rfl rfl rfl (Nat.le_of_ble_eq_true rfl) rfl dX5_act_94 ?_
  refine J_iload_n 97 3 dX5_act_97 rfl rfl ?_
  refine J_iconst (v := 0) 98 dX5_act_98 rfl ?_
  refine kb_RX5_311 (bs' := [wMe o (An 0) (Ak 0) (At 0) (Ad 0) kk tp rw rc sh sf de, wCt G An la ns sd to he sw nh ki te mi ar z, wDe de bo (0 + 1) 0 1 (nI j) (te j), wI G bo 30 (pF [10] dbo 0), wQ G sf 4 4 sff, wSf Fa 1 (nI j) fso fsz]) (rest := []) (st' := [.int (x * 5 + (nI j))]) 99 (c_runs_1_10 l G x 0 de bo 0 (nI j) (te j) dbo (by decide) (by decide)) [2, 3] rfl rfl [[de], [bo]] rfl rfl rfl rfl rfl rfl (Nat.le_of_ble_eq_true rfl) rfl dX5_act_99 ?_
  refine J_istore (lv' := [some (.ref o), some (.int (nI s)), some (.int 0), some (.int x), some (.int (nI j)), some (.int (x * 5 + (nI j)))]) 102 dX5_act_102 (by decide) rfl ?_
  refine J_aload_n 104 0 dX5_act_104 rfl rfl ?_
  refine g_206 (v := .ref de) 105 0 rfl rfl dX5_act_105 ?_
  refine g_179 (v := .int 0) 108 10 rfl rfl dX5_act_108 ?_
  refine J_if_eq (tgt := 119) 111 dX5_act_111 (by decide) (fun _ => ?_) (fun c_4_ => absurd c_4_ (by decide))
  refine J_iload 119 dX5_act_119 rfl ?_
  exact J_iret 121 dX5_act_121 rfl (cg1 (fun (x0_ : Nat) => (wF [wMe o (An 0) (Ak 0) (At 0) (Ad 0) kk tp rw rc sh sf de, wCt G An la ns sd to he sw nh ki te mi ar z, wDe de bo x0_ 0 1 (nI j) (te j), wI G bo 30 (pF [10] dbo 0), wQ G sf 4 4 sff, wSf Fa 1 (nI j) fso fsz])) (0 + 1) 1 rfl)
set_option maxRecDepth 100000 in
set_option maxHeartbeats 4000000 in
theorem c_X5_act_1_1 (l : Launch) (G : Gd) (s : Nat) (x : Int32) (Fa : Nat) (j : Nat) (o : Nat) (An : Nat → Nat) (Ak : Nat → Nat) (At : Nat → Nat) (Ad : Nat → Nat) (kk : Int32) (tp : Nat) (rw : Nat) (rc : Nat) (sh : Nat) (sf : Nat) (de : Nat) (la : Nat → Int32) (ns : Nat) (sd : Nat) (to : Nat → Int32) (he : Nat → Int32) (sw : Nat → Int32) (nh : Nat) (ki : Nat → Int32) (te : Nat → Int32) (mi : Nat → Int32) (ar : Nat → Int32) (z : Int32) (bo : Nat) (ct : Nat) (pz : Int32) (dk : Int32) (nu : Int32) (dt : Int32) (dbo : Nat → Int32) (sff : Nat → Option Nat) (fso : Int32) (fsz : Int32) (hs : s ≤ 3) (hy : sff s = some Fa) (hj : j < nh) (hnh : nh ≤ 8) (hk : ki j = 1) : Ct l G yX5_act cX5_act 6 (some (FieldType.int)) 8 [.ref o, .int (nI s), .int 1, .int x] (wF [wMe o (An 0) (Ak 0) (At 0) (Ad 0) kk tp rw rc sh sf de, wCt G An la ns sd to he sw nh ki te mi ar z, wDe de bo ct pz dk nu dt, wI G bo 30 dbo, wQ G sf 4 4 sff, wSf Fa 1 (nI j) fso fsz]) (some (.int (((x * 5 + (nI j)) - (te j)) * 2))) (wF [wMe o (An 0) (Ak 0) (At 0) (Ad 0) kk tp rw rc sh sf de, wCt G An la ns sd to he sw nh ki te mi ar z, wDe de bo 3 0 1 (nI j) (te j), wI G bo 30 (pF [20, 11, 10] dbo 0), wQ G sf 4 4 sff, wSf Fa 1 (nI j) fso fsz]) := by
  refine Ct.of "GooseArms" [some (.ref o), some (.int (nI s)), some (.int 1), some (.int x), none, none] (by decide +kernel) rfl (Nat.le_of_ble_eq_true rfl) rfl ?_
  refine J_aload_n 0 0 dX5_act_0 rfl rfl ?_
  refine g_206 (v := .ref de) 1 0 rfl rfl dX5_act_1 ?_
  refine J_iconst (v := 0) 4 dX5_act_4 rfl ?_
  refine p_177 (ws' := (wF [wMe o (An 0) (Ak 0) (At 0) (Ad 0) kk tp rw rc sh sf de, wCt G An la ns sd to he sw nh ki te mi ar z, wDe de bo 0 pz dk nu dt, wI G bo 30 dbo, wQ G sf 4 4 sff, wSf Fa 1 (nI j) fso fsz])) 5 10 rfl rfl rfl (Nat.le_of_ble_eq_true rfl) rfl dX5_act_5 ?_
  refine J_iload_n 8 1 dX5_act_8 rfl rfl ?_
  refine kb_RX5_219 (bs' := [wMe o (An 0) (Ak 0) (At 0) (Ad 0) kk tp rw rc sh sf de, wCt G An la ns sd to he sw nh ki te mi ar z, wDe de bo 0 pz dk nu dt, wI G bo 30 dbo, wQ G sf 4 4 sff, wSf Fa 1 (nI j) fso fsz]) (rest := []) (st' := [.int 1]) 9 (c_X5_isPlace_t l G s (by first | omega | assumption)) [] rfl rfl [] rfl rfl rfl rfl rfl rfl (Nat.le_of_ble_eq_true rfl) rfl dX5_act_9 ?_
  refine J_if_eq (tgt := 37) 12 dX5_act_12 (by decide) (fun c_1_ => absurd c_1_ (by decide)) (fun _ => ?_)
  refine J_iload_n 15 2 dX5_act_15 rfl rfl ?_
  refine J_iconst (v := 0) 16 dX5_act_16 rfl ?_
  refine J_iconst (v := 3) 17 dX5_act_17 rfl ?_
  refine kb_RX5_65 (bs' := [wMe o (An 0) (Ak 0) (At 0) (Ad 0) kk tp rw rc sh sf de, wCt G An la ns sd to he sw nh ki te mi ar z, wDe de bo 0 pz dk nu dt, wI G bo 30 dbo, wQ G sf 4 4 sff, wSf Fa 1 (nI j) fso fsz]) (rest := []) (st' := [.int 1]) 18 (c_X5_within_t l G 1 0 3 (by decide)) [] rfl rfl [] rfl rfl rfl rfl rfl rfl (Nat.le_of_ble_eq_true rfl) rfl dX5_act_18 ?_
  refine J_if_eq (tgt := 37) 21 dX5_act_21 (by decide) (fun c_2_ => absurd c_2_ (by decide)) (fun _ => ?_)
  refine J_aload_n 24 0 dX5_act_24 rfl rfl ?_
  refine J_aload_n 25 0 dX5_act_25 rfl rfl ?_
  refine g_205 (v := .ref sf) 26 0 rfl rfl dX5_act_26 ?_
  refine J_iload_n 29 1 dX5_act_29 rfl rfl ?_
  refine J_aldq (b := Fa) 30 12 4 s rfl rfl rfl (by omega) (by decide) hy dX5_act_30 ?_
  refine kb_RX5_292 (bs' := [wMe o (An 0) (Ak 0) (At 0) (Ad 0) kk tp rw rc sh sf de, wCt G An la ns sd to he sw nh ki te mi ar z, wDe de bo 0 pz dk nu dt, wI G bo 30 dbo, wQ G sf 4 4 sff, wSf Fa 1 (nI j) fso fsz]) (rest := []) (st' := [.int 1]) 31 (c_X5_holdsHearer_t l G j o An Ak At Ad kk tp rw rc sh sf de la ns sd to he sw nh ki te mi ar z Fa fso fsz (by first | omega | assumption) (by first | omega | assumption)) [0, 1, 5] 0 rfl rfl rfl [[o], [An 0, An 1, An 2, An 3, An 4, An 5, An 6, An 7, An 8], [Fa]] rfl rfl rfl rfl rfl rfl (Nat.le_of_ble_eq_true rfl) rfl dX5_act_31 ?_
  refine J_if_ne (tgt := 39) 34 dX5_act_34 (by decide) (fun _ => ?_) (fun c_3_ => absurd c_3_ (by decide))
  refine J_aload_n 39 0 dX5_act_39 rfl rfl ?_
  refine g_205 (v := .ref sf) 40 0 rfl rfl dX5_act_40 ?_
  refine J_iload_n 43 1 dX5_act_43 rfl rfl ?_
  refine J_aldq (b := Fa) 44 12 4 s rfl rfl rfl (by omega) (by decide) hy dX5_act_44 ?_
  refine g_154 (v := .int (nI j)) 45 13 rfl rfl dX5_act_45 ?_
  refine J_istore (lv' := [some (.ref o), some (.int (nI s)), some (.int 1), some (.int x), some (.int (nI j)), none]) 48 dX5_act_48 (by decide) rfl ?_
  refine J_aload_n 50 0 dX5_act_50 rfl rfl ?_
  refine g_206 (v := .ref de) 51 0 rfl rfl dX5_act_51 ?_
  refine J_aload_n 54 0 dX5_act_54 rfl rfl ?_
  refine g_196 (v := .ref (An 0)) 55 0 rfl rfl dX5_act_55 ?_
  refine g_56 (v := .ref (An 5)) 58 1 rfl rfl dX5_act_58 ?_
  refine J_iload 61 dX5_act_61 rfl ?_
  refine J_iald 63 6 j rfl rfl (by omega) (by decide) dX5_act_63 ?_
  refine J_topi (y := 1) 64 hk ?_
  refine J_iload 64 dX5_act_64 rfl ?_
  refine J_aload_n 66 0 dX5_act_66 rfl rfl ?_
  refine g_196 (v := .ref (An 0)) 67 0 rfl rfl dX5_act_67 ?_
  refine g_58 (v := .ref (An 6)) 70 1 rfl rfl dX5_act_70 ?_
  refine J_iload 73 dX5_act_73 rfl ?_
  refine J_iald 75 7 j rfl rfl (by omega) (by decide) dX5_act_75 ?_
  refine kb_RX5_305 (bs' := [wMe o (An 0) (Ak 0) (At 0) (Ad 0) kk tp rw rc sh sf de, wCt G An la ns sd to he sw nh ki te mi ar z, wDe de bo 0 0 1 (nI j) (te j), wI G bo 30 dbo, wQ G sf 4 4 sff, wSf Fa 1 (nI j) fso fsz]) (rest := []) (st' := []) 76 (c_X1_begin l G 1 (nI j) (te j) de bo 0 pz dk nu dt ) [2] 10 rfl rfl rfl [[de]] rfl rfl rfl rfl rfl rfl (Nat.le_of_ble_eq_true rfl) rfl dX5_act_76 ?_
  refine J_aload_n 79 0 dX5_act_79 rfl rfl ?_
  refine g_206 (v := .ref de) 80 0 rfl rfl dX5_act_80 ?_
  refine J_aload_n 83 0 dX5_act_83 rfl rfl ?_
  refine g_196 (v := .ref (An 0)) 84 0 rfl rfl dX5_act_84 ?_
  refine g_56 (v := .ref (An 5)) 87 1 rfl rfl dX5_act_87 ?_
  refine J_iload 90 dX5_act_90 rfl ?_
  refine J_iald 92 6 j rfl rfl (by omega) (by decide) dX5_act_92 ?_
  refine J_topi (y := 1) 93 hk ?_
  refine J_iload_n 93 2 dX5_act_93 rfl rfl ?_
  refine kb_RX5_308 (bs' := [wMe o (An 0) (Ak 0) (At 0) (Ad 0) kk tp rw rc sh sf de, wCt G An la ns sd to he sw nh ki te mi ar z, wDe de bo 0 0 1 (nI j) (te j), wI G bo 30 dbo, wQ G sf 4 4 sff, wSf Fa 1 (nI j) fso fsz]) (rest := [.ref de]) (st' := [.int 20, .ref de]) 94 (c_X1_bodyOf_1_1 l G  ) [] rfl rfl [] rfl rfl rfl rfl rfl rfl (Nat.le_of_ble_eq_true rfl) rfl dX5_act_94 ?_
  refine J_iload_n 97 3 dX5_act_97 rfl rfl ?_
  refine J_iconst (v := 0) 98 dX5_act_98 rfl ?_
  refine kb_RX5_311 (bs' := [wMe o (An 0) (Ak 0) (At 0) (Ad 0) kk tp rw rc sh sf de, wCt G An la ns sd to he sw nh ki te mi ar z, wDe de bo (0 + 3) 0 1 (nI j) (te j), wI G bo 30 (pF [20, 11, 10] dbo 0), wQ G sf 4 4 sff, wSf Fa 1 (nI j) fso fsz]) (rest := []) (st' := [.int (((x * 5 + (nI j)) - (te j)) * 2)]) 99 (c_runs_1_20 l G x 0 de bo 0 (nI j) (te j) dbo (by decide) (by decide)) [2, 3] rfl rfl [[de], [bo]] rfl rfl rfl rfl rfl rfl (Nat.le_of_ble_eq_true rfl) rfl dX5_act_99 ?_
  refine J_istore (lv' := [some (.ref o), some (.int (nI s)), some (.int 1), some (.int x), some (.int (nI j)), some (.int (((x * 5 + (nI j)) - (te j)) * 2))]) 102 dX5_act_102 (by decide) rfl ?_
  refine J_aload_n 104 0 dX5_act_104 rfl rfl ?_
  refine g_206 (v := .ref de) 105 0 rfl rfl dX5_act_105 ?_
  refine g_179 (v := .int 0) 108 10 rfl rfl dX5_act_108 ?_
  refine J_if_eq (tgt := 119) 111 dX5_act_111 (by decide) (fun _ => ?_) (fun c_4_ => absurd c_4_ (by decide))
  refine J_iload 119 dX5_act_119 rfl ?_
  exact J_iret 121 dX5_act_121 rfl (cg1 (fun (x0_ : Nat) => (wF [wMe o (An 0) (Ak 0) (At 0) (Ad 0) kk tp rw rc sh sf de, wCt G An la ns sd to he sw nh ki te mi ar z, wDe de bo x0_ 0 1 (nI j) (te j), wI G bo 30 (pF [20, 11, 10] dbo 0), wQ G sf 4 4 sff, wSf Fa 1 (nI j) fso fsz])) (0 + 3) 3 rfl)
set_option maxRecDepth 100000 in
set_option maxHeartbeats 4000000 in
theorem c_X5_act_1_2 (l : Launch) (G : Gd) (s : Nat) (x : Int32) (Fa : Nat) (j : Nat) (o : Nat) (An : Nat → Nat) (Ak : Nat → Nat) (At : Nat → Nat) (Ad : Nat → Nat) (kk : Int32) (tp : Nat) (rw : Nat) (rc : Nat) (sh : Nat) (sf : Nat) (de : Nat) (la : Nat → Int32) (ns : Nat) (sd : Nat) (to : Nat → Int32) (he : Nat → Int32) (sw : Nat → Int32) (nh : Nat) (ki : Nat → Int32) (te : Nat → Int32) (mi : Nat → Int32) (ar : Nat → Int32) (z : Int32) (bo : Nat) (ct : Nat) (pz : Int32) (dk : Int32) (nu : Int32) (dt : Int32) (dbo : Nat → Int32) (sff : Nat → Option Nat) (fso : Int32) (fsz : Int32) (hs : s ≤ 3) (hy : sff s = some Fa) (hj : j < nh) (hnh : nh ≤ 8) (hk : ki j = 1) (hz : ¬ (te j) - (nI j) = 0) : Ct l G yX5_act cX5_act 6 (some (FieldType.int)) 8 [.ref o, .int (nI s), .int 2, .int x] (wF [wMe o (An 0) (Ak 0) (At 0) (Ad 0) kk tp rw rc sh sf de, wCt G An la ns sd to he sw nh ki te mi ar z, wDe de bo ct pz dk nu dt, wI G bo 30 dbo, wQ G sf 4 4 sff, wSf Fa 1 (nI j) fso fsz]) (some (.int (x / ((te j) - (nI j))))) (wF [wMe o (An 0) (Ak 0) (At 0) (Ad 0) kk tp rw rc sh sf de, wCt G An la ns sd to he sw nh ki te mi ar z, wDe de bo 1 0 1 (nI j) (te j), wI G bo 30 (pF [12] dbo 0), wQ G sf 4 4 sff, wSf Fa 1 (nI j) fso fsz]) := by
  refine Ct.of "GooseArms" [some (.ref o), some (.int (nI s)), some (.int 2), some (.int x), none, none] (by decide +kernel) rfl (Nat.le_of_ble_eq_true rfl) rfl ?_
  refine J_aload_n 0 0 dX5_act_0 rfl rfl ?_
  refine g_206 (v := .ref de) 1 0 rfl rfl dX5_act_1 ?_
  refine J_iconst (v := 0) 4 dX5_act_4 rfl ?_
  refine p_177 (ws' := (wF [wMe o (An 0) (Ak 0) (At 0) (Ad 0) kk tp rw rc sh sf de, wCt G An la ns sd to he sw nh ki te mi ar z, wDe de bo 0 pz dk nu dt, wI G bo 30 dbo, wQ G sf 4 4 sff, wSf Fa 1 (nI j) fso fsz])) 5 10 rfl rfl rfl (Nat.le_of_ble_eq_true rfl) rfl dX5_act_5 ?_
  refine J_iload_n 8 1 dX5_act_8 rfl rfl ?_
  refine kb_RX5_219 (bs' := [wMe o (An 0) (Ak 0) (At 0) (Ad 0) kk tp rw rc sh sf de, wCt G An la ns sd to he sw nh ki te mi ar z, wDe de bo 0 pz dk nu dt, wI G bo 30 dbo, wQ G sf 4 4 sff, wSf Fa 1 (nI j) fso fsz]) (rest := []) (st' := [.int 1]) 9 (c_X5_isPlace_t l G s (by first | omega | assumption)) [] rfl rfl [] rfl rfl rfl rfl rfl rfl (Nat.le_of_ble_eq_true rfl) rfl dX5_act_9 ?_
  refine J_if_eq (tgt := 37) 12 dX5_act_12 (by decide) (fun c_1_ => absurd c_1_ (by decide)) (fun _ => ?_)
  refine J_iload_n 15 2 dX5_act_15 rfl rfl ?_
  refine J_iconst (v := 0) 16 dX5_act_16 rfl ?_
  refine J_iconst (v := 3) 17 dX5_act_17 rfl ?_
  refine kb_RX5_65 (bs' := [wMe o (An 0) (Ak 0) (At 0) (Ad 0) kk tp rw rc sh sf de, wCt G An la ns sd to he sw nh ki te mi ar z, wDe de bo 0 pz dk nu dt, wI G bo 30 dbo, wQ G sf 4 4 sff, wSf Fa 1 (nI j) fso fsz]) (rest := []) (st' := [.int 1]) 18 (c_X5_within_t l G 2 0 3 (by decide)) [] rfl rfl [] rfl rfl rfl rfl rfl rfl (Nat.le_of_ble_eq_true rfl) rfl dX5_act_18 ?_
  refine J_if_eq (tgt := 37) 21 dX5_act_21 (by decide) (fun c_2_ => absurd c_2_ (by decide)) (fun _ => ?_)
  refine J_aload_n 24 0 dX5_act_24 rfl rfl ?_
  refine J_aload_n 25 0 dX5_act_25 rfl rfl ?_
  refine g_205 (v := .ref sf) 26 0 rfl rfl dX5_act_26 ?_
  refine J_iload_n 29 1 dX5_act_29 rfl rfl ?_
  refine J_aldq (b := Fa) 30 12 4 s rfl rfl rfl (by omega) (by decide) hy dX5_act_30 ?_
  refine kb_RX5_292 (bs' := [wMe o (An 0) (Ak 0) (At 0) (Ad 0) kk tp rw rc sh sf de, wCt G An la ns sd to he sw nh ki te mi ar z, wDe de bo 0 pz dk nu dt, wI G bo 30 dbo, wQ G sf 4 4 sff, wSf Fa 1 (nI j) fso fsz]) (rest := []) (st' := [.int 1]) 31 (c_X5_holdsHearer_t l G j o An Ak At Ad kk tp rw rc sh sf de la ns sd to he sw nh ki te mi ar z Fa fso fsz (by first | omega | assumption) (by first | omega | assumption)) [0, 1, 5] 0 rfl rfl rfl [[o], [An 0, An 1, An 2, An 3, An 4, An 5, An 6, An 7, An 8], [Fa]] rfl rfl rfl rfl rfl rfl (Nat.le_of_ble_eq_true rfl) rfl dX5_act_31 ?_
  refine J_if_ne (tgt := 39) 34 dX5_act_34 (by decide) (fun _ => ?_) (fun c_3_ => absurd c_3_ (by decide))
  refine J_aload_n 39 0 dX5_act_39 rfl rfl ?_
  refine g_205 (v := .ref sf) 40 0 rfl rfl dX5_act_40 ?_
  refine J_iload_n 43 1 dX5_act_43 rfl rfl ?_
  refine J_aldq (b := Fa) 44 12 4 s rfl rfl rfl (by omega) (by decide) hy dX5_act_44 ?_
  refine g_154 (v := .int (nI j)) 45 13 rfl rfl dX5_act_45 ?_
  refine J_istore (lv' := [some (.ref o), some (.int (nI s)), some (.int 2), some (.int x), some (.int (nI j)), none]) 48 dX5_act_48 (by decide) rfl ?_
  refine J_aload_n 50 0 dX5_act_50 rfl rfl ?_
  refine g_206 (v := .ref de) 51 0 rfl rfl dX5_act_51 ?_
  refine J_aload_n 54 0 dX5_act_54 rfl rfl ?_
  refine g_196 (v := .ref (An 0)) 55 0 rfl rfl dX5_act_55 ?_
  refine g_56 (v := .ref (An 5)) 58 1 rfl rfl dX5_act_58 ?_
  refine J_iload 61 dX5_act_61 rfl ?_
  refine J_iald 63 6 j rfl rfl (by omega) (by decide) dX5_act_63 ?_
  refine J_topi (y := 1) 64 hk ?_
  refine J_iload 64 dX5_act_64 rfl ?_
  refine J_aload_n 66 0 dX5_act_66 rfl rfl ?_
  refine g_196 (v := .ref (An 0)) 67 0 rfl rfl dX5_act_67 ?_
  refine g_58 (v := .ref (An 6)) 70 1 rfl rfl dX5_act_70 ?_
  refine J_iload 73 dX5_act_73 rfl ?_
  refine J_iald 75 7 j rfl rfl (by omega) (by decide) dX5_act_75 ?_
  refine kb_RX5_305 (bs' := [wMe o (An 0) (Ak 0) (At 0) (Ad 0) kk tp rw rc sh sf de, wCt G An la ns sd to he sw nh ki te mi ar z, wDe de bo 0 0 1 (nI j) (te j), wI G bo 30 dbo, wQ G sf 4 4 sff, wSf Fa 1 (nI j) fso fsz]) (rest := []) (st' := []) 76 (c_X1_begin l G 1 (nI j) (te j) de bo 0 pz dk nu dt ) [2] 10 rfl rfl rfl [[de]] rfl rfl rfl rfl rfl rfl (Nat.le_of_ble_eq_true rfl) rfl dX5_act_76 ?_
  refine J_aload_n 79 0 dX5_act_79 rfl rfl ?_
  refine g_206 (v := .ref de) 80 0 rfl rfl dX5_act_80 ?_
  refine J_aload_n 83 0 dX5_act_83 rfl rfl ?_
  refine g_196 (v := .ref (An 0)) 84 0 rfl rfl dX5_act_84 ?_
  refine g_56 (v := .ref (An 5)) 87 1 rfl rfl dX5_act_87 ?_
  refine J_iload 90 dX5_act_90 rfl ?_
  refine J_iald 92 6 j rfl rfl (by omega) (by decide) dX5_act_92 ?_
  refine J_topi (y := 1) 93 hk ?_
  refine J_iload_n 93 2 dX5_act_93 rfl rfl ?_
  refine kb_RX5_308 (bs' := [wMe o (An 0) (Ak 0) (At 0) (Ad 0) kk tp rw rc sh sf de, wCt G An la ns sd to he sw nh ki te mi ar z, wDe de bo 0 0 1 (nI j) (te j), wI G bo 30 dbo, wQ G sf 4 4 sff, wSf Fa 1 (nI j) fso fsz]) (rest := [.ref de]) (st' := [.int 12, .ref de]) 94 (c_X1_bodyOf_1_2 l G  ) [] rfl rfl [] rfl rfl rfl rfl rfl rfl (Nat.le_of_ble_eq_true rfl) rfl dX5_act_94 ?_
  refine J_iload_n 97 3 dX5_act_97 rfl rfl ?_
  refine J_iconst (v := 0) 98 dX5_act_98 rfl ?_
  refine kb_RX5_311 (bs' := [wMe o (An 0) (Ak 0) (At 0) (Ad 0) kk tp rw rc sh sf de, wCt G An la ns sd to he sw nh ki te mi ar z, wDe de bo (0 + 1) 0 1 (nI j) (te j), wI G bo 30 (pF [12] dbo 0), wQ G sf 4 4 sff, wSf Fa 1 (nI j) fso fsz]) (rest := []) (st' := [.int (x / ((te j) - (nI j)))]) 99 (c_runs_1_12 l G x 0 de bo 0 (nI j) (te j) dbo (by decide) (by decide) hz) [2, 3] rfl rfl [[de], [bo]] rfl rfl rfl rfl rfl rfl (Nat.le_of_ble_eq_true rfl) rfl dX5_act_99 ?_
  refine J_istore (lv' := [some (.ref o), some (.int (nI s)), some (.int 2), some (.int x), some (.int (nI j)), some (.int (x / ((te j) - (nI j))))]) 102 dX5_act_102 (by decide) rfl ?_
  refine J_aload_n 104 0 dX5_act_104 rfl rfl ?_
  refine g_206 (v := .ref de) 105 0 rfl rfl dX5_act_105 ?_
  refine g_179 (v := .int 0) 108 10 rfl rfl dX5_act_108 ?_
  refine J_if_eq (tgt := 119) 111 dX5_act_111 (by decide) (fun _ => ?_) (fun c_4_ => absurd c_4_ (by decide))
  refine J_iload 119 dX5_act_119 rfl ?_
  exact J_iret 121 dX5_act_121 rfl (cg1 (fun (x0_ : Nat) => (wF [wMe o (An 0) (Ak 0) (At 0) (Ad 0) kk tp rw rc sh sf de, wCt G An la ns sd to he sw nh ki te mi ar z, wDe de bo x0_ 0 1 (nI j) (te j), wI G bo 30 (pF [12] dbo 0), wQ G sf 4 4 sff, wSf Fa 1 (nI j) fso fsz])) (0 + 1) 1 rfl)
set_option maxRecDepth 100000 in
set_option maxHeartbeats 4000000 in
theorem c_X5_act_1_2z (l : Launch) (G : Gd) (s : Nat) (x : Int32) (Fa : Nat) (j : Nat) (o : Nat) (An : Nat → Nat) (Ak : Nat → Nat) (At : Nat → Nat) (Ad : Nat → Nat) (kk : Int32) (tp : Nat) (rw : Nat) (rc : Nat) (sh : Nat) (sf : Nat) (de : Nat) (la : Nat → Int32) (ns : Nat) (sd : Nat) (to : Nat → Int32) (he : Nat → Int32) (sw : Nat → Int32) (nh : Nat) (ki : Nat → Int32) (te : Nat → Int32) (mi : Nat → Int32) (ar : Nat → Int32) (z : Int32) (bo : Nat) (ct : Nat) (pz : Int32) (dk : Int32) (nu : Int32) (dt : Int32) (dbo : Nat → Int32) (sff : Nat → Option Nat) (fso : Int32) (fsz : Int32) (hs : s ≤ 3) (hy : sff s = some Fa) (hj : j < nh) (hnh : nh ≤ 8) (hk : ki j = 1) (hz : (te j) - (nI j) = 0) : Ct l G yX5_act cX5_act 6 (some (FieldType.int)) 8 [.ref o, .int (nI s), .int 2, .int x] (wF [wMe o (An 0) (Ak 0) (At 0) (Ad 0) kk tp rw rc sh sf de, wCt G An la ns sd to he sw nh ki te mi ar z, wDe de bo ct pz dk nu dt, wI G bo 30 dbo, wQ G sf 4 4 sff, wSf Fa 1 (nI j) fso fsz]) (some (.int (-15))) (wF [wMe o (An 0) (Ak 0) (At 0) (Ad 0) kk tp rw rc sh sf de, wCt G An la ns sd to he sw nh ki te mi ar z, wDe de bo 1 1 1 (nI j) (te j), wI G bo 30 (pF [12] dbo 0), wQ G sf 4 4 sff, wSf Fa 1 (nI j) fso fsz]) := by
  refine Ct.of "GooseArms" [some (.ref o), some (.int (nI s)), some (.int 2), some (.int x), none, none] (by decide +kernel) rfl (Nat.le_of_ble_eq_true rfl) rfl ?_
  refine J_aload_n 0 0 dX5_act_0 rfl rfl ?_
  refine g_206 (v := .ref de) 1 0 rfl rfl dX5_act_1 ?_
  refine J_iconst (v := 0) 4 dX5_act_4 rfl ?_
  refine p_177 (ws' := (wF [wMe o (An 0) (Ak 0) (At 0) (Ad 0) kk tp rw rc sh sf de, wCt G An la ns sd to he sw nh ki te mi ar z, wDe de bo 0 pz dk nu dt, wI G bo 30 dbo, wQ G sf 4 4 sff, wSf Fa 1 (nI j) fso fsz])) 5 10 rfl rfl rfl (Nat.le_of_ble_eq_true rfl) rfl dX5_act_5 ?_
  refine J_iload_n 8 1 dX5_act_8 rfl rfl ?_
  refine kb_RX5_219 (bs' := [wMe o (An 0) (Ak 0) (At 0) (Ad 0) kk tp rw rc sh sf de, wCt G An la ns sd to he sw nh ki te mi ar z, wDe de bo 0 pz dk nu dt, wI G bo 30 dbo, wQ G sf 4 4 sff, wSf Fa 1 (nI j) fso fsz]) (rest := []) (st' := [.int 1]) 9 (c_X5_isPlace_t l G s (by first | omega | assumption)) [] rfl rfl [] rfl rfl rfl rfl rfl rfl (Nat.le_of_ble_eq_true rfl) rfl dX5_act_9 ?_
  refine J_if_eq (tgt := 37) 12 dX5_act_12 (by decide) (fun c_1_ => absurd c_1_ (by decide)) (fun _ => ?_)
  refine J_iload_n 15 2 dX5_act_15 rfl rfl ?_
  refine J_iconst (v := 0) 16 dX5_act_16 rfl ?_
  refine J_iconst (v := 3) 17 dX5_act_17 rfl ?_
  refine kb_RX5_65 (bs' := [wMe o (An 0) (Ak 0) (At 0) (Ad 0) kk tp rw rc sh sf de, wCt G An la ns sd to he sw nh ki te mi ar z, wDe de bo 0 pz dk nu dt, wI G bo 30 dbo, wQ G sf 4 4 sff, wSf Fa 1 (nI j) fso fsz]) (rest := []) (st' := [.int 1]) 18 (c_X5_within_t l G 2 0 3 (by decide)) [] rfl rfl [] rfl rfl rfl rfl rfl rfl (Nat.le_of_ble_eq_true rfl) rfl dX5_act_18 ?_
  refine J_if_eq (tgt := 37) 21 dX5_act_21 (by decide) (fun c_2_ => absurd c_2_ (by decide)) (fun _ => ?_)
  refine J_aload_n 24 0 dX5_act_24 rfl rfl ?_
  refine J_aload_n 25 0 dX5_act_25 rfl rfl ?_
  refine g_205 (v := .ref sf) 26 0 rfl rfl dX5_act_26 ?_
  refine J_iload_n 29 1 dX5_act_29 rfl rfl ?_
  refine J_aldq (b := Fa) 30 12 4 s rfl rfl rfl (by omega) (by decide) hy dX5_act_30 ?_
  refine kb_RX5_292 (bs' := [wMe o (An 0) (Ak 0) (At 0) (Ad 0) kk tp rw rc sh sf de, wCt G An la ns sd to he sw nh ki te mi ar z, wDe de bo 0 pz dk nu dt, wI G bo 30 dbo, wQ G sf 4 4 sff, wSf Fa 1 (nI j) fso fsz]) (rest := []) (st' := [.int 1]) 31 (c_X5_holdsHearer_t l G j o An Ak At Ad kk tp rw rc sh sf de la ns sd to he sw nh ki te mi ar z Fa fso fsz (by first | omega | assumption) (by first | omega | assumption)) [0, 1, 5] 0 rfl rfl rfl [[o], [An 0, An 1, An 2, An 3, An 4, An 5, An 6, An 7, An 8], [Fa]] rfl rfl rfl rfl rfl rfl (Nat.le_of_ble_eq_true rfl) rfl dX5_act_31 ?_
  refine J_if_ne (tgt := 39) 34 dX5_act_34 (by decide) (fun _ => ?_) (fun c_3_ => absurd c_3_ (by decide))
  refine J_aload_n 39 0 dX5_act_39 rfl rfl ?_
  refine g_205 (v := .ref sf) 40 0 rfl rfl dX5_act_40 ?_
  refine J_iload_n 43 1 dX5_act_43 rfl rfl ?_
  refine J_aldq (b := Fa) 44 12 4 s rfl rfl rfl (by omega) (by decide) hy dX5_act_44 ?_
  refine g_154 (v := .int (nI j)) 45 13 rfl rfl dX5_act_45 ?_
  refine J_istore (lv' := [some (.ref o), some (.int (nI s)), some (.int 2), some (.int x), some (.int (nI j)), none]) 48 dX5_act_48 (by decide) rfl ?_
  refine J_aload_n 50 0 dX5_act_50 rfl rfl ?_
  refine g_206 (v := .ref de) 51 0 rfl rfl dX5_act_51 ?_
  refine J_aload_n 54 0 dX5_act_54 rfl rfl ?_
  refine g_196 (v := .ref (An 0)) 55 0 rfl rfl dX5_act_55 ?_
  refine g_56 (v := .ref (An 5)) 58 1 rfl rfl dX5_act_58 ?_
  refine J_iload 61 dX5_act_61 rfl ?_
  refine J_iald 63 6 j rfl rfl (by omega) (by decide) dX5_act_63 ?_
  refine J_topi (y := 1) 64 hk ?_
  refine J_iload 64 dX5_act_64 rfl ?_
  refine J_aload_n 66 0 dX5_act_66 rfl rfl ?_
  refine g_196 (v := .ref (An 0)) 67 0 rfl rfl dX5_act_67 ?_
  refine g_58 (v := .ref (An 6)) 70 1 rfl rfl dX5_act_70 ?_
  refine J_iload 73 dX5_act_73 rfl ?_
  refine J_iald 75 7 j rfl rfl (by omega) (by decide) dX5_act_75 ?_
  refine kb_RX5_305 (bs' := [wMe o (An 0) (Ak 0) (At 0) (Ad 0) kk tp rw rc sh sf de, wCt G An la ns sd to he sw nh ki te mi ar z, wDe de bo 0 0 1 (nI j) (te j), wI G bo 30 dbo, wQ G sf 4 4 sff, wSf Fa 1 (nI j) fso fsz]) (rest := []) (st' := []) 76 (c_X1_begin l G 1 (nI j) (te j) de bo 0 pz dk nu dt ) [2] 10 rfl rfl rfl [[de]] rfl rfl rfl rfl rfl rfl (Nat.le_of_ble_eq_true rfl) rfl dX5_act_76 ?_
  refine J_aload_n 79 0 dX5_act_79 rfl rfl ?_
  refine g_206 (v := .ref de) 80 0 rfl rfl dX5_act_80 ?_
  refine J_aload_n 83 0 dX5_act_83 rfl rfl ?_
  refine g_196 (v := .ref (An 0)) 84 0 rfl rfl dX5_act_84 ?_
  refine g_56 (v := .ref (An 5)) 87 1 rfl rfl dX5_act_87 ?_
  refine J_iload 90 dX5_act_90 rfl ?_
  refine J_iald 92 6 j rfl rfl (by omega) (by decide) dX5_act_92 ?_
  refine J_topi (y := 1) 93 hk ?_
  refine J_iload_n 93 2 dX5_act_93 rfl rfl ?_
  refine kb_RX5_308 (bs' := [wMe o (An 0) (Ak 0) (At 0) (Ad 0) kk tp rw rc sh sf de, wCt G An la ns sd to he sw nh ki te mi ar z, wDe de bo 0 0 1 (nI j) (te j), wI G bo 30 dbo, wQ G sf 4 4 sff, wSf Fa 1 (nI j) fso fsz]) (rest := [.ref de]) (st' := [.int 12, .ref de]) 94 (c_X1_bodyOf_1_2 l G  ) [] rfl rfl [] rfl rfl rfl rfl rfl rfl (Nat.le_of_ble_eq_true rfl) rfl dX5_act_94 ?_
  refine J_iload_n 97 3 dX5_act_97 rfl rfl ?_
  refine J_iconst (v := 0) 98 dX5_act_98 rfl ?_
  refine kb_RX5_311 (bs' := [wMe o (An 0) (Ak 0) (At 0) (Ad 0) kk tp rw rc sh sf de, wCt G An la ns sd to he sw nh ki te mi ar z, wDe de bo (0 + 1) 1 1 (nI j) (te j), wI G bo 30 (pF [12] dbo 0), wQ G sf 4 4 sff, wSf Fa 1 (nI j) fso fsz]) (rest := []) (st' := [.int 0]) 99 (c_runs_1_12z l G x 0 de bo 0 (nI j) (te j) dbo (by decide) (by decide) hz) [2, 3] rfl rfl [[de], [bo]] rfl rfl rfl rfl rfl rfl (Nat.le_of_ble_eq_true rfl) rfl dX5_act_99 ?_
  refine J_istore (lv' := [some (.ref o), some (.int (nI s)), some (.int 2), some (.int x), some (.int (nI j)), some (.int 0)]) 102 dX5_act_102 (by decide) rfl ?_
  refine J_aload_n 104 0 dX5_act_104 rfl rfl ?_
  refine g_206 (v := .ref de) 105 0 rfl rfl dX5_act_105 ?_
  refine g_179 (v := .int 1) 108 10 rfl rfl dX5_act_108 ?_
  refine J_if_eq (tgt := 119) 111 dX5_act_111 (by decide) (fun c_4_ => absurd c_4_ (by decide)) (fun _ => ?_)
  refine J_bipush (v := (-15)) 114 dX5_act_114 rfl ?_
  refine J_goto (tgt := 121) 116 dX5_act_116 (by decide) ?_
  exact J_iret 121 dX5_act_121 rfl (cg1 (fun (x0_ : Nat) => (wF [wMe o (An 0) (Ak 0) (At 0) (Ad 0) kk tp rw rc sh sf de, wCt G An la ns sd to he sw nh ki te mi ar z, wDe de bo x0_ 1 1 (nI j) (te j), wI G bo 30 (pF [12] dbo 0), wQ G sf 4 4 sff, wSf Fa 1 (nI j) fso fsz])) (0 + 1) 1 rfl)
set_option maxRecDepth 100000 in
set_option maxHeartbeats 4000000 in
theorem c_X5_act_1_3 (l : Launch) (G : Gd) (s : Nat) (x : Int32) (Fa : Nat) (j : Nat) (o : Nat) (An : Nat → Nat) (Ak : Nat → Nat) (At : Nat → Nat) (Ad : Nat → Nat) (kk : Int32) (tp : Nat) (rw : Nat) (rc : Nat) (sh : Nat) (sf : Nat) (de : Nat) (la : Nat → Int32) (ns : Nat) (sd : Nat) (to : Nat → Int32) (he : Nat → Int32) (sw : Nat → Int32) (nh : Nat) (ki : Nat → Int32) (te : Nat → Int32) (mi : Nat → Int32) (ar : Nat → Int32) (z : Int32) (bo : Nat) (ct : Nat) (pz : Int32) (dk : Int32) (nu : Int32) (dt : Int32) (dbo : Nat → Int32) (sff : Nat → Option Nat) (fso : Int32) (fsz : Int32) (hs : s ≤ 3) (hy : sff s = some Fa) (hj : j < nh) (hnh : nh ≤ 8) (hk : ki j = 1) : Ct l G yX5_act cX5_act 6 (some (FieldType.int)) 8 [.ref o, .int (nI s), .int 3, .int x] (wF [wMe o (An 0) (Ak 0) (At 0) (Ad 0) kk tp rw rc sh sf de, wCt G An la ns sd to he sw nh ki te mi ar z, wDe de bo ct pz dk nu dt, wI G bo 30 dbo, wQ G sf 4 4 sff, wSf Fa 1 (nI j) fso fsz]) (some (.int ((((x * 5 + (nI j)) - (te j)) * 2) ^^^ 150))) (wF [wMe o (An 0) (Ak 0) (At 0) (Ad 0) kk tp rw rc sh sf de, wCt G An la ns sd to he sw nh ki te mi ar z, wDe de bo 4 0 1 (nI j) (te j), wI G bo 30 (pF [13, 20, 11, 10] dbo 0), wQ G sf 4 4 sff, wSf Fa 1 (nI j) fso fsz]) := by
  refine Ct.of "GooseArms" [some (.ref o), some (.int (nI s)), some (.int 3), some (.int x), none, none] (by decide +kernel) rfl (Nat.le_of_ble_eq_true rfl) rfl ?_
  refine J_aload_n 0 0 dX5_act_0 rfl rfl ?_
  refine g_206 (v := .ref de) 1 0 rfl rfl dX5_act_1 ?_
  refine J_iconst (v := 0) 4 dX5_act_4 rfl ?_
  refine p_177 (ws' := (wF [wMe o (An 0) (Ak 0) (At 0) (Ad 0) kk tp rw rc sh sf de, wCt G An la ns sd to he sw nh ki te mi ar z, wDe de bo 0 pz dk nu dt, wI G bo 30 dbo, wQ G sf 4 4 sff, wSf Fa 1 (nI j) fso fsz])) 5 10 rfl rfl rfl (Nat.le_of_ble_eq_true rfl) rfl dX5_act_5 ?_
  refine J_iload_n 8 1 dX5_act_8 rfl rfl ?_
  refine kb_RX5_219 (bs' := [wMe o (An 0) (Ak 0) (At 0) (Ad 0) kk tp rw rc sh sf de, wCt G An la ns sd to he sw nh ki te mi ar z, wDe de bo 0 pz dk nu dt, wI G bo 30 dbo, wQ G sf 4 4 sff, wSf Fa 1 (nI j) fso fsz]) (rest := []) (st' := [.int 1]) 9 (c_X5_isPlace_t l G s (by first | omega | assumption)) [] rfl rfl [] rfl rfl rfl rfl rfl rfl (Nat.le_of_ble_eq_true rfl) rfl dX5_act_9 ?_
  refine J_if_eq (tgt := 37) 12 dX5_act_12 (by decide) (fun c_1_ => absurd c_1_ (by decide)) (fun _ => ?_)
  refine J_iload_n 15 2 dX5_act_15 rfl rfl ?_
  refine J_iconst (v := 0) 16 dX5_act_16 rfl ?_
  refine J_iconst (v := 3) 17 dX5_act_17 rfl ?_
  refine kb_RX5_65 (bs' := [wMe o (An 0) (Ak 0) (At 0) (Ad 0) kk tp rw rc sh sf de, wCt G An la ns sd to he sw nh ki te mi ar z, wDe de bo 0 pz dk nu dt, wI G bo 30 dbo, wQ G sf 4 4 sff, wSf Fa 1 (nI j) fso fsz]) (rest := []) (st' := [.int 1]) 18 (c_X5_within_t l G 3 0 3 (by decide)) [] rfl rfl [] rfl rfl rfl rfl rfl rfl (Nat.le_of_ble_eq_true rfl) rfl dX5_act_18 ?_
  refine J_if_eq (tgt := 37) 21 dX5_act_21 (by decide) (fun c_2_ => absurd c_2_ (by decide)) (fun _ => ?_)
  refine J_aload_n 24 0 dX5_act_24 rfl rfl ?_
  refine J_aload_n 25 0 dX5_act_25 rfl rfl ?_
  refine g_205 (v := .ref sf) 26 0 rfl rfl dX5_act_26 ?_
  refine J_iload_n 29 1 dX5_act_29 rfl rfl ?_
  refine J_aldq (b := Fa) 30 12 4 s rfl rfl rfl (by omega) (by decide) hy dX5_act_30 ?_
  refine kb_RX5_292 (bs' := [wMe o (An 0) (Ak 0) (At 0) (Ad 0) kk tp rw rc sh sf de, wCt G An la ns sd to he sw nh ki te mi ar z, wDe de bo 0 pz dk nu dt, wI G bo 30 dbo, wQ G sf 4 4 sff, wSf Fa 1 (nI j) fso fsz]) (rest := []) (st' := [.int 1]) 31 (c_X5_holdsHearer_t l G j o An Ak At Ad kk tp rw rc sh sf de la ns sd to he sw nh ki te mi ar z Fa fso fsz (by first | omega | assumption) (by first | omega | assumption)) [0, 1, 5] 0 rfl rfl rfl [[o], [An 0, An 1, An 2, An 3, An 4, An 5, An 6, An 7, An 8], [Fa]] rfl rfl rfl rfl rfl rfl (Nat.le_of_ble_eq_true rfl) rfl dX5_act_31 ?_
  refine J_if_ne (tgt := 39) 34 dX5_act_34 (by decide) (fun _ => ?_) (fun c_3_ => absurd c_3_ (by decide))
  refine J_aload_n 39 0 dX5_act_39 rfl rfl ?_
  refine g_205 (v := .ref sf) 40 0 rfl rfl dX5_act_40 ?_
  refine J_iload_n 43 1 dX5_act_43 rfl rfl ?_
  refine J_aldq (b := Fa) 44 12 4 s rfl rfl rfl (by omega) (by decide) hy dX5_act_44 ?_
  refine g_154 (v := .int (nI j)) 45 13 rfl rfl dX5_act_45 ?_
  refine J_istore (lv' := [some (.ref o), some (.int (nI s)), some (.int 3), some (.int x), some (.int (nI j)), none]) 48 dX5_act_48 (by decide) rfl ?_
  refine J_aload_n 50 0 dX5_act_50 rfl rfl ?_
  refine g_206 (v := .ref de) 51 0 rfl rfl dX5_act_51 ?_
  refine J_aload_n 54 0 dX5_act_54 rfl rfl ?_
  refine g_196 (v := .ref (An 0)) 55 0 rfl rfl dX5_act_55 ?_
  refine g_56 (v := .ref (An 5)) 58 1 rfl rfl dX5_act_58 ?_
  refine J_iload 61 dX5_act_61 rfl ?_
  refine J_iald 63 6 j rfl rfl (by omega) (by decide) dX5_act_63 ?_
  refine J_topi (y := 1) 64 hk ?_
  refine J_iload 64 dX5_act_64 rfl ?_
  refine J_aload_n 66 0 dX5_act_66 rfl rfl ?_
  refine g_196 (v := .ref (An 0)) 67 0 rfl rfl dX5_act_67 ?_
  refine g_58 (v := .ref (An 6)) 70 1 rfl rfl dX5_act_70 ?_
  refine J_iload 73 dX5_act_73 rfl ?_
  refine J_iald 75 7 j rfl rfl (by omega) (by decide) dX5_act_75 ?_
  refine kb_RX5_305 (bs' := [wMe o (An 0) (Ak 0) (At 0) (Ad 0) kk tp rw rc sh sf de, wCt G An la ns sd to he sw nh ki te mi ar z, wDe de bo 0 0 1 (nI j) (te j), wI G bo 30 dbo, wQ G sf 4 4 sff, wSf Fa 1 (nI j) fso fsz]) (rest := []) (st' := []) 76 (c_X1_begin l G 1 (nI j) (te j) de bo 0 pz dk nu dt ) [2] 10 rfl rfl rfl [[de]] rfl rfl rfl rfl rfl rfl (Nat.le_of_ble_eq_true rfl) rfl dX5_act_76 ?_
  refine J_aload_n 79 0 dX5_act_79 rfl rfl ?_
  refine g_206 (v := .ref de) 80 0 rfl rfl dX5_act_80 ?_
  refine J_aload_n 83 0 dX5_act_83 rfl rfl ?_
  refine g_196 (v := .ref (An 0)) 84 0 rfl rfl dX5_act_84 ?_
  refine g_56 (v := .ref (An 5)) 87 1 rfl rfl dX5_act_87 ?_
  refine J_iload 90 dX5_act_90 rfl ?_
  refine J_iald 92 6 j rfl rfl (by omega) (by decide) dX5_act_92 ?_
  refine J_topi (y := 1) 93 hk ?_
  refine J_iload_n 93 2 dX5_act_93 rfl rfl ?_
  refine kb_RX5_308 (bs' := [wMe o (An 0) (Ak 0) (At 0) (Ad 0) kk tp rw rc sh sf de, wCt G An la ns sd to he sw nh ki te mi ar z, wDe de bo 0 0 1 (nI j) (te j), wI G bo 30 dbo, wQ G sf 4 4 sff, wSf Fa 1 (nI j) fso fsz]) (rest := [.ref de]) (st' := [.int 13, .ref de]) 94 (c_X1_bodyOf_1_3 l G  ) [] rfl rfl [] rfl rfl rfl rfl rfl rfl (Nat.le_of_ble_eq_true rfl) rfl dX5_act_94 ?_
  refine J_iload_n 97 3 dX5_act_97 rfl rfl ?_
  refine J_iconst (v := 0) 98 dX5_act_98 rfl ?_
  refine kb_RX5_311 (bs' := [wMe o (An 0) (Ak 0) (At 0) (Ad 0) kk tp rw rc sh sf de, wCt G An la ns sd to he sw nh ki te mi ar z, wDe de bo (0 + 4) 0 1 (nI j) (te j), wI G bo 30 (pF [13, 20, 11, 10] dbo 0), wQ G sf 4 4 sff, wSf Fa 1 (nI j) fso fsz]) (rest := []) (st' := [.int ((((x * 5 + (nI j)) - (te j)) * 2) ^^^ 150)]) 99 (c_runs_1_13 l G x 0 de bo 0 (nI j) (te j) dbo (by decide) (by decide)) [2, 3] rfl rfl [[de], [bo]] rfl rfl rfl rfl rfl rfl (Nat.le_of_ble_eq_true rfl) rfl dX5_act_99 ?_
  refine J_istore (lv' := [some (.ref o), some (.int (nI s)), some (.int 3), some (.int x), some (.int (nI j)), some (.int ((((x * 5 + (nI j)) - (te j)) * 2) ^^^ 150))]) 102 dX5_act_102 (by decide) rfl ?_
  refine J_aload_n 104 0 dX5_act_104 rfl rfl ?_
  refine g_206 (v := .ref de) 105 0 rfl rfl dX5_act_105 ?_
  refine g_179 (v := .int 0) 108 10 rfl rfl dX5_act_108 ?_
  refine J_if_eq (tgt := 119) 111 dX5_act_111 (by decide) (fun _ => ?_) (fun c_4_ => absurd c_4_ (by decide))
  refine J_iload 119 dX5_act_119 rfl ?_
  exact J_iret 121 dX5_act_121 rfl (cg1 (fun (x0_ : Nat) => (wF [wMe o (An 0) (Ak 0) (At 0) (Ad 0) kk tp rw rc sh sf de, wCt G An la ns sd to he sw nh ki te mi ar z, wDe de bo x0_ 0 1 (nI j) (te j), wI G bo 30 (pF [13, 20, 11, 10] dbo 0), wQ G sf 4 4 sff, wSf Fa 1 (nI j) fso fsz])) (0 + 4) 4 rfl)
set_option maxRecDepth 100000 in
set_option maxHeartbeats 4000000 in
theorem c_X5_act_2_0 (l : Launch) (G : Gd) (s : Nat) (x : Int32) (Fa : Nat) (j : Nat) (o : Nat) (An : Nat → Nat) (Ak : Nat → Nat) (At : Nat → Nat) (Ad : Nat → Nat) (kk : Int32) (tp : Nat) (rw : Nat) (rc : Nat) (sh : Nat) (sf : Nat) (de : Nat) (la : Nat → Int32) (ns : Nat) (sd : Nat) (to : Nat → Int32) (he : Nat → Int32) (sw : Nat → Int32) (nh : Nat) (ki : Nat → Int32) (te : Nat → Int32) (mi : Nat → Int32) (ar : Nat → Int32) (z : Int32) (bo : Nat) (ct : Nat) (pz : Int32) (dk : Int32) (nu : Int32) (dt : Int32) (dbo : Nat → Int32) (sff : Nat → Option Nat) (fso : Int32) (fsz : Int32) (hs : s ≤ 3) (hy : sff s = some Fa) (hj : j < nh) (hnh : nh ≤ 8) (hk : ki j = 2) : Ct l G yX5_act cX5_act 6 (some (FieldType.int)) 8 [.ref o, .int (nI s), .int 0, .int x] (wF [wMe o (An 0) (Ak 0) (At 0) (Ad 0) kk tp rw rc sh sf de, wCt G An la ns sd to he sw nh ki te mi ar z, wDe de bo ct pz dk nu dt, wI G bo 30 dbo, wQ G sf 4 4 sff, wSf Fa 1 (nI j) fso fsz]) (some (.int ((x * 5 + (nI j)) - 4))) (wF [wMe o (An 0) (Ak 0) (At 0) (Ad 0) kk tp rw rc sh sf de, wCt G An la ns sd to he sw nh ki te mi ar z, wDe de bo 2 0 2 (nI j) (te j), wI G bo 30 (pF [30, 10] dbo 0), wQ G sf 4 4 sff, wSf Fa 1 (nI j) fso fsz]) := by
  refine Ct.of "GooseArms" [some (.ref o), some (.int (nI s)), some (.int 0), some (.int x), none, none] (by decide +kernel) rfl (Nat.le_of_ble_eq_true rfl) rfl ?_
  refine J_aload_n 0 0 dX5_act_0 rfl rfl ?_
  refine g_206 (v := .ref de) 1 0 rfl rfl dX5_act_1 ?_
  refine J_iconst (v := 0) 4 dX5_act_4 rfl ?_
  refine p_177 (ws' := (wF [wMe o (An 0) (Ak 0) (At 0) (Ad 0) kk tp rw rc sh sf de, wCt G An la ns sd to he sw nh ki te mi ar z, wDe de bo 0 pz dk nu dt, wI G bo 30 dbo, wQ G sf 4 4 sff, wSf Fa 1 (nI j) fso fsz])) 5 10 rfl rfl rfl (Nat.le_of_ble_eq_true rfl) rfl dX5_act_5 ?_
  refine J_iload_n 8 1 dX5_act_8 rfl rfl ?_
  refine kb_RX5_219 (bs' := [wMe o (An 0) (Ak 0) (At 0) (Ad 0) kk tp rw rc sh sf de, wCt G An la ns sd to he sw nh ki te mi ar z, wDe de bo 0 pz dk nu dt, wI G bo 30 dbo, wQ G sf 4 4 sff, wSf Fa 1 (nI j) fso fsz]) (rest := []) (st' := [.int 1]) 9 (c_X5_isPlace_t l G s (by first | omega | assumption)) [] rfl rfl [] rfl rfl rfl rfl rfl rfl (Nat.le_of_ble_eq_true rfl) rfl dX5_act_9 ?_
  refine J_if_eq (tgt := 37) 12 dX5_act_12 (by decide) (fun c_1_ => absurd c_1_ (by decide)) (fun _ => ?_)
  refine J_iload_n 15 2 dX5_act_15 rfl rfl ?_
  refine J_iconst (v := 0) 16 dX5_act_16 rfl ?_
  refine J_iconst (v := 3) 17 dX5_act_17 rfl ?_
  refine kb_RX5_65 (bs' := [wMe o (An 0) (Ak 0) (At 0) (Ad 0) kk tp rw rc sh sf de, wCt G An la ns sd to he sw nh ki te mi ar z, wDe de bo 0 pz dk nu dt, wI G bo 30 dbo, wQ G sf 4 4 sff, wSf Fa 1 (nI j) fso fsz]) (rest := []) (st' := [.int 1]) 18 (c_X5_within_t l G 0 0 3 (by decide)) [] rfl rfl [] rfl rfl rfl rfl rfl rfl (Nat.le_of_ble_eq_true rfl) rfl dX5_act_18 ?_
  refine J_if_eq (tgt := 37) 21 dX5_act_21 (by decide) (fun c_2_ => absurd c_2_ (by decide)) (fun _ => ?_)
  refine J_aload_n 24 0 dX5_act_24 rfl rfl ?_
  refine J_aload_n 25 0 dX5_act_25 rfl rfl ?_
  refine g_205 (v := .ref sf) 26 0 rfl rfl dX5_act_26 ?_
  refine J_iload_n 29 1 dX5_act_29 rfl rfl ?_
  refine J_aldq (b := Fa) 30 12 4 s rfl rfl rfl (by omega) (by decide) hy dX5_act_30 ?_
  refine kb_RX5_292 (bs' := [wMe o (An 0) (Ak 0) (At 0) (Ad 0) kk tp rw rc sh sf de, wCt G An la ns sd to he sw nh ki te mi ar z, wDe de bo 0 pz dk nu dt, wI G bo 30 dbo, wQ G sf 4 4 sff, wSf Fa 1 (nI j) fso fsz]) (rest := []) (st' := [.int 1]) 31 (c_X5_holdsHearer_t l G j o An Ak At Ad kk tp rw rc sh sf de la ns sd to he sw nh ki te mi ar z Fa fso fsz (by first | omega | assumption) (by first | omega | assumption)) [0, 1, 5] 0 rfl rfl rfl [[o], [An 0, An 1, An 2, An 3, An 4, An 5, An 6, An 7, An 8], [Fa]] rfl rfl rfl rfl rfl rfl (Nat.le_of_ble_eq_true rfl) rfl dX5_act_31 ?_
  refine J_if_ne (tgt := 39) 34 dX5_act_34 (by decide) (fun _ => ?_) (fun c_3_ => absurd c_3_ (by decide))
  refine J_aload_n 39 0 dX5_act_39 rfl rfl ?_
  refine g_205 (v := .ref sf) 40 0 rfl rfl dX5_act_40 ?_
  refine J_iload_n 43 1 dX5_act_43 rfl rfl ?_
  refine J_aldq (b := Fa) 44 12 4 s rfl rfl rfl (by omega) (by decide) hy dX5_act_44 ?_
  refine g_154 (v := .int (nI j)) 45 13 rfl rfl dX5_act_45 ?_
  refine J_istore (lv' := [some (.ref o), some (.int (nI s)), some (.int 0), some (.int x), some (.int (nI j)), none]) 48 dX5_act_48 (by decide) rfl ?_
  refine J_aload_n 50 0 dX5_act_50 rfl rfl ?_
  refine g_206 (v := .ref de) 51 0 rfl rfl dX5_act_51 ?_
  refine J_aload_n 54 0 dX5_act_54 rfl rfl ?_
  refine g_196 (v := .ref (An 0)) 55 0 rfl rfl dX5_act_55 ?_
  refine g_56 (v := .ref (An 5)) 58 1 rfl rfl dX5_act_58 ?_
  refine J_iload 61 dX5_act_61 rfl ?_
  refine J_iald 63 6 j rfl rfl (by omega) (by decide) dX5_act_63 ?_
  refine J_topi (y := 2) 64 hk ?_
  refine J_iload 64 dX5_act_64 rfl ?_
  refine J_aload_n 66 0 dX5_act_66 rfl rfl ?_
  refine g_196 (v := .ref (An 0)) 67 0 rfl rfl dX5_act_67 ?_
  refine g_58 (v := .ref (An 6)) 70 1 rfl rfl dX5_act_70 ?_
  refine J_iload 73 dX5_act_73 rfl ?_
  refine J_iald 75 7 j rfl rfl (by omega) (by decide) dX5_act_75 ?_
  refine kb_RX5_305 (bs' := [wMe o (An 0) (Ak 0) (At 0) (Ad 0) kk tp rw rc sh sf de, wCt G An la ns sd to he sw nh ki te mi ar z, wDe de bo 0 0 2 (nI j) (te j), wI G bo 30 dbo, wQ G sf 4 4 sff, wSf Fa 1 (nI j) fso fsz]) (rest := []) (st' := []) 76 (c_X1_begin l G 2 (nI j) (te j) de bo 0 pz dk nu dt ) [2] 10 rfl rfl rfl [[de]] rfl rfl rfl rfl rfl rfl (Nat.le_of_ble_eq_true rfl) rfl dX5_act_76 ?_
  refine J_aload_n 79 0 dX5_act_79 rfl rfl ?_
  refine g_206 (v := .ref de) 80 0 rfl rfl dX5_act_80 ?_
  refine J_aload_n 83 0 dX5_act_83 rfl rfl ?_
  refine g_196 (v := .ref (An 0)) 84 0 rfl rfl dX5_act_84 ?_
  refine g_56 (v := .ref (An 5)) 87 1 rfl rfl dX5_act_87 ?_
  refine J_iload 90 dX5_act_90 rfl ?_
  refine J_iald 92 6 j rfl rfl (by omega) (by decide) dX5_act_92 ?_
  refine J_topi (y := 2) 93 hk ?_
  refine J_iload_n 93 2 dX5_act_93 rfl rfl ?_
  refine kb_RX5_308 (bs' := [wMe o (An 0) (Ak 0) (At 0) (Ad 0) kk tp rw rc sh sf de, wCt G An la ns sd to he sw nh ki te mi ar z, wDe de bo 0 0 2 (nI j) (te j), wI G bo 30 dbo, wQ G sf 4 4 sff, wSf Fa 1 (nI j) fso fsz]) (rest := [.ref de]) (st' := [.int 30, .ref de]) 94 (c_X1_bodyOf_2_0 l G  ) [] rfl rfl [] rfl rfl rfl rfl rfl rfl (Nat.le_of_ble_eq_true rfl) rfl dX5_act_94 ?_
  refine J_iload_n 97 3 dX5_act_97 rfl rfl ?_
  refine J_iconst (v := 0) 98 dX5_act_98 rfl ?_
  refine kb_RX5_311 (bs' := [wMe o (An 0) (Ak 0) (At 0) (Ad 0) kk tp rw rc sh sf de, wCt G An la ns sd to he sw nh ki te mi ar z, wDe de bo (0 + 2) 0 2 (nI j) (te j), wI G bo 30 (pF [30, 10] dbo 0), wQ G sf 4 4 sff, wSf Fa 1 (nI j) fso fsz]) (rest := []) (st' := [.int ((x * 5 + (nI j)) - 4)]) 99 (c_runs_2_30 l G x 0 de bo 0 (nI j) (te j) dbo (by decide) (by decide)) [2, 3] rfl rfl [[de], [bo]] rfl rfl rfl rfl rfl rfl (Nat.le_of_ble_eq_true rfl) rfl dX5_act_99 ?_
  refine J_istore (lv' := [some (.ref o), some (.int (nI s)), some (.int 0), some (.int x), some (.int (nI j)), some (.int ((x * 5 + (nI j)) - 4))]) 102 dX5_act_102 (by decide) rfl ?_
  refine J_aload_n 104 0 dX5_act_104 rfl rfl ?_
  refine g_206 (v := .ref de) 105 0 rfl rfl dX5_act_105 ?_
  refine g_179 (v := .int 0) 108 10 rfl rfl dX5_act_108 ?_
  refine J_if_eq (tgt := 119) 111 dX5_act_111 (by decide) (fun _ => ?_) (fun c_4_ => absurd c_4_ (by decide))
  refine J_iload 119 dX5_act_119 rfl ?_
  exact J_iret 121 dX5_act_121 rfl (cg1 (fun (x0_ : Nat) => (wF [wMe o (An 0) (Ak 0) (At 0) (Ad 0) kk tp rw rc sh sf de, wCt G An la ns sd to he sw nh ki te mi ar z, wDe de bo x0_ 0 2 (nI j) (te j), wI G bo 30 (pF [30, 10] dbo 0), wQ G sf 4 4 sff, wSf Fa 1 (nI j) fso fsz])) (0 + 2) 2 rfl)
set_option maxRecDepth 100000 in
set_option maxHeartbeats 4000000 in
theorem c_X5_act_2_1 (l : Launch) (G : Gd) (s : Nat) (x : Int32) (Fa : Nat) (j : Nat) (o : Nat) (An : Nat → Nat) (Ak : Nat → Nat) (At : Nat → Nat) (Ad : Nat → Nat) (kk : Int32) (tp : Nat) (rw : Nat) (rc : Nat) (sh : Nat) (sf : Nat) (de : Nat) (la : Nat → Int32) (ns : Nat) (sd : Nat) (to : Nat → Int32) (he : Nat → Int32) (sw : Nat → Int32) (nh : Nat) (ki : Nat → Int32) (te : Nat → Int32) (mi : Nat → Int32) (ar : Nat → Int32) (z : Int32) (bo : Nat) (ct : Nat) (pz : Int32) (dk : Int32) (nu : Int32) (dt : Int32) (dbo : Nat → Int32) (sff : Nat → Option Nat) (fso : Int32) (fsz : Int32) (hs : s ≤ 3) (hy : sff s = some Fa) (hj : j < nh) (hnh : nh ≤ 8) (hk : ki j = 2) : Ct l G yX5_act cX5_act 6 (some (FieldType.int)) 8 [.ref o, .int (nI s), .int 1, .int x] (wF [wMe o (An 0) (Ak 0) (At 0) (Ad 0) kk tp rw rc sh sf de, wCt G An la ns sd to he sw nh ki te mi ar z, wDe de bo ct pz dk nu dt, wI G bo 30 dbo, wQ G sf 4 4 sff, wSf Fa 1 (nI j) fso fsz]) (some (.int (((x * 5 + (nI j)) - 4) - (te j)))) (wF [wMe o (An 0) (Ak 0) (At 0) (Ad 0) kk tp rw rc sh sf de, wCt G An la ns sd to he sw nh ki te mi ar z, wDe de bo 3 0 2 (nI j) (te j), wI G bo 30 (pF [11, 30, 10] dbo 0), wQ G sf 4 4 sff, wSf Fa 1 (nI j) fso fsz]) := by
  refine Ct.of "GooseArms" [some (.ref o), some (.int (nI s)), some (.int 1), some (.int x), none, none] (by decide +kernel) rfl (Nat.le_of_ble_eq_true rfl) rfl ?_
  refine J_aload_n 0 0 dX5_act_0 rfl rfl ?_
  refine g_206 (v := .ref de) 1 0 rfl rfl dX5_act_1 ?_
  refine J_iconst (v := 0) 4 dX5_act_4 rfl ?_
  refine p_177 (ws' := (wF [wMe o (An 0) (Ak 0) (At 0) (Ad 0) kk tp rw rc sh sf de, wCt G An la ns sd to he sw nh ki te mi ar z, wDe de bo 0 pz dk nu dt, wI G bo 30 dbo, wQ G sf 4 4 sff, wSf Fa 1 (nI j) fso fsz])) 5 10 rfl rfl rfl (Nat.le_of_ble_eq_true rfl) rfl dX5_act_5 ?_
  refine J_iload_n 8 1 dX5_act_8 rfl rfl ?_
  refine kb_RX5_219 (bs' := [wMe o (An 0) (Ak 0) (At 0) (Ad 0) kk tp rw rc sh sf de, wCt G An la ns sd to he sw nh ki te mi ar z, wDe de bo 0 pz dk nu dt, wI G bo 30 dbo, wQ G sf 4 4 sff, wSf Fa 1 (nI j) fso fsz]) (rest := []) (st' := [.int 1]) 9 (c_X5_isPlace_t l G s (by first | omega | assumption)) [] rfl rfl [] rfl rfl rfl rfl rfl rfl (Nat.le_of_ble_eq_true rfl) rfl dX5_act_9 ?_
  refine J_if_eq (tgt := 37) 12 dX5_act_12 (by decide) (fun c_1_ => absurd c_1_ (by decide)) (fun _ => ?_)
  refine J_iload_n 15 2 dX5_act_15 rfl rfl ?_
  refine J_iconst (v := 0) 16 dX5_act_16 rfl ?_
  refine J_iconst (v := 3) 17 dX5_act_17 rfl ?_
  refine kb_RX5_65 (bs' := [wMe o (An 0) (Ak 0) (At 0) (Ad 0) kk tp rw rc sh sf de, wCt G An la ns sd to he sw nh ki te mi ar z, wDe de bo 0 pz dk nu dt, wI G bo 30 dbo, wQ G sf 4 4 sff, wSf Fa 1 (nI j) fso fsz]) (rest := []) (st' := [.int 1]) 18 (c_X5_within_t l G 1 0 3 (by decide)) [] rfl rfl [] rfl rfl rfl rfl rfl rfl (Nat.le_of_ble_eq_true rfl) rfl dX5_act_18 ?_
  refine J_if_eq (tgt := 37) 21 dX5_act_21 (by decide) (fun c_2_ => absurd c_2_ (by decide)) (fun _ => ?_)
  refine J_aload_n 24 0 dX5_act_24 rfl rfl ?_
  refine J_aload_n 25 0 dX5_act_25 rfl rfl ?_
  refine g_205 (v := .ref sf) 26 0 rfl rfl dX5_act_26 ?_
  refine J_iload_n 29 1 dX5_act_29 rfl rfl ?_
  refine J_aldq (b := Fa) 30 12 4 s rfl rfl rfl (by omega) (by decide) hy dX5_act_30 ?_
  refine kb_RX5_292 (bs' := [wMe o (An 0) (Ak 0) (At 0) (Ad 0) kk tp rw rc sh sf de, wCt G An la ns sd to he sw nh ki te mi ar z, wDe de bo 0 pz dk nu dt, wI G bo 30 dbo, wQ G sf 4 4 sff, wSf Fa 1 (nI j) fso fsz]) (rest := []) (st' := [.int 1]) 31 (c_X5_holdsHearer_t l G j o An Ak At Ad kk tp rw rc sh sf de la ns sd to he sw nh ki te mi ar z Fa fso fsz (by first | omega | assumption) (by first | omega | assumption)) [0, 1, 5] 0 rfl rfl rfl [[o], [An 0, An 1, An 2, An 3, An 4, An 5, An 6, An 7, An 8], [Fa]] rfl rfl rfl rfl rfl rfl (Nat.le_of_ble_eq_true rfl) rfl dX5_act_31 ?_
  refine J_if_ne (tgt := 39) 34 dX5_act_34 (by decide) (fun _ => ?_) (fun c_3_ => absurd c_3_ (by decide))
  refine J_aload_n 39 0 dX5_act_39 rfl rfl ?_
  refine g_205 (v := .ref sf) 40 0 rfl rfl dX5_act_40 ?_
  refine J_iload_n 43 1 dX5_act_43 rfl rfl ?_
  refine J_aldq (b := Fa) 44 12 4 s rfl rfl rfl (by omega) (by decide) hy dX5_act_44 ?_
  refine g_154 (v := .int (nI j)) 45 13 rfl rfl dX5_act_45 ?_
  refine J_istore (lv' := [some (.ref o), some (.int (nI s)), some (.int 1), some (.int x), some (.int (nI j)), none]) 48 dX5_act_48 (by decide) rfl ?_
  refine J_aload_n 50 0 dX5_act_50 rfl rfl ?_
  refine g_206 (v := .ref de) 51 0 rfl rfl dX5_act_51 ?_
  refine J_aload_n 54 0 dX5_act_54 rfl rfl ?_
  refine g_196 (v := .ref (An 0)) 55 0 rfl rfl dX5_act_55 ?_
  refine g_56 (v := .ref (An 5)) 58 1 rfl rfl dX5_act_58 ?_
  refine J_iload 61 dX5_act_61 rfl ?_
  refine J_iald 63 6 j rfl rfl (by omega) (by decide) dX5_act_63 ?_
  refine J_topi (y := 2) 64 hk ?_
  refine J_iload 64 dX5_act_64 rfl ?_
  refine J_aload_n 66 0 dX5_act_66 rfl rfl ?_
  refine g_196 (v := .ref (An 0)) 67 0 rfl rfl dX5_act_67 ?_
  refine g_58 (v := .ref (An 6)) 70 1 rfl rfl dX5_act_70 ?_
  refine J_iload 73 dX5_act_73 rfl ?_
  refine J_iald 75 7 j rfl rfl (by omega) (by decide) dX5_act_75 ?_
  refine kb_RX5_305 (bs' := [wMe o (An 0) (Ak 0) (At 0) (Ad 0) kk tp rw rc sh sf de, wCt G An la ns sd to he sw nh ki te mi ar z, wDe de bo 0 0 2 (nI j) (te j), wI G bo 30 dbo, wQ G sf 4 4 sff, wSf Fa 1 (nI j) fso fsz]) (rest := []) (st' := []) 76 (c_X1_begin l G 2 (nI j) (te j) de bo 0 pz dk nu dt ) [2] 10 rfl rfl rfl [[de]] rfl rfl rfl rfl rfl rfl (Nat.le_of_ble_eq_true rfl) rfl dX5_act_76 ?_
  refine J_aload_n 79 0 dX5_act_79 rfl rfl ?_
  refine g_206 (v := .ref de) 80 0 rfl rfl dX5_act_80 ?_
  refine J_aload_n 83 0 dX5_act_83 rfl rfl ?_
  refine g_196 (v := .ref (An 0)) 84 0 rfl rfl dX5_act_84 ?_
  refine g_56 (v := .ref (An 5)) 87 1 rfl rfl dX5_act_87 ?_
  refine J_iload 90 dX5_act_90 rfl ?_
  refine J_iald 92 6 j rfl rfl (by omega) (by decide) dX5_act_92 ?_
  refine J_topi (y := 2) 93 hk ?_
  refine J_iload_n 93 2 dX5_act_93 rfl rfl ?_
  refine kb_RX5_308 (bs' := [wMe o (An 0) (Ak 0) (At 0) (Ad 0) kk tp rw rc sh sf de, wCt G An la ns sd to he sw nh ki te mi ar z, wDe de bo 0 0 2 (nI j) (te j), wI G bo 30 dbo, wQ G sf 4 4 sff, wSf Fa 1 (nI j) fso fsz]) (rest := [.ref de]) (st' := [.int 11, .ref de]) 94 (c_X1_bodyOf_2_1 l G  ) [] rfl rfl [] rfl rfl rfl rfl rfl rfl (Nat.le_of_ble_eq_true rfl) rfl dX5_act_94 ?_
  refine J_iload_n 97 3 dX5_act_97 rfl rfl ?_
  refine J_iconst (v := 0) 98 dX5_act_98 rfl ?_
  refine kb_RX5_311 (bs' := [wMe o (An 0) (Ak 0) (At 0) (Ad 0) kk tp rw rc sh sf de, wCt G An la ns sd to he sw nh ki te mi ar z, wDe de bo (0 + 3) 0 2 (nI j) (te j), wI G bo 30 (pF [11, 30, 10] dbo 0), wQ G sf 4 4 sff, wSf Fa 1 (nI j) fso fsz]) (rest := []) (st' := [.int (((x * 5 + (nI j)) - 4) - (te j))]) 99 (c_runs_2_11 l G x 0 de bo 0 (nI j) (te j) dbo (by decide) (by decide)) [2, 3] rfl rfl [[de], [bo]] rfl rfl rfl rfl rfl rfl (Nat.le_of_ble_eq_true rfl) rfl dX5_act_99 ?_
  refine J_istore (lv' := [some (.ref o), some (.int (nI s)), some (.int 1), some (.int x), some (.int (nI j)), some (.int (((x * 5 + (nI j)) - 4) - (te j)))]) 102 dX5_act_102 (by decide) rfl ?_
  refine J_aload_n 104 0 dX5_act_104 rfl rfl ?_
  refine g_206 (v := .ref de) 105 0 rfl rfl dX5_act_105 ?_
  refine g_179 (v := .int 0) 108 10 rfl rfl dX5_act_108 ?_
  refine J_if_eq (tgt := 119) 111 dX5_act_111 (by decide) (fun _ => ?_) (fun c_4_ => absurd c_4_ (by decide))
  refine J_iload 119 dX5_act_119 rfl ?_
  exact J_iret 121 dX5_act_121 rfl (cg1 (fun (x0_ : Nat) => (wF [wMe o (An 0) (Ak 0) (At 0) (Ad 0) kk tp rw rc sh sf de, wCt G An la ns sd to he sw nh ki te mi ar z, wDe de bo x0_ 0 2 (nI j) (te j), wI G bo 30 (pF [11, 30, 10] dbo 0), wQ G sf 4 4 sff, wSf Fa 1 (nI j) fso fsz])) (0 + 3) 3 rfl)
set_option maxRecDepth 100000 in
set_option maxHeartbeats 4000000 in
theorem c_X5_act_2_2 (l : Launch) (G : Gd) (s : Nat) (x : Int32) (Fa : Nat) (j : Nat) (o : Nat) (An : Nat → Nat) (Ak : Nat → Nat) (At : Nat → Nat) (Ad : Nat → Nat) (kk : Int32) (tp : Nat) (rw : Nat) (rc : Nat) (sh : Nat) (sf : Nat) (de : Nat) (la : Nat → Int32) (ns : Nat) (sd : Nat) (to : Nat → Int32) (he : Nat → Int32) (sw : Nat → Int32) (nh : Nat) (ki : Nat → Int32) (te : Nat → Int32) (mi : Nat → Int32) (ar : Nat → Int32) (z : Int32) (bo : Nat) (ct : Nat) (pz : Int32) (dk : Int32) (nu : Int32) (dt : Int32) (dbo : Nat → Int32) (sff : Nat → Option Nat) (fso : Int32) (fsz : Int32) (hs : s ≤ 3) (hy : sff s = some Fa) (hj : j < nh) (hnh : nh ≤ 8) (hk : ki j = 2) (hz : ¬ (te j) - (nI j) = 0) : Ct l G yX5_act cX5_act 6 (some (FieldType.int)) 8 [.ref o, .int (nI s), .int 2, .int x] (wF [wMe o (An 0) (Ak 0) (At 0) (Ad 0) kk tp rw rc sh sf de, wCt G An la ns sd to he sw nh ki te mi ar z, wDe de bo ct pz dk nu dt, wI G bo 30 dbo, wQ G sf 4 4 sff, wSf Fa 1 (nI j) fso fsz]) (some (.int (x / ((te j) - (nI j))))) (wF [wMe o (An 0) (Ak 0) (At 0) (Ad 0) kk tp rw rc sh sf de, wCt G An la ns sd to he sw nh ki te mi ar z, wDe de bo 1 0 2 (nI j) (te j), wI G bo 30 (pF [12] dbo 0), wQ G sf 4 4 sff, wSf Fa 1 (nI j) fso fsz]) := by
  refine Ct.of "GooseArms" [some (.ref o), some (.int (nI s)), some (.int 2), some (.int x), none, none] (by decide +kernel) rfl (Nat.le_of_ble_eq_true rfl) rfl ?_
  refine J_aload_n 0 0 dX5_act_0 rfl rfl ?_
  refine g_206 (v := .ref de) 1 0 rfl rfl dX5_act_1 ?_
  refine J_iconst (v := 0) 4 dX5_act_4 rfl ?_
  refine p_177 (ws' := (wF [wMe o (An 0) (Ak 0) (At 0) (Ad 0) kk tp rw rc sh sf de, wCt G An la ns sd to he sw nh ki te mi ar z, wDe de bo 0 pz dk nu dt, wI G bo 30 dbo, wQ G sf 4 4 sff, wSf Fa 1 (nI j) fso fsz])) 5 10 rfl rfl rfl (Nat.le_of_ble_eq_true rfl) rfl dX5_act_5 ?_
  refine J_iload_n 8 1 dX5_act_8 rfl rfl ?_
  refine kb_RX5_219 (bs' := [wMe o (An 0) (Ak 0) (At 0) (Ad 0) kk tp rw rc sh sf de, wCt G An la ns sd to he sw nh ki te mi ar z, wDe de bo 0 pz dk nu dt, wI G bo 30 dbo, wQ G sf 4 4 sff, wSf Fa 1 (nI j) fso fsz]) (rest := []) (st' := [.int 1]) 9 (c_X5_isPlace_t l G s (by first | omega | assumption)) [] rfl rfl [] rfl rfl rfl rfl rfl rfl (Nat.le_of_ble_eq_true rfl) rfl dX5_act_9 ?_
  refine J_if_eq (tgt := 37) 12 dX5_act_12 (by decide) (fun c_1_ => absurd c_1_ (by decide)) (fun _ => ?_)
  refine J_iload_n 15 2 dX5_act_15 rfl rfl ?_
  refine J_iconst (v := 0) 16 dX5_act_16 rfl ?_
  refine J_iconst (v := 3) 17 dX5_act_17 rfl ?_
  refine kb_RX5_65 (bs' := [wMe o (An 0) (Ak 0) (At 0) (Ad 0) kk tp rw rc sh sf de, wCt G An la ns sd to he sw nh ki te mi ar z, wDe de bo 0 pz dk nu dt, wI G bo 30 dbo, wQ G sf 4 4 sff, wSf Fa 1 (nI j) fso fsz]) (rest := []) (st' := [.int 1]) 18 (c_X5_within_t l G 2 0 3 (by decide)) [] rfl rfl [] rfl rfl rfl rfl rfl rfl (Nat.le_of_ble_eq_true rfl) rfl dX5_act_18 ?_
  refine J_if_eq (tgt := 37) 21 dX5_act_21 (by decide) (fun c_2_ => absurd c_2_ (by decide)) (fun _ => ?_)
  refine J_aload_n 24 0 dX5_act_24 rfl rfl ?_
  refine J_aload_n 25 0 dX5_act_25 rfl rfl ?_
  refine g_205 (v := .ref sf) 26 0 rfl rfl dX5_act_26 ?_
  refine J_iload_n 29 1 dX5_act_29 rfl rfl ?_
  refine J_aldq (b := Fa) 30 12 4 s rfl rfl rfl (by omega) (by decide) hy dX5_act_30 ?_
  refine kb_RX5_292 (bs' := [wMe o (An 0) (Ak 0) (At 0) (Ad 0) kk tp rw rc sh sf de, wCt G An la ns sd to he sw nh ki te mi ar z, wDe de bo 0 pz dk nu dt, wI G bo 30 dbo, wQ G sf 4 4 sff, wSf Fa 1 (nI j) fso fsz]) (rest := []) (st' := [.int 1]) 31 (c_X5_holdsHearer_t l G j o An Ak At Ad kk tp rw rc sh sf de la ns sd to he sw nh ki te mi ar z Fa fso fsz (by first | omega | assumption) (by first | omega | assumption)) [0, 1, 5] 0 rfl rfl rfl [[o], [An 0, An 1, An 2, An 3, An 4, An 5, An 6, An 7, An 8], [Fa]] rfl rfl rfl rfl rfl rfl (Nat.le_of_ble_eq_true rfl) rfl dX5_act_31 ?_
  refine J_if_ne (tgt := 39) 34 dX5_act_34 (by decide) (fun _ => ?_) (fun c_3_ => absurd c_3_ (by decide))
  refine J_aload_n 39 0 dX5_act_39 rfl rfl ?_
  refine g_205 (v := .ref sf) 40 0 rfl rfl dX5_act_40 ?_
  refine J_iload_n 43 1 dX5_act_43 rfl rfl ?_
  refine J_aldq (b := Fa) 44 12 4 s rfl rfl rfl (by omega) (by decide) hy dX5_act_44 ?_
  refine g_154 (v := .int (nI j)) 45 13 rfl rfl dX5_act_45 ?_
  refine J_istore (lv' := [some (.ref o), some (.int (nI s)), some (.int 2), some (.int x), some (.int (nI j)), none]) 48 dX5_act_48 (by decide) rfl ?_
  refine J_aload_n 50 0 dX5_act_50 rfl rfl ?_
  refine g_206 (v := .ref de) 51 0 rfl rfl dX5_act_51 ?_
  refine J_aload_n 54 0 dX5_act_54 rfl rfl ?_
  refine g_196 (v := .ref (An 0)) 55 0 rfl rfl dX5_act_55 ?_
  refine g_56 (v := .ref (An 5)) 58 1 rfl rfl dX5_act_58 ?_
  refine J_iload 61 dX5_act_61 rfl ?_
  refine J_iald 63 6 j rfl rfl (by omega) (by decide) dX5_act_63 ?_
  refine J_topi (y := 2) 64 hk ?_
  refine J_iload 64 dX5_act_64 rfl ?_
  refine J_aload_n 66 0 dX5_act_66 rfl rfl ?_
  refine g_196 (v := .ref (An 0)) 67 0 rfl rfl dX5_act_67 ?_
  refine g_58 (v := .ref (An 6)) 70 1 rfl rfl dX5_act_70 ?_
  refine J_iload 73 dX5_act_73 rfl ?_
  refine J_iald 75 7 j rfl rfl (by omega) (by decide) dX5_act_75 ?_
  refine kb_RX5_305 (bs' := [wMe o (An 0) (Ak 0) (At 0) (Ad 0) kk tp rw rc sh sf de, wCt G An la ns sd to he sw nh ki te mi ar z, wDe de bo 0 0 2 (nI j) (te j), wI G bo 30 dbo, wQ G sf 4 4 sff, wSf Fa 1 (nI j) fso fsz]) (rest := []) (st' := []) 76 (c_X1_begin l G 2 (nI j) (te j) de bo 0 pz dk nu dt ) [2] 10 rfl rfl rfl [[de]] rfl rfl rfl rfl rfl rfl (Nat.le_of_ble_eq_true rfl) rfl dX5_act_76 ?_
  refine J_aload_n 79 0 dX5_act_79 rfl rfl ?_
  refine g_206 (v := .ref de) 80 0 rfl rfl dX5_act_80 ?_
  refine J_aload_n 83 0 dX5_act_83 rfl rfl ?_
  refine g_196 (v := .ref (An 0)) 84 0 rfl rfl dX5_act_84 ?_
  refine g_56 (v := .ref (An 5)) 87 1 rfl rfl dX5_act_87 ?_
  refine J_iload 90 dX5_act_90 rfl ?_
  refine J_iald 92 6 j rfl rfl (by omega) (by decide) dX5_act_92 ?_
  refine J_topi (y := 2) 93 hk ?_
  refine J_iload_n 93 2 dX5_act_93 rfl rfl ?_
  refine kb_RX5_308 (bs' := [wMe o (An 0) (Ak 0) (At 0) (Ad 0) kk tp rw rc sh sf de, wCt G An la ns sd to he sw nh ki te mi ar z, wDe de bo 0 0 2 (nI j) (te j), wI G bo 30 dbo, wQ G sf 4 4 sff, wSf Fa 1 (nI j) fso fsz]) (rest := [.ref de]) (st' := [.int 12, .ref de]) 94 (c_X1_bodyOf_2_2 l G  ) [] rfl rfl [] rfl rfl rfl rfl rfl rfl (Nat.le_of_ble_eq_true rfl) rfl dX5_act_94 ?_
  refine J_iload_n 97 3 dX5_act_97 rfl rfl ?_
  refine J_iconst (v := 0) 98 dX5_act_98 rfl ?_
  refine kb_RX5_311 (bs' := [wMe o (An 0) (Ak 0) (At 0) (Ad 0) kk tp rw rc sh sf de, wCt G An la ns sd to he sw nh ki te mi ar z, wDe de bo (0 + 1) 0 2 (nI j) (te j), wI G bo 30 (pF [12] dbo 0), wQ G sf 4 4 sff, wSf Fa 1 (nI j) fso fsz]) (rest := []) (st' := [.int (x / ((te j) - (nI j)))]) 99 (c_runs_2_12 l G x 0 de bo 0 (nI j) (te j) dbo (by decide) (by decide) hz) [2, 3] rfl rfl [[de], [bo]] rfl rfl rfl rfl rfl rfl (Nat.le_of_ble_eq_true rfl) rfl dX5_act_99 ?_
  refine J_istore (lv' := [some (.ref o), some (.int (nI s)), some (.int 2), some (.int x), some (.int (nI j)), some (.int (x / ((te j) - (nI j))))]) 102 dX5_act_102 (by decide) rfl ?_
  refine J_aload_n 104 0 dX5_act_104 rfl rfl ?_
  refine g_206 (v := .ref de) 105 0 rfl rfl dX5_act_105 ?_
  refine g_179 (v := .int 0) 108 10 rfl rfl dX5_act_108 ?_
  refine J_if_eq (tgt := 119) 111 dX5_act_111 (by decide) (fun _ => ?_) (fun c_4_ => absurd c_4_ (by decide))
  refine J_iload 119 dX5_act_119 rfl ?_
  exact J_iret 121 dX5_act_121 rfl (cg1 (fun (x0_ : Nat) => (wF [wMe o (An 0) (Ak 0) (At 0) (Ad 0) kk tp rw rc sh sf de, wCt G An la ns sd to he sw nh ki te mi ar z, wDe de bo x0_ 0 2 (nI j) (te j), wI G bo 30 (pF [12] dbo 0), wQ G sf 4 4 sff, wSf Fa 1 (nI j) fso fsz])) (0 + 1) 1 rfl)
set_option maxRecDepth 100000 in
set_option maxHeartbeats 4000000 in
theorem c_X5_act_2_2z (l : Launch) (G : Gd) (s : Nat) (x : Int32) (Fa : Nat) (j : Nat) (o : Nat) (An : Nat → Nat) (Ak : Nat → Nat) (At : Nat → Nat) (Ad : Nat → Nat) (kk : Int32) (tp : Nat) (rw : Nat) (rc : Nat) (sh : Nat) (sf : Nat) (de : Nat) (la : Nat → Int32) (ns : Nat) (sd : Nat) (to : Nat → Int32) (he : Nat → Int32) (sw : Nat → Int32) (nh : Nat) (ki : Nat → Int32) (te : Nat → Int32) (mi : Nat → Int32) (ar : Nat → Int32) (z : Int32) (bo : Nat) (ct : Nat) (pz : Int32) (dk : Int32) (nu : Int32) (dt : Int32) (dbo : Nat → Int32) (sff : Nat → Option Nat) (fso : Int32) (fsz : Int32) (hs : s ≤ 3) (hy : sff s = some Fa) (hj : j < nh) (hnh : nh ≤ 8) (hk : ki j = 2) (hz : (te j) - (nI j) = 0) : Ct l G yX5_act cX5_act 6 (some (FieldType.int)) 8 [.ref o, .int (nI s), .int 2, .int x] (wF [wMe o (An 0) (Ak 0) (At 0) (Ad 0) kk tp rw rc sh sf de, wCt G An la ns sd to he sw nh ki te mi ar z, wDe de bo ct pz dk nu dt, wI G bo 30 dbo, wQ G sf 4 4 sff, wSf Fa 1 (nI j) fso fsz]) (some (.int (-15))) (wF [wMe o (An 0) (Ak 0) (At 0) (Ad 0) kk tp rw rc sh sf de, wCt G An la ns sd to he sw nh ki te mi ar z, wDe de bo 1 1 2 (nI j) (te j), wI G bo 30 (pF [12] dbo 0), wQ G sf 4 4 sff, wSf Fa 1 (nI j) fso fsz]) := by
  refine Ct.of "GooseArms" [some (.ref o), some (.int (nI s)), some (.int 2), some (.int x), none, none] (by decide +kernel) rfl (Nat.le_of_ble_eq_true rfl) rfl ?_
  refine J_aload_n 0 0 dX5_act_0 rfl rfl ?_
  refine g_206 (v := .ref de) 1 0 rfl rfl dX5_act_1 ?_
  refine J_iconst (v := 0) 4 dX5_act_4 rfl ?_
  refine p_177 (ws' := (wF [wMe o (An 0) (Ak 0) (At 0) (Ad 0) kk tp rw rc sh sf de, wCt G An la ns sd to he sw nh ki te mi ar z, wDe de bo 0 pz dk nu dt, wI G bo 30 dbo, wQ G sf 4 4 sff, wSf Fa 1 (nI j) fso fsz])) 5 10 rfl rfl rfl (Nat.le_of_ble_eq_true rfl) rfl dX5_act_5 ?_
  refine J_iload_n 8 1 dX5_act_8 rfl rfl ?_
  refine kb_RX5_219 (bs' := [wMe o (An 0) (Ak 0) (At 0) (Ad 0) kk tp rw rc sh sf de, wCt G An la ns sd to he sw nh ki te mi ar z, wDe de bo 0 pz dk nu dt, wI G bo 30 dbo, wQ G sf 4 4 sff, wSf Fa 1 (nI j) fso fsz]) (rest := []) (st' := [.int 1]) 9 (c_X5_isPlace_t l G s (by first | omega | assumption)) [] rfl rfl [] rfl rfl rfl rfl rfl rfl (Nat.le_of_ble_eq_true rfl) rfl dX5_act_9 ?_
  refine J_if_eq (tgt := 37) 12 dX5_act_12 (by decide) (fun c_1_ => absurd c_1_ (by decide)) (fun _ => ?_)
  refine J_iload_n 15 2 dX5_act_15 rfl rfl ?_
  refine J_iconst (v := 0) 16 dX5_act_16 rfl ?_
  refine J_iconst (v := 3) 17 dX5_act_17 rfl ?_
  refine kb_RX5_65 (bs' := [wMe o (An 0) (Ak 0) (At 0) (Ad 0) kk tp rw rc sh sf de, wCt G An la ns sd to he sw nh ki te mi ar z, wDe de bo 0 pz dk nu dt, wI G bo 30 dbo, wQ G sf 4 4 sff, wSf Fa 1 (nI j) fso fsz]) (rest := []) (st' := [.int 1]) 18 (c_X5_within_t l G 2 0 3 (by decide)) [] rfl rfl [] rfl rfl rfl rfl rfl rfl (Nat.le_of_ble_eq_true rfl) rfl dX5_act_18 ?_
  refine J_if_eq (tgt := 37) 21 dX5_act_21 (by decide) (fun c_2_ => absurd c_2_ (by decide)) (fun _ => ?_)
  refine J_aload_n 24 0 dX5_act_24 rfl rfl ?_
  refine J_aload_n 25 0 dX5_act_25 rfl rfl ?_
  refine g_205 (v := .ref sf) 26 0 rfl rfl dX5_act_26 ?_
  refine J_iload_n 29 1 dX5_act_29 rfl rfl ?_
  refine J_aldq (b := Fa) 30 12 4 s rfl rfl rfl (by omega) (by decide) hy dX5_act_30 ?_
  refine kb_RX5_292 (bs' := [wMe o (An 0) (Ak 0) (At 0) (Ad 0) kk tp rw rc sh sf de, wCt G An la ns sd to he sw nh ki te mi ar z, wDe de bo 0 pz dk nu dt, wI G bo 30 dbo, wQ G sf 4 4 sff, wSf Fa 1 (nI j) fso fsz]) (rest := []) (st' := [.int 1]) 31 (c_X5_holdsHearer_t l G j o An Ak At Ad kk tp rw rc sh sf de la ns sd to he sw nh ki te mi ar z Fa fso fsz (by first | omega | assumption) (by first | omega | assumption)) [0, 1, 5] 0 rfl rfl rfl [[o], [An 0, An 1, An 2, An 3, An 4, An 5, An 6, An 7, An 8], [Fa]] rfl rfl rfl rfl rfl rfl (Nat.le_of_ble_eq_true rfl) rfl dX5_act_31 ?_
  refine J_if_ne (tgt := 39) 34 dX5_act_34 (by decide) (fun _ => ?_) (fun c_3_ => absurd c_3_ (by decide))
  refine J_aload_n 39 0 dX5_act_39 rfl rfl ?_
  refine g_205 (v := .ref sf) 40 0 rfl rfl dX5_act_40 ?_
  refine J_iload_n 43 1 dX5_act_43 rfl rfl ?_
  refine J_aldq (b := Fa) 44 12 4 s rfl rfl rfl (by omega) (by decide) hy dX5_act_44 ?_
  refine g_154 (v := .int (nI j)) 45 13 rfl rfl dX5_act_45 ?_
  refine J_istore (lv' := [some (.ref o), some (.int (nI s)), some (.int 2), some (.int x), some (.int (nI j)), none]) 48 dX5_act_48 (by decide) rfl ?_
  refine J_aload_n 50 0 dX5_act_50 rfl rfl ?_
  refine g_206 (v := .ref de) 51 0 rfl rfl dX5_act_51 ?_
  refine J_aload_n 54 0 dX5_act_54 rfl rfl ?_
  refine g_196 (v := .ref (An 0)) 55 0 rfl rfl dX5_act_55 ?_
  refine g_56 (v := .ref (An 5)) 58 1 rfl rfl dX5_act_58 ?_
  refine J_iload 61 dX5_act_61 rfl ?_
  refine J_iald 63 6 j rfl rfl (by omega) (by decide) dX5_act_63 ?_
  refine J_topi (y := 2) 64 hk ?_
  refine J_iload 64 dX5_act_64 rfl ?_
  refine J_aload_n 66 0 dX5_act_66 rfl rfl ?_
  refine g_196 (v := .ref (An 0)) 67 0 rfl rfl dX5_act_67 ?_
  refine g_58 (v := .ref (An 6)) 70 1 rfl rfl dX5_act_70 ?_
  refine J_iload 73 dX5_act_73 rfl ?_
  refine J_iald 75 7 j rfl rfl (by omega) (by decide) dX5_act_75 ?_
  refine kb_RX5_305 (bs' := [wMe o (An 0) (Ak 0) (At 0) (Ad 0) kk tp rw rc sh sf de, wCt G An la ns sd to he sw nh ki te mi ar z, wDe de bo 0 0 2 (nI j) (te j), wI G bo 30 dbo, wQ G sf 4 4 sff, wSf Fa 1 (nI j) fso fsz]) (rest := []) (st' := []) 76 (c_X1_begin l G 2 (nI j) (te j) de bo 0 pz dk nu dt ) [2] 10 rfl rfl rfl [[de]] rfl rfl rfl rfl rfl rfl (Nat.le_of_ble_eq_true rfl) rfl dX5_act_76 ?_
  refine J_aload_n 79 0 dX5_act_79 rfl rfl ?_
  refine g_206 (v := .ref de) 80 0 rfl rfl dX5_act_80 ?_
  refine J_aload_n 83 0 dX5_act_83 rfl rfl ?_
  refine g_196 (v := .ref (An 0)) 84 0 rfl rfl dX5_act_84 ?_
  refine g_56 (v := .ref (An 5)) 87 1 rfl rfl dX5_act_87 ?_
  refine J_iload 90 dX5_act_90 rfl ?_
  refine J_iald 92 6 j rfl rfl (by omega) (by decide) dX5_act_92 ?_
  refine J_topi (y := 2) 93 hk ?_
  refine J_iload_n 93 2 dX5_act_93 rfl rfl ?_
  refine kb_RX5_308 (bs' := [wMe o (An 0) (Ak 0) (At 0) (Ad 0) kk tp rw rc sh sf de, wCt G An la ns sd to he sw nh ki te mi ar z, wDe de bo 0 0 2 (nI j) (te j), wI G bo 30 dbo, wQ G sf 4 4 sff, wSf Fa 1 (nI j) fso fsz]) (rest := [.ref de]) (st' := [.int 12, .ref de]) 94 (c_X1_bodyOf_2_2 l G  ) [] rfl rfl [] rfl rfl rfl rfl rfl rfl (Nat.le_of_ble_eq_true rfl) rfl dX5_act_94 ?_
  refine J_iload_n 97 3 dX5_act_97 rfl rfl ?_
  refine J_iconst (v := 0) 98 dX5_act_98 rfl ?_
  refine kb_RX5_311 (bs' := [wMe o (An 0) (Ak 0) (At 0) (Ad 0) kk tp rw rc sh sf de, wCt G An la ns sd to he sw nh ki te mi ar z, wDe de bo (0 + 1) 1 2 (nI j) (te j), wI G bo 30 (pF [12] dbo 0), wQ G sf 4 4 sff, wSf Fa 1 (nI j) fso fsz]) (rest := []) (st' := [.int 0]) 99 (c_runs_2_12z l G x 0 de bo 0 (nI j) (te j) dbo (by decide) (by decide) hz) [2, 3] rfl rfl [[de], [bo]] rfl rfl rfl rfl rfl rfl (Nat.le_of_ble_eq_true rfl) rfl dX5_act_99 ?_
  refine J_istore (lv' := [some (.ref o), some (.int (nI s)), some (.int 2), some (.int x), some (.int (nI j)), some (.int 0)]) 102 dX5_act_102 (by decide) rfl ?_
  refine J_aload_n 104 0 dX5_act_104 rfl rfl ?_
  refine g_206 (v := .ref de) 105 0 rfl rfl dX5_act_105 ?_
  refine g_179 (v := .int 1) 108 10 rfl rfl dX5_act_108 ?_
  refine J_if_eq (tgt := 119) 111 dX5_act_111 (by decide) (fun c_4_ => absurd c_4_ (by decide)) (fun _ => ?_)
  refine J_bipush (v := (-15)) 114 dX5_act_114 rfl ?_
  refine J_goto (tgt := 121) 116 dX5_act_116 (by decide) ?_
  exact J_iret 121 dX5_act_121 rfl (cg1 (fun (x0_ : Nat) => (wF [wMe o (An 0) (Ak 0) (At 0) (Ad 0) kk tp rw rc sh sf de, wCt G An la ns sd to he sw nh ki te mi ar z, wDe de bo x0_ 1 2 (nI j) (te j), wI G bo 30 (pF [12] dbo 0), wQ G sf 4 4 sff, wSf Fa 1 (nI j) fso fsz])) (0 + 1) 1 rfl)
set_option maxRecDepth 100000 in
set_option maxHeartbeats 4000000 in
theorem c_X5_act_2_3 (l : Launch) (G : Gd) (s : Nat) (x : Int32) (Fa : Nat) (j : Nat) (o : Nat) (An : Nat → Nat) (Ak : Nat → Nat) (At : Nat → Nat) (Ad : Nat → Nat) (kk : Int32) (tp : Nat) (rw : Nat) (rc : Nat) (sh : Nat) (sf : Nat) (de : Nat) (la : Nat → Int32) (ns : Nat) (sd : Nat) (to : Nat → Int32) (he : Nat → Int32) (sw : Nat → Int32) (nh : Nat) (ki : Nat → Int32) (te : Nat → Int32) (mi : Nat → Int32) (ar : Nat → Int32) (z : Int32) (bo : Nat) (ct : Nat) (pz : Int32) (dk : Int32) (nu : Int32) (dt : Int32) (dbo : Nat → Int32) (sff : Nat → Option Nat) (fso : Int32) (fsz : Int32) (hs : s ≤ 3) (hy : sff s = some Fa) (hj : j < nh) (hnh : nh ≤ 8) (hk : ki j = 2) (hz : ¬ (te j) - (nI j) = 0) : Ct l G yX5_act cX5_act 6 (some (FieldType.int)) 8 [.ref o, .int (nI s), .int 3, .int x] (wF [wMe o (An 0) (Ak 0) (At 0) (Ad 0) kk tp rw rc sh sf de, wCt G An la ns sd to he sw nh ki te mi ar z, wDe de bo ct pz dk nu dt, wI G bo 30 dbo, wQ G sf 4 4 sff, wSf Fa 1 (nI j) fso fsz]) (some (.int (((((x * 5 + (nI j)) - 4) - (te j)) ^^^ 150) + ((nI j) / ((te j) - (nI j)))))) (wF [wMe o (An 0) (Ak 0) (At 0) (Ad 0) kk tp rw rc sh sf de, wCt G An la ns sd to he sw nh ki te mi ar z, wDe de bo 6 0 2 (nI j) (te j), wI G bo 30 (pF [31, 13, 11, 30, 10, 12] dbo 0), wQ G sf 4 4 sff, wSf Fa 1 (nI j) fso fsz]) := by
  refine Ct.of "GooseArms" [some (.ref o), some (.int (nI s)), some (.int 3), some (.int x), none, none] (by decide +kernel) rfl (Nat.le_of_ble_eq_true rfl) rfl ?_
  refine J_aload_n 0 0 dX5_act_0 rfl rfl ?_
  refine g_206 (v := .ref de) 1 0 rfl rfl dX5_act_1 ?_
  refine J_iconst (v := 0) 4 dX5_act_4 rfl ?_
  refine p_177 (ws' := (wF [wMe o (An 0) (Ak 0) (At 0) (Ad 0) kk tp rw rc sh sf de, wCt G An la ns sd to he sw nh ki te mi ar z, wDe de bo 0 pz dk nu dt, wI G bo 30 dbo, wQ G sf 4 4 sff, wSf Fa 1 (nI j) fso fsz])) 5 10 rfl rfl rfl (Nat.le_of_ble_eq_true rfl) rfl dX5_act_5 ?_
  refine J_iload_n 8 1 dX5_act_8 rfl rfl ?_
  refine kb_RX5_219 (bs' := [wMe o (An 0) (Ak 0) (At 0) (Ad 0) kk tp rw rc sh sf de, wCt G An la ns sd to he sw nh ki te mi ar z, wDe de bo 0 pz dk nu dt, wI G bo 30 dbo, wQ G sf 4 4 sff, wSf Fa 1 (nI j) fso fsz]) (rest := []) (st' := [.int 1]) 9 (c_X5_isPlace_t l G s (by first | omega | assumption)) [] rfl rfl [] rfl rfl rfl rfl rfl rfl (Nat.le_of_ble_eq_true rfl) rfl dX5_act_9 ?_
  refine J_if_eq (tgt := 37) 12 dX5_act_12 (by decide) (fun c_1_ => absurd c_1_ (by decide)) (fun _ => ?_)
  refine J_iload_n 15 2 dX5_act_15 rfl rfl ?_
  refine J_iconst (v := 0) 16 dX5_act_16 rfl ?_
  refine J_iconst (v := 3) 17 dX5_act_17 rfl ?_
  refine kb_RX5_65 (bs' := [wMe o (An 0) (Ak 0) (At 0) (Ad 0) kk tp rw rc sh sf de, wCt G An la ns sd to he sw nh ki te mi ar z, wDe de bo 0 pz dk nu dt, wI G bo 30 dbo, wQ G sf 4 4 sff, wSf Fa 1 (nI j) fso fsz]) (rest := []) (st' := [.int 1]) 18 (c_X5_within_t l G 3 0 3 (by decide)) [] rfl rfl [] rfl rfl rfl rfl rfl rfl (Nat.le_of_ble_eq_true rfl) rfl dX5_act_18 ?_
  refine J_if_eq (tgt := 37) 21 dX5_act_21 (by decide) (fun c_2_ => absurd c_2_ (by decide)) (fun _ => ?_)
  refine J_aload_n 24 0 dX5_act_24 rfl rfl ?_
  refine J_aload_n 25 0 dX5_act_25 rfl rfl ?_
  refine g_205 (v := .ref sf) 26 0 rfl rfl dX5_act_26 ?_
  refine J_iload_n 29 1 dX5_act_29 rfl rfl ?_
  refine J_aldq (b := Fa) 30 12 4 s rfl rfl rfl (by omega) (by decide) hy dX5_act_30 ?_
  refine kb_RX5_292 (bs' := [wMe o (An 0) (Ak 0) (At 0) (Ad 0) kk tp rw rc sh sf de, wCt G An la ns sd to he sw nh ki te mi ar z, wDe de bo 0 pz dk nu dt, wI G bo 30 dbo, wQ G sf 4 4 sff, wSf Fa 1 (nI j) fso fsz]) (rest := []) (st' := [.int 1]) 31 (c_X5_holdsHearer_t l G j o An Ak At Ad kk tp rw rc sh sf de la ns sd to he sw nh ki te mi ar z Fa fso fsz (by first | omega | assumption) (by first | omega | assumption)) [0, 1, 5] 0 rfl rfl rfl [[o], [An 0, An 1, An 2, An 3, An 4, An 5, An 6, An 7, An 8], [Fa]] rfl rfl rfl rfl rfl rfl (Nat.le_of_ble_eq_true rfl) rfl dX5_act_31 ?_
  refine J_if_ne (tgt := 39) 34 dX5_act_34 (by decide) (fun _ => ?_) (fun c_3_ => absurd c_3_ (by decide))
  refine J_aload_n 39 0 dX5_act_39 rfl rfl ?_
  refine g_205 (v := .ref sf) 40 0 rfl rfl dX5_act_40 ?_
  refine J_iload_n 43 1 dX5_act_43 rfl rfl ?_
  refine J_aldq (b := Fa) 44 12 4 s rfl rfl rfl (by omega) (by decide) hy dX5_act_44 ?_
  refine g_154 (v := .int (nI j)) 45 13 rfl rfl dX5_act_45 ?_
  refine J_istore (lv' := [some (.ref o), some (.int (nI s)), some (.int 3), some (.int x), some (.int (nI j)), none]) 48 dX5_act_48 (by decide) rfl ?_
  refine J_aload_n 50 0 dX5_act_50 rfl rfl ?_
  refine g_206 (v := .ref de) 51 0 rfl rfl dX5_act_51 ?_
  refine J_aload_n 54 0 dX5_act_54 rfl rfl ?_
  refine g_196 (v := .ref (An 0)) 55 0 rfl rfl dX5_act_55 ?_
  refine g_56 (v := .ref (An 5)) 58 1 rfl rfl dX5_act_58 ?_
  refine J_iload 61 dX5_act_61 rfl ?_
  refine J_iald 63 6 j rfl rfl (by omega) (by decide) dX5_act_63 ?_
  refine J_topi (y := 2) 64 hk ?_
  refine J_iload 64 dX5_act_64 rfl ?_
  refine J_aload_n 66 0 dX5_act_66 rfl rfl ?_
  refine g_196 (v := .ref (An 0)) 67 0 rfl rfl dX5_act_67 ?_
  refine g_58 (v := .ref (An 6)) 70 1 rfl rfl dX5_act_70 ?_
  refine J_iload 73 dX5_act_73 rfl ?_
  refine J_iald 75 7 j rfl rfl (by omega) (by decide) dX5_act_75 ?_
  refine kb_RX5_305 (bs' := [wMe o (An 0) (Ak 0) (At 0) (Ad 0) kk tp rw rc sh sf de, wCt G An la ns sd to he sw nh ki te mi ar z, wDe de bo 0 0 2 (nI j) (te j), wI G bo 30 dbo, wQ G sf 4 4 sff, wSf Fa 1 (nI j) fso fsz]) (rest := []) (st' := []) 76 (c_X1_begin l G 2 (nI j) (te j) de bo 0 pz dk nu dt ) [2] 10 rfl rfl rfl [[de]] rfl rfl rfl rfl rfl rfl (Nat.le_of_ble_eq_true rfl) rfl dX5_act_76 ?_
  refine J_aload_n 79 0 dX5_act_79 rfl rfl ?_
  refine g_206 (v := .ref de) 80 0 rfl rfl dX5_act_80 ?_
  refine J_aload_n 83 0 dX5_act_83 rfl rfl ?_
  refine g_196 (v := .ref (An 0)) 84 0 rfl rfl dX5_act_84 ?_
  refine g_56 (v := .ref (An 5)) 87 1 rfl rfl dX5_act_87 ?_
  refine J_iload 90 dX5_act_90 rfl ?_
  refine J_iald 92 6 j rfl rfl (by omega) (by decide) dX5_act_92 ?_
  refine J_topi (y := 2) 93 hk ?_
  refine J_iload_n 93 2 dX5_act_93 rfl rfl ?_
  refine kb_RX5_308 (bs' := [wMe o (An 0) (Ak 0) (At 0) (Ad 0) kk tp rw rc sh sf de, wCt G An la ns sd to he sw nh ki te mi ar z, wDe de bo 0 0 2 (nI j) (te j), wI G bo 30 dbo, wQ G sf 4 4 sff, wSf Fa 1 (nI j) fso fsz]) (rest := [.ref de]) (st' := [.int 31, .ref de]) 94 (c_X1_bodyOf_2_3 l G  ) [] rfl rfl [] rfl rfl rfl rfl rfl rfl (Nat.le_of_ble_eq_true rfl) rfl dX5_act_94 ?_
  refine J_iload_n 97 3 dX5_act_97 rfl rfl ?_
  refine J_iconst (v := 0) 98 dX5_act_98 rfl ?_
  refine kb_RX5_311 (bs' := [wMe o (An 0) (Ak 0) (At 0) (Ad 0) kk tp rw rc sh sf de, wCt G An la ns sd to he sw nh ki te mi ar z, wDe de bo (0 + 6) 0 2 (nI j) (te j), wI G bo 30 (pF [31, 13, 11, 30, 10, 12] dbo 0), wQ G sf 4 4 sff, wSf Fa 1 (nI j) fso fsz]) (rest := []) (st' := [.int (((((x * 5 + (nI j)) - 4) - (te j)) ^^^ 150) + ((nI j) / ((te j) - (nI j))))]) 99 (c_runs_2_31 l G x 0 de bo 0 (nI j) (te j) dbo (by decide) (by decide) hz) [2, 3] rfl rfl [[de], [bo]] rfl rfl rfl rfl rfl rfl (Nat.le_of_ble_eq_true rfl) rfl dX5_act_99 ?_
  refine J_istore (lv' := [some (.ref o), some (.int (nI s)), some (.int 3), some (.int x), some (.int (nI j)), some (.int (((((x * 5 + (nI j)) - 4) - (te j)) ^^^ 150) + ((nI j) / ((te j) - (nI j)))))]) 102 dX5_act_102 (by decide) rfl ?_
  refine J_aload_n 104 0 dX5_act_104 rfl rfl ?_
  refine g_206 (v := .ref de) 105 0 rfl rfl dX5_act_105 ?_
  refine g_179 (v := .int 0) 108 10 rfl rfl dX5_act_108 ?_
  refine J_if_eq (tgt := 119) 111 dX5_act_111 (by decide) (fun _ => ?_) (fun c_4_ => absurd c_4_ (by decide))
  refine J_iload 119 dX5_act_119 rfl ?_
  exact J_iret 121 dX5_act_121 rfl (cg1 (fun (x0_ : Nat) => (wF [wMe o (An 0) (Ak 0) (At 0) (Ad 0) kk tp rw rc sh sf de, wCt G An la ns sd to he sw nh ki te mi ar z, wDe de bo x0_ 0 2 (nI j) (te j), wI G bo 30 (pF [31, 13, 11, 30, 10, 12] dbo 0), wQ G sf 4 4 sff, wSf Fa 1 (nI j) fso fsz])) (0 + 6) 6 rfl)
set_option maxRecDepth 100000 in
set_option maxHeartbeats 4000000 in
theorem c_X5_act_2_3z (l : Launch) (G : Gd) (s : Nat) (x : Int32) (Fa : Nat) (j : Nat) (o : Nat) (An : Nat → Nat) (Ak : Nat → Nat) (At : Nat → Nat) (Ad : Nat → Nat) (kk : Int32) (tp : Nat) (rw : Nat) (rc : Nat) (sh : Nat) (sf : Nat) (de : Nat) (la : Nat → Int32) (ns : Nat) (sd : Nat) (to : Nat → Int32) (he : Nat → Int32) (sw : Nat → Int32) (nh : Nat) (ki : Nat → Int32) (te : Nat → Int32) (mi : Nat → Int32) (ar : Nat → Int32) (z : Int32) (bo : Nat) (ct : Nat) (pz : Int32) (dk : Int32) (nu : Int32) (dt : Int32) (dbo : Nat → Int32) (sff : Nat → Option Nat) (fso : Int32) (fsz : Int32) (hs : s ≤ 3) (hy : sff s = some Fa) (hj : j < nh) (hnh : nh ≤ 8) (hk : ki j = 2) (hz : (te j) - (nI j) = 0) : Ct l G yX5_act cX5_act 6 (some (FieldType.int)) 8 [.ref o, .int (nI s), .int 3, .int x] (wF [wMe o (An 0) (Ak 0) (At 0) (Ad 0) kk tp rw rc sh sf de, wCt G An la ns sd to he sw nh ki te mi ar z, wDe de bo ct pz dk nu dt, wI G bo 30 dbo, wQ G sf 4 4 sff, wSf Fa 1 (nI j) fso fsz]) (some (.int (-15))) (wF [wMe o (An 0) (Ak 0) (At 0) (Ad 0) kk tp rw rc sh sf de, wCt G An la ns sd to he sw nh ki te mi ar z, wDe de bo 6 1 2 (nI j) (te j), wI G bo 30 (pF [31, 13, 11, 30, 10, 12] dbo 0), wQ G sf 4 4 sff, wSf Fa 1 (nI j) fso fsz]) := by
  refine Ct.of "GooseArms" [some (.ref o), some (.int (nI s)), some (.int 3), some (.int x), none, none] (by decide +kernel) rfl (Nat.le_of_ble_eq_true rfl) rfl ?_
  refine J_aload_n 0 0 dX5_act_0 rfl rfl ?_
  refine g_206 (v := .ref de) 1 0 rfl rfl dX5_act_1 ?_
  refine J_iconst (v := 0) 4 dX5_act_4 rfl ?_
  refine p_177 (ws' := (wF [wMe o (An 0) (Ak 0) (At 0) (Ad 0) kk tp rw rc sh sf de, wCt G An la ns sd to he sw nh ki te mi ar z, wDe de bo 0 pz dk nu dt, wI G bo 30 dbo, wQ G sf 4 4 sff, wSf Fa 1 (nI j) fso fsz])) 5 10 rfl rfl rfl (Nat.le_of_ble_eq_true rfl) rfl dX5_act_5 ?_
  refine J_iload_n 8 1 dX5_act_8 rfl rfl ?_
  refine kb_RX5_219 (bs' := [wMe o (An 0) (Ak 0) (At 0) (Ad 0) kk tp rw rc sh sf de, wCt G An la ns sd to he sw nh ki te mi ar z, wDe de bo 0 pz dk nu dt, wI G bo 30 dbo, wQ G sf 4 4 sff, wSf Fa 1 (nI j) fso fsz]) (rest := []) (st' := [.int 1]) 9 (c_X5_isPlace_t l G s (by first | omega | assumption)) [] rfl rfl [] rfl rfl rfl rfl rfl rfl (Nat.le_of_ble_eq_true rfl) rfl dX5_act_9 ?_
  refine J_if_eq (tgt := 37) 12 dX5_act_12 (by decide) (fun c_1_ => absurd c_1_ (by decide)) (fun _ => ?_)
  refine J_iload_n 15 2 dX5_act_15 rfl rfl ?_
  refine J_iconst (v := 0) 16 dX5_act_16 rfl ?_
  refine J_iconst (v := 3) 17 dX5_act_17 rfl ?_
  refine kb_RX5_65 (bs' := [wMe o (An 0) (Ak 0) (At 0) (Ad 0) kk tp rw rc sh sf de, wCt G An la ns sd to he sw nh ki te mi ar z, wDe de bo 0 pz dk nu dt, wI G bo 30 dbo, wQ G sf 4 4 sff, wSf Fa 1 (nI j) fso fsz]) (rest := []) (st' := [.int 1]) 18 (c_X5_within_t l G 3 0 3 (by decide)) [] rfl rfl [] rfl rfl rfl rfl rfl rfl (Nat.le_of_ble_eq_true rfl) rfl dX5_act_18 ?_
  refine J_if_eq (tgt := 37) 21 dX5_act_21 (by decide) (fun c_2_ => absurd c_2_ (by decide)) (fun _ => ?_)
  refine J_aload_n 24 0 dX5_act_24 rfl rfl ?_
  refine J_aload_n 25 0 dX5_act_25 rfl rfl ?_
  refine g_205 (v := .ref sf) 26 0 rfl rfl dX5_act_26 ?_
  refine J_iload_n 29 1 dX5_act_29 rfl rfl ?_
  refine J_aldq (b := Fa) 30 12 4 s rfl rfl rfl (by omega) (by decide) hy dX5_act_30 ?_
  refine kb_RX5_292 (bs' := [wMe o (An 0) (Ak 0) (At 0) (Ad 0) kk tp rw rc sh sf de, wCt G An la ns sd to he sw nh ki te mi ar z, wDe de bo 0 pz dk nu dt, wI G bo 30 dbo, wQ G sf 4 4 sff, wSf Fa 1 (nI j) fso fsz]) (rest := []) (st' := [.int 1]) 31 (c_X5_holdsHearer_t l G j o An Ak At Ad kk tp rw rc sh sf de la ns sd to he sw nh ki te mi ar z Fa fso fsz (by first | omega | assumption) (by first | omega | assumption)) [0, 1, 5] 0 rfl rfl rfl [[o], [An 0, An 1, An 2, An 3, An 4, An 5, An 6, An 7, An 8], [Fa]] rfl rfl rfl rfl rfl rfl (Nat.le_of_ble_eq_true rfl) rfl dX5_act_31 ?_
  refine J_if_ne (tgt := 39) 34 dX5_act_34 (by decide) (fun _ => ?_) (fun c_3_ => absurd c_3_ (by decide))
  refine J_aload_n 39 0 dX5_act_39 rfl rfl ?_
  refine g_205 (v := .ref sf) 40 0 rfl rfl dX5_act_40 ?_
  refine J_iload_n 43 1 dX5_act_43 rfl rfl ?_
  refine J_aldq (b := Fa) 44 12 4 s rfl rfl rfl (by omega) (by decide) hy dX5_act_44 ?_
  refine g_154 (v := .int (nI j)) 45 13 rfl rfl dX5_act_45 ?_
  refine J_istore (lv' := [some (.ref o), some (.int (nI s)), some (.int 3), some (.int x), some (.int (nI j)), none]) 48 dX5_act_48 (by decide) rfl ?_
  refine J_aload_n 50 0 dX5_act_50 rfl rfl ?_
  refine g_206 (v := .ref de) 51 0 rfl rfl dX5_act_51 ?_
  refine J_aload_n 54 0 dX5_act_54 rfl rfl ?_
  refine g_196 (v := .ref (An 0)) 55 0 rfl rfl dX5_act_55 ?_
  refine g_56 (v := .ref (An 5)) 58 1 rfl rfl dX5_act_58 ?_
  refine J_iload 61 dX5_act_61 rfl ?_
  refine J_iald 63 6 j rfl rfl (by omega) (by decide) dX5_act_63 ?_
  refine J_topi (y := 2) 64 hk ?_
  refine J_iload 64 dX5_act_64 rfl ?_
  refine J_aload_n 66 0 dX5_act_66 rfl rfl ?_
  refine g_196 (v := .ref (An 0)) 67 0 rfl rfl dX5_act_67 ?_
  refine g_58 (v := .ref (An 6)) 70 1 rfl rfl dX5_act_70 ?_
  refine J_iload 73 dX5_act_73 rfl ?_
  refine J_iald 75 7 j rfl rfl (by omega) (by decide) dX5_act_75 ?_
  refine kb_RX5_305 (bs' := [wMe o (An 0) (Ak 0) (At 0) (Ad 0) kk tp rw rc sh sf de, wCt G An la ns sd to he sw nh ki te mi ar z, wDe de bo 0 0 2 (nI j) (te j), wI G bo 30 dbo, wQ G sf 4 4 sff, wSf Fa 1 (nI j) fso fsz]) (rest := []) (st' := []) 76 (c_X1_begin l G 2 (nI j) (te j) de bo 0 pz dk nu dt ) [2] 10 rfl rfl rfl [[de]] rfl rfl rfl rfl rfl rfl (Nat.le_of_ble_eq_true rfl) rfl dX5_act_76 ?_
  refine J_aload_n 79 0 dX5_act_79 rfl rfl ?_
  refine g_206 (v := .ref de) 80 0 rfl rfl dX5_act_80 ?_
  refine J_aload_n 83 0 dX5_act_83 rfl rfl ?_
  refine g_196 (v := .ref (An 0)) 84 0 rfl rfl dX5_act_84 ?_
  refine g_56 (v := .ref (An 5)) 87 1 rfl rfl dX5_act_87 ?_
  refine J_iload 90 dX5_act_90 rfl ?_
  refine J_iald 92 6 j rfl rfl (by omega) (by decide) dX5_act_92 ?_
  refine J_topi (y := 2) 93 hk ?_
  refine J_iload_n 93 2 dX5_act_93 rfl rfl ?_
  refine kb_RX5_308 (bs' := [wMe o (An 0) (Ak 0) (At 0) (Ad 0) kk tp rw rc sh sf de, wCt G An la ns sd to he sw nh ki te mi ar z, wDe de bo 0 0 2 (nI j) (te j), wI G bo 30 dbo, wQ G sf 4 4 sff, wSf Fa 1 (nI j) fso fsz]) (rest := [.ref de]) (st' := [.int 31, .ref de]) 94 (c_X1_bodyOf_2_3 l G  ) [] rfl rfl [] rfl rfl rfl rfl rfl rfl (Nat.le_of_ble_eq_true rfl) rfl dX5_act_94 ?_
  refine J_iload_n 97 3 dX5_act_97 rfl rfl ?_
  refine J_iconst (v := 0) 98 dX5_act_98 rfl ?_
  refine kb_RX5_311 (bs' := [wMe o (An 0) (Ak 0) (At 0) (Ad 0) kk tp rw rc sh sf de, wCt G An la ns sd to he sw nh ki te mi ar z, wDe de bo (0 + 6) 1 2 (nI j) (te j), wI G bo 30 (pF [31, 13, 11, 30, 10, 12] dbo 0), wQ G sf 4 4 sff, wSf Fa 1 (nI j) fso fsz]) (rest := []) (st' := [.int (((((x * 5 + (nI j)) - 4) - (te j)) ^^^ 150) + 0)]) 99 (c_runs_2_31z l G x 0 de bo 0 (nI j) (te j) dbo (by decide) (by decide) hz) [2, 3] rfl rfl [[de], [bo]] rfl rfl rfl rfl rfl rfl (Nat.le_of_ble_eq_true rfl) rfl dX5_act_99 ?_
  refine J_istore (lv' := [some (.ref o), some (.int (nI s)), some (.int 3), some (.int x), some (.int (nI j)), some (.int (((((x * 5 + (nI j)) - 4) - (te j)) ^^^ 150) + 0))]) 102 dX5_act_102 (by decide) rfl ?_
  refine J_aload_n 104 0 dX5_act_104 rfl rfl ?_
  refine g_206 (v := .ref de) 105 0 rfl rfl dX5_act_105 ?_
  refine g_179 (v := .int 1) 108 10 rfl rfl dX5_act_108 ?_
  refine J_if_eq (tgt := 119) 111 dX5_act_111 (by decide) (fun c_4_ => absurd c_4_ (by decide)) (fun _ => ?_)
  refine J_bipush (v := (-15)) 114 dX5_act_114 rfl ?_
  refine J_goto (tgt := 121) 116 dX5_act_116 (by decide) ?_
  exact J_iret 121 dX5_act_121 rfl (cg1 (fun (x0_ : Nat) => (wF [wMe o (An 0) (Ak 0) (At 0) (Ad 0) kk tp rw rc sh sf de, wCt G An la ns sd to he sw nh ki te mi ar z, wDe de bo x0_ 1 2 (nI j) (te j), wI G bo 30 (pF [31, 13, 11, 30, 10, 12] dbo 0), wQ G sf 4 4 sff, wSf Fa 1 (nI j) fso fsz])) (0 + 6) 6 rfl)
set_option maxRecDepth 100000 in
set_option maxHeartbeats 4000000 in
theorem c_X5_act_3_0 (l : Launch) (G : Gd) (s : Nat) (x : Int32) (Fa : Nat) (j : Nat) (o : Nat) (An : Nat → Nat) (Ak : Nat → Nat) (At : Nat → Nat) (Ad : Nat → Nat) (kk : Int32) (tp : Nat) (rw : Nat) (rc : Nat) (sh : Nat) (sf : Nat) (de : Nat) (la : Nat → Int32) (ns : Nat) (sd : Nat) (to : Nat → Int32) (he : Nat → Int32) (sw : Nat → Int32) (nh : Nat) (ki : Nat → Int32) (te : Nat → Int32) (mi : Nat → Int32) (ar : Nat → Int32) (z : Int32) (bo : Nat) (ct : Nat) (pz : Int32) (dk : Int32) (nu : Int32) (dt : Int32) (dbo : Nat → Int32) (sff : Nat → Option Nat) (fso : Int32) (fsz : Int32) (hs : s ≤ 3) (hy : sff s = some Fa) (hj : j < nh) (hnh : nh ≤ 8) (hk : ki j = 3) : Ct l G yX5_act cX5_act 6 (some (FieldType.int)) 8 [.ref o, .int (nI s), .int 0, .int x] (wF [wMe o (An 0) (Ak 0) (At 0) (Ad 0) kk tp rw rc sh sf de, wCt G An la ns sd to he sw nh ki te mi ar z, wDe de bo ct pz dk nu dt, wI G bo 30 dbo, wQ G sf 4 4 sff, wSf Fa 1 (nI j) fso fsz]) (some (.int ((x * 5 + (nI j)) + (te j)))) (wF [wMe o (An 0) (Ak 0) (At 0) (Ad 0) kk tp rw rc sh sf de, wCt G An la ns sd to he sw nh ki te mi ar z, wDe de bo 2 0 3 (nI j) (te j), wI G bo 30 (pF [51, 10] dbo 0), wQ G sf 4 4 sff, wSf Fa 1 (nI j) fso fsz]) := by
  refine Ct.of "GooseArms" [some (.ref o), some (.int (nI s)), some (.int 0), some (.int x), none, none] (by decide +kernel) rfl (Nat.le_of_ble_eq_true rfl) rfl ?_
  refine J_aload_n 0 0 dX5_act_0 rfl rfl ?_
  refine g_206 (v := .ref de) 1 0 rfl rfl dX5_act_1 ?_
  refine J_iconst (v := 0) 4 dX5_act_4 rfl ?_
  refine p_177 (ws' := (wF [wMe o (An 0) (Ak 0) (At 0) (Ad 0) kk tp rw rc sh sf de, wCt G An la ns sd to he sw nh ki te mi ar z, wDe de bo 0 pz dk nu dt, wI G bo 30 dbo, wQ G sf 4 4 sff, wSf Fa 1 (nI j) fso fsz])) 5 10 rfl rfl rfl (Nat.le_of_ble_eq_true rfl) rfl dX5_act_5 ?_
  refine J_iload_n 8 1 dX5_act_8 rfl rfl ?_
  refine kb_RX5_219 (bs' := [wMe o (An 0) (Ak 0) (At 0) (Ad 0) kk tp rw rc sh sf de, wCt G An la ns sd to he sw nh ki te mi ar z, wDe de bo 0 pz dk nu dt, wI G bo 30 dbo, wQ G sf 4 4 sff, wSf Fa 1 (nI j) fso fsz]) (rest := []) (st' := [.int 1]) 9 (c_X5_isPlace_t l G s (by first | omega | assumption)) [] rfl rfl [] rfl rfl rfl rfl rfl rfl (Nat.le_of_ble_eq_true rfl) rfl dX5_act_9 ?_
  refine J_if_eq (tgt := 37) 12 dX5_act_12 (by decide) (fun c_1_ => absurd c_1_ (by decide)) (fun _ => ?_)
  refine J_iload_n 15 2 dX5_act_15 rfl rfl ?_
  refine J_iconst (v := 0) 16 dX5_act_16 rfl ?_
  refine J_iconst (v := 3) 17 dX5_act_17 rfl ?_
  refine kb_RX5_65 (bs' := [wMe o (An 0) (Ak 0) (At 0) (Ad 0) kk tp rw rc sh sf de, wCt G An la ns sd to he sw nh ki te mi ar z, wDe de bo 0 pz dk nu dt, wI G bo 30 dbo, wQ G sf 4 4 sff, wSf Fa 1 (nI j) fso fsz]) (rest := []) (st' := [.int 1]) 18 (c_X5_within_t l G 0 0 3 (by decide)) [] rfl rfl [] rfl rfl rfl rfl rfl rfl (Nat.le_of_ble_eq_true rfl) rfl dX5_act_18 ?_
  refine J_if_eq (tgt := 37) 21 dX5_act_21 (by decide) (fun c_2_ => absurd c_2_ (by decide)) (fun _ => ?_)
  refine J_aload_n 24 0 dX5_act_24 rfl rfl ?_
  refine J_aload_n 25 0 dX5_act_25 rfl rfl ?_
  refine g_205 (v := .ref sf) 26 0 rfl rfl dX5_act_26 ?_
  refine J_iload_n 29 1 dX5_act_29 rfl rfl ?_
  refine J_aldq (b := Fa) 30 12 4 s rfl rfl rfl (by omega) (by decide) hy dX5_act_30 ?_
  refine kb_RX5_292 (bs' := [wMe o (An 0) (Ak 0) (At 0) (Ad 0) kk tp rw rc sh sf de, wCt G An la ns sd to he sw nh ki te mi ar z, wDe de bo 0 pz dk nu dt, wI G bo 30 dbo, wQ G sf 4 4 sff, wSf Fa 1 (nI j) fso fsz]) (rest := []) (st' := [.int 1]) 31 (c_X5_holdsHearer_t l G j o An Ak At Ad kk tp rw rc sh sf de la ns sd to he sw nh ki te mi ar z Fa fso fsz (by first | omega | assumption) (by first | omega | assumption)) [0, 1, 5] 0 rfl rfl rfl [[o], [An 0, An 1, An 2, An 3, An 4, An 5, An 6, An 7, An 8], [Fa]] rfl rfl rfl rfl rfl rfl (Nat.le_of_ble_eq_true rfl) rfl dX5_act_31 ?_
  refine J_if_ne (tgt := 39) 34 dX5_act_34 (by decide) (fun _ => ?_) (fun c_3_ => absurd c_3_ (by decide))
  refine J_aload_n 39 0 dX5_act_39 rfl rfl ?_
  refine g_205 (v := .ref sf) 40 0 rfl rfl dX5_act_40 ?_
  refine J_iload_n 43 1 dX5_act_43 rfl rfl ?_
  refine J_aldq (b := Fa) 44 12 4 s rfl rfl rfl (by omega) (by decide) hy dX5_act_44 ?_
  refine g_154 (v := .int (nI j)) 45 13 rfl rfl dX5_act_45 ?_
  refine J_istore (lv' := [some (.ref o), some (.int (nI s)), some (.int 0), some (.int x), some (.int (nI j)), none]) 48 dX5_act_48 (by decide) rfl ?_
  refine J_aload_n 50 0 dX5_act_50 rfl rfl ?_
  refine g_206 (v := .ref de) 51 0 rfl rfl dX5_act_51 ?_
  refine J_aload_n 54 0 dX5_act_54 rfl rfl ?_
  refine g_196 (v := .ref (An 0)) 55 0 rfl rfl dX5_act_55 ?_
  refine g_56 (v := .ref (An 5)) 58 1 rfl rfl dX5_act_58 ?_
  refine J_iload 61 dX5_act_61 rfl ?_
  refine J_iald 63 6 j rfl rfl (by omega) (by decide) dX5_act_63 ?_
  refine J_topi (y := 3) 64 hk ?_
  refine J_iload 64 dX5_act_64 rfl ?_
  refine J_aload_n 66 0 dX5_act_66 rfl rfl ?_
  refine g_196 (v := .ref (An 0)) 67 0 rfl rfl dX5_act_67 ?_
  refine g_58 (v := .ref (An 6)) 70 1 rfl rfl dX5_act_70 ?_
  refine J_iload 73 dX5_act_73 rfl ?_
  refine J_iald 75 7 j rfl rfl (by omega) (by decide) dX5_act_75 ?_
  refine kb_RX5_305 (bs' := [wMe o (An 0) (Ak 0) (At 0) (Ad 0) kk tp rw rc sh sf de, wCt G An la ns sd to he sw nh ki te mi ar z, wDe de bo 0 0 3 (nI j) (te j), wI G bo 30 dbo, wQ G sf 4 4 sff, wSf Fa 1 (nI j) fso fsz]) (rest := []) (st' := []) 76 (c_X1_begin l G 3 (nI j) (te j) de bo 0 pz dk nu dt ) [2] 10 rfl rfl rfl [[de]] rfl rfl rfl rfl rfl rfl (Nat.le_of_ble_eq_true rfl) rfl dX5_act_76 ?_
  refine J_aload_n 79 0 dX5_act_79 rfl rfl ?_
  refine g_206 (v := .ref de) 80 0 rfl rfl dX5_act_80 ?_
  refine J_aload_n 83 0 dX5_act_83 rfl rfl ?_
  refine g_196 (v := .ref (An 0)) 84 0 rfl rfl dX5_act_84 ?_
  refine g_56 (v := .ref (An 5)) 87 1 rfl rfl dX5_act_87 ?_
  refine J_iload 90 dX5_act_90 rfl ?_
  refine J_iald 92 6 j rfl rfl (by omega) (by decide) dX5_act_92 ?_
  refine J_topi (y := 3) 93 hk ?_
  refine J_iload_n 93 2 dX5_act_93 rfl rfl ?_
  refine kb_RX5_308 (bs' := [wMe o (An 0) (Ak 0) (At 0) (Ad 0) kk tp rw rc sh sf de, wCt G An la ns sd to he sw nh ki te mi ar z, wDe de bo 0 0 3 (nI j) (te j), wI G bo 30 dbo, wQ G sf 4 4 sff, wSf Fa 1 (nI j) fso fsz]) (rest := [.ref de]) (st' := [.int 51, .ref de]) 94 (c_X1_bodyOf_3_0 l G  ) [] rfl rfl [] rfl rfl rfl rfl rfl rfl (Nat.le_of_ble_eq_true rfl) rfl dX5_act_94 ?_
  refine J_iload_n 97 3 dX5_act_97 rfl rfl ?_
  refine J_iconst (v := 0) 98 dX5_act_98 rfl ?_
  refine kb_RX5_311 (bs' := [wMe o (An 0) (Ak 0) (At 0) (Ad 0) kk tp rw rc sh sf de, wCt G An la ns sd to he sw nh ki te mi ar z, wDe de bo (0 + 2) 0 3 (nI j) (te j), wI G bo 30 (pF [51, 10] dbo 0), wQ G sf 4 4 sff, wSf Fa 1 (nI j) fso fsz]) (rest := []) (st' := [.int ((x * 5 + (nI j)) + (te j))]) 99 (c_runs_3_51 l G x 0 de bo 0 (nI j) (te j) dbo (by decide) (by decide)) [2, 3] rfl rfl [[de], [bo]] rfl rfl rfl rfl rfl rfl (Nat.le_of_ble_eq_true rfl) rfl dX5_act_99 ?_
  refine J_istore (lv' := [some (.ref o), some (.int (nI s)), some (.int 0), some (.int x), some (.int (nI j)), some (.int ((x * 5 + (nI j)) + (te j)))]) 102 dX5_act_102 (by decide) rfl ?_
  refine J_aload_n 104 0 dX5_act_104 rfl rfl ?_
  refine g_206 (v := .ref de) 105 0 rfl rfl dX5_act_105 ?_
  refine g_179 (v := .int 0) 108 10 rfl rfl dX5_act_108 ?_
  refine J_if_eq (tgt := 119) 111 dX5_act_111 (by decide) (fun _ => ?_) (fun c_4_ => absurd c_4_ (by decide))
  refine J_iload 119 dX5_act_119 rfl ?_
  exact J_iret 121 dX5_act_121 rfl (cg1 (fun (x0_ : Nat) => (wF [wMe o (An 0) (Ak 0) (At 0) (Ad 0) kk tp rw rc sh sf de, wCt G An la ns sd to he sw nh ki te mi ar z, wDe de bo x0_ 0 3 (nI j) (te j), wI G bo 30 (pF [51, 10] dbo 0), wQ G sf 4 4 sff, wSf Fa 1 (nI j) fso fsz])) (0 + 2) 2 rfl)
set_option maxRecDepth 100000 in
set_option maxHeartbeats 4000000 in
theorem c_X5_act_3_1 (l : Launch) (G : Gd) (s : Nat) (x : Int32) (Fa : Nat) (j : Nat) (o : Nat) (An : Nat → Nat) (Ak : Nat → Nat) (At : Nat → Nat) (Ad : Nat → Nat) (kk : Int32) (tp : Nat) (rw : Nat) (rc : Nat) (sh : Nat) (sf : Nat) (de : Nat) (la : Nat → Int32) (ns : Nat) (sd : Nat) (to : Nat → Int32) (he : Nat → Int32) (sw : Nat → Int32) (nh : Nat) (ki : Nat → Int32) (te : Nat → Int32) (mi : Nat → Int32) (ar : Nat → Int32) (z : Int32) (bo : Nat) (ct : Nat) (pz : Int32) (dk : Int32) (nu : Int32) (dt : Int32) (dbo : Nat → Int32) (sff : Nat → Option Nat) (fso : Int32) (fsz : Int32) (hs : s ≤ 3) (hy : sff s = some Fa) (hj : j < nh) (hnh : nh ≤ 8) (hk : ki j = 3) : Ct l G yX5_act cX5_act 6 (some (FieldType.int)) 8 [.ref o, .int (nI s), .int 1, .int x] (wF [wMe o (An 0) (Ak 0) (At 0) (Ad 0) kk tp rw rc sh sf de, wCt G An la ns sd to he sw nh ki te mi ar z, wDe de bo ct pz dk nu dt, wI G bo 30 dbo, wQ G sf 4 4 sff, wSf Fa 1 (nI j) fso fsz]) (some (.int ((((x * 5 + (nI j)) + (te j)) - (te j)) * 2))) (wF [wMe o (An 0) (Ak 0) (At 0) (Ad 0) kk tp rw rc sh sf de, wCt G An la ns sd to he sw nh ki te mi ar z, wDe de bo 4 0 3 (nI j) (te j), wI G bo 30 (pF [20, 11, 51, 10] dbo 0), wQ G sf 4 4 sff, wSf Fa 1 (nI j) fso fsz]) := by
  refine Ct.of "GooseArms" [some (.ref o), some (.int (nI s)), some (.int 1), some (.int x), none, none] (by decide +kernel) rfl (Nat.le_of_ble_eq_true rfl) rfl ?_
  refine J_aload_n 0 0 dX5_act_0 rfl rfl ?_
  refine g_206 (v := .ref de) 1 0 rfl rfl dX5_act_1 ?_
  refine J_iconst (v := 0) 4 dX5_act_4 rfl ?_
  refine p_177 (ws' := (wF [wMe o (An 0) (Ak 0) (At 0) (Ad 0) kk tp rw rc sh sf de, wCt G An la ns sd to he sw nh ki te mi ar z, wDe de bo 0 pz dk nu dt, wI G bo 30 dbo, wQ G sf 4 4 sff, wSf Fa 1 (nI j) fso fsz])) 5 10 rfl rfl rfl (Nat.le_of_ble_eq_true rfl) rfl dX5_act_5 ?_
  refine J_iload_n 8 1 dX5_act_8 rfl rfl ?_
  refine kb_RX5_219 (bs' := [wMe o (An 0) (Ak 0) (At 0) (Ad 0) kk tp rw rc sh sf de, wCt G An la ns sd to he sw nh ki te mi ar z, wDe de bo 0 pz dk nu dt, wI G bo 30 dbo, wQ G sf 4 4 sff, wSf Fa 1 (nI j) fso fsz]) (rest := []) (st' := [.int 1]) 9 (c_X5_isPlace_t l G s (by first | omega | assumption)) [] rfl rfl [] rfl rfl rfl rfl rfl rfl (Nat.le_of_ble_eq_true rfl) rfl dX5_act_9 ?_
  refine J_if_eq (tgt := 37) 12 dX5_act_12 (by decide) (fun c_1_ => absurd c_1_ (by decide)) (fun _ => ?_)
  refine J_iload_n 15 2 dX5_act_15 rfl rfl ?_
  refine J_iconst (v := 0) 16 dX5_act_16 rfl ?_
  refine J_iconst (v := 3) 17 dX5_act_17 rfl ?_
  refine kb_RX5_65 (bs' := [wMe o (An 0) (Ak 0) (At 0) (Ad 0) kk tp rw rc sh sf de, wCt G An la ns sd to he sw nh ki te mi ar z, wDe de bo 0 pz dk nu dt, wI G bo 30 dbo, wQ G sf 4 4 sff, wSf Fa 1 (nI j) fso fsz]) (rest := []) (st' := [.int 1]) 18 (c_X5_within_t l G 1 0 3 (by decide)) [] rfl rfl [] rfl rfl rfl rfl rfl rfl (Nat.le_of_ble_eq_true rfl) rfl dX5_act_18 ?_
  refine J_if_eq (tgt := 37) 21 dX5_act_21 (by decide) (fun c_2_ => absurd c_2_ (by decide)) (fun _ => ?_)
  refine J_aload_n 24 0 dX5_act_24 rfl rfl ?_
  refine J_aload_n 25 0 dX5_act_25 rfl rfl ?_
  refine g_205 (v := .ref sf) 26 0 rfl rfl dX5_act_26 ?_
  refine J_iload_n 29 1 dX5_act_29 rfl rfl ?_
  refine J_aldq (b := Fa) 30 12 4 s rfl rfl rfl (by omega) (by decide) hy dX5_act_30 ?_
  refine kb_RX5_292 (bs' := [wMe o (An 0) (Ak 0) (At 0) (Ad 0) kk tp rw rc sh sf de, wCt G An la ns sd to he sw nh ki te mi ar z, wDe de bo 0 pz dk nu dt, wI G bo 30 dbo, wQ G sf 4 4 sff, wSf Fa 1 (nI j) fso fsz]) (rest := []) (st' := [.int 1]) 31 (c_X5_holdsHearer_t l G j o An Ak At Ad kk tp rw rc sh sf de la ns sd to he sw nh ki te mi ar z Fa fso fsz (by first | omega | assumption) (by first | omega | assumption)) [0, 1, 5] 0 rfl rfl rfl [[o], [An 0, An 1, An 2, An 3, An 4, An 5, An 6, An 7, An 8], [Fa]] rfl rfl rfl rfl rfl rfl (Nat.le_of_ble_eq_true rfl) rfl dX5_act_31 ?_
  refine J_if_ne (tgt := 39) 34 dX5_act_34 (by decide) (fun _ => ?_) (fun c_3_ => absurd c_3_ (by decide))
  refine J_aload_n 39 0 dX5_act_39 rfl rfl ?_
  refine g_205 (v := .ref sf) 40 0 rfl rfl dX5_act_40 ?_
  refine J_iload_n 43 1 dX5_act_43 rfl rfl ?_
  refine J_aldq (b := Fa) 44 12 4 s rfl rfl rfl (by omega) (by decide) hy dX5_act_44 ?_
  refine g_154 (v := .int (nI j)) 45 13 rfl rfl dX5_act_45 ?_
  refine J_istore (lv' := [some (.ref o), some (.int (nI s)), some (.int 1), some (.int x), some (.int (nI j)), none]) 48 dX5_act_48 (by decide) rfl ?_
  refine J_aload_n 50 0 dX5_act_50 rfl rfl ?_
  refine g_206 (v := .ref de) 51 0 rfl rfl dX5_act_51 ?_
  refine J_aload_n 54 0 dX5_act_54 rfl rfl ?_
  refine g_196 (v := .ref (An 0)) 55 0 rfl rfl dX5_act_55 ?_
  refine g_56 (v := .ref (An 5)) 58 1 rfl rfl dX5_act_58 ?_
  refine J_iload 61 dX5_act_61 rfl ?_
  refine J_iald 63 6 j rfl rfl (by omega) (by decide) dX5_act_63 ?_
  refine J_topi (y := 3) 64 hk ?_
  refine J_iload 64 dX5_act_64 rfl ?_
  refine J_aload_n 66 0 dX5_act_66 rfl rfl ?_
  refine g_196 (v := .ref (An 0)) 67 0 rfl rfl dX5_act_67 ?_
  refine g_58 (v := .ref (An 6)) 70 1 rfl rfl dX5_act_70 ?_
  refine J_iload 73 dX5_act_73 rfl ?_
  refine J_iald 75 7 j rfl rfl (by omega) (by decide) dX5_act_75 ?_
  refine kb_RX5_305 (bs' := [wMe o (An 0) (Ak 0) (At 0) (Ad 0) kk tp rw rc sh sf de, wCt G An la ns sd to he sw nh ki te mi ar z, wDe de bo 0 0 3 (nI j) (te j), wI G bo 30 dbo, wQ G sf 4 4 sff, wSf Fa 1 (nI j) fso fsz]) (rest := []) (st' := []) 76 (c_X1_begin l G 3 (nI j) (te j) de bo 0 pz dk nu dt ) [2] 10 rfl rfl rfl [[de]] rfl rfl rfl rfl rfl rfl (Nat.le_of_ble_eq_true rfl) rfl dX5_act_76 ?_
  refine J_aload_n 79 0 dX5_act_79 rfl rfl ?_
  refine g_206 (v := .ref de) 80 0 rfl rfl dX5_act_80 ?_
  refine J_aload_n 83 0 dX5_act_83 rfl rfl ?_
  refine g_196 (v := .ref (An 0)) 84 0 rfl rfl dX5_act_84 ?_
  refine g_56 (v := .ref (An 5)) 87 1 rfl rfl dX5_act_87 ?_
  refine J_iload 90 dX5_act_90 rfl ?_
  refine J_iald 92 6 j rfl rfl (by omega) (by decide) dX5_act_92 ?_
  refine J_topi (y := 3) 93 hk ?_
  refine J_iload_n 93 2 dX5_act_93 rfl rfl ?_
  refine kb_RX5_308 (bs' := [wMe o (An 0) (Ak 0) (At 0) (Ad 0) kk tp rw rc sh sf de, wCt G An la ns sd to he sw nh ki te mi ar z, wDe de bo 0 0 3 (nI j) (te j), wI G bo 30 dbo, wQ G sf 4 4 sff, wSf Fa 1 (nI j) fso fsz]) (rest := [.ref de]) (st' := [.int 20, .ref de]) 94 (c_X1_bodyOf_3_1 l G  ) [] rfl rfl [] rfl rfl rfl rfl rfl rfl (Nat.le_of_ble_eq_true rfl) rfl dX5_act_94 ?_
  refine J_iload_n 97 3 dX5_act_97 rfl rfl ?_
  refine J_iconst (v := 0) 98 dX5_act_98 rfl ?_
  refine kb_RX5_311 (bs' := [wMe o (An 0) (Ak 0) (At 0) (Ad 0) kk tp rw rc sh sf de, wCt G An la ns sd to he sw nh ki te mi ar z, wDe de bo (0 + 4) 0 3 (nI j) (te j), wI G bo 30 (pF [20, 11, 51, 10] dbo 0), wQ G sf 4 4 sff, wSf Fa 1 (nI j) fso fsz]) (rest := []) (st' := [.int ((((x * 5 + (nI j)) + (te j)) - (te j)) * 2)]) 99 (c_runs_3_20 l G x 0 de bo 0 (nI j) (te j) dbo (by decide) (by decide)) [2, 3] rfl rfl [[de], [bo]] rfl rfl rfl rfl rfl rfl (Nat.le_of_ble_eq_true rfl) rfl dX5_act_99 ?_
  refine J_istore (lv' := [some (.ref o), some (.int (nI s)), some (.int 1), some (.int x), some (.int (nI j)), some (.int ((((x * 5 + (nI j)) + (te j)) - (te j)) * 2))]) 102 dX5_act_102 (by decide) rfl ?_
  refine J_aload_n 104 0 dX5_act_104 rfl rfl ?_
  refine g_206 (v := .ref de) 105 0 rfl rfl dX5_act_105 ?_
  refine g_179 (v := .int 0) 108 10 rfl rfl dX5_act_108 ?_
  refine J_if_eq (tgt := 119) 111 dX5_act_111 (by decide) (fun _ => ?_) (fun c_4_ => absurd c_4_ (by decide))
  refine J_iload 119 dX5_act_119 rfl ?_
  exact J_iret 121 dX5_act_121 rfl (cg1 (fun (x0_ : Nat) => (wF [wMe o (An 0) (Ak 0) (At 0) (Ad 0) kk tp rw rc sh sf de, wCt G An la ns sd to he sw nh ki te mi ar z, wDe de bo x0_ 0 3 (nI j) (te j), wI G bo 30 (pF [20, 11, 51, 10] dbo 0), wQ G sf 4 4 sff, wSf Fa 1 (nI j) fso fsz])) (0 + 4) 4 rfl)
set_option maxRecDepth 100000 in
set_option maxHeartbeats 4000000 in
theorem c_X5_act_3_2 (l : Launch) (G : Gd) (s : Nat) (x : Int32) (Fa : Nat) (j : Nat) (o : Nat) (An : Nat → Nat) (Ak : Nat → Nat) (At : Nat → Nat) (Ad : Nat → Nat) (kk : Int32) (tp : Nat) (rw : Nat) (rc : Nat) (sh : Nat) (sf : Nat) (de : Nat) (la : Nat → Int32) (ns : Nat) (sd : Nat) (to : Nat → Int32) (he : Nat → Int32) (sw : Nat → Int32) (nh : Nat) (ki : Nat → Int32) (te : Nat → Int32) (mi : Nat → Int32) (ar : Nat → Int32) (z : Int32) (bo : Nat) (ct : Nat) (pz : Int32) (dk : Int32) (nu : Int32) (dt : Int32) (dbo : Nat → Int32) (sff : Nat → Option Nat) (fso : Int32) (fsz : Int32) (hs : s ≤ 3) (hy : sff s = some Fa) (hj : j < nh) (hnh : nh ≤ 8) (hk : ki j = 3) (hz : ¬ (te j) - (nI j) = 0) : Ct l G yX5_act cX5_act 6 (some (FieldType.int)) 8 [.ref o, .int (nI s), .int 2, .int x] (wF [wMe o (An 0) (Ak 0) (At 0) (Ad 0) kk tp rw rc sh sf de, wCt G An la ns sd to he sw nh ki te mi ar z, wDe de bo ct pz dk nu dt, wI G bo 30 dbo, wQ G sf 4 4 sff, wSf Fa 1 (nI j) fso fsz]) (some (.int (((x * 3) / ((te j) - (nI j))) + 2))) (wF [wMe o (An 0) (Ak 0) (At 0) (Ad 0) kk tp rw rc sh sf de, wCt G An la ns sd to he sw nh ki te mi ar z, wDe de bo 2 0 3 (nI j) (te j), wI G bo 30 (pF [50, 12] dbo 0), wQ G sf 4 4 sff, wSf Fa 1 (nI j) fso fsz]) := by
  refine Ct.of "GooseArms" [some (.ref o), some (.int (nI s)), some (.int 2), some (.int x), none, none] (by decide +kernel) rfl (Nat.le_of_ble_eq_true rfl) rfl ?_
  refine J_aload_n 0 0 dX5_act_0 rfl rfl ?_
  refine g_206 (v := .ref de) 1 0 rfl rfl dX5_act_1 ?_
  refine J_iconst (v := 0) 4 dX5_act_4 rfl ?_
  refine p_177 (ws' := (wF [wMe o (An 0) (Ak 0) (At 0) (Ad 0) kk tp rw rc sh sf de, wCt G An la ns sd to he sw nh ki te mi ar z, wDe de bo 0 pz dk nu dt, wI G bo 30 dbo, wQ G sf 4 4 sff, wSf Fa 1 (nI j) fso fsz])) 5 10 rfl rfl rfl (Nat.le_of_ble_eq_true rfl) rfl dX5_act_5 ?_
  refine J_iload_n 8 1 dX5_act_8 rfl rfl ?_
  refine kb_RX5_219 (bs' := [wMe o (An 0) (Ak 0) (At 0) (Ad 0) kk tp rw rc sh sf de, wCt G An la ns sd to he sw nh ki te mi ar z, wDe de bo 0 pz dk nu dt, wI G bo 30 dbo, wQ G sf 4 4 sff, wSf Fa 1 (nI j) fso fsz]) (rest := []) (st' := [.int 1]) 9 (c_X5_isPlace_t l G s (by first | omega | assumption)) [] rfl rfl [] rfl rfl rfl rfl rfl rfl (Nat.le_of_ble_eq_true rfl) rfl dX5_act_9 ?_
  refine J_if_eq (tgt := 37) 12 dX5_act_12 (by decide) (fun c_1_ => absurd c_1_ (by decide)) (fun _ => ?_)
  refine J_iload_n 15 2 dX5_act_15 rfl rfl ?_
  refine J_iconst (v := 0) 16 dX5_act_16 rfl ?_
  refine J_iconst (v := 3) 17 dX5_act_17 rfl ?_
  refine kb_RX5_65 (bs' := [wMe o (An 0) (Ak 0) (At 0) (Ad 0) kk tp rw rc sh sf de, wCt G An la ns sd to he sw nh ki te mi ar z, wDe de bo 0 pz dk nu dt, wI G bo 30 dbo, wQ G sf 4 4 sff, wSf Fa 1 (nI j) fso fsz]) (rest := []) (st' := [.int 1]) 18 (c_X5_within_t l G 2 0 3 (by decide)) [] rfl rfl [] rfl rfl rfl rfl rfl rfl (Nat.le_of_ble_eq_true rfl) rfl dX5_act_18 ?_
  refine J_if_eq (tgt := 37) 21 dX5_act_21 (by decide) (fun c_2_ => absurd c_2_ (by decide)) (fun _ => ?_)
  refine J_aload_n 24 0 dX5_act_24 rfl rfl ?_
  refine J_aload_n 25 0 dX5_act_25 rfl rfl ?_
  refine g_205 (v := .ref sf) 26 0 rfl rfl dX5_act_26 ?_
  refine J_iload_n 29 1 dX5_act_29 rfl rfl ?_
  refine J_aldq (b := Fa) 30 12 4 s rfl rfl rfl (by omega) (by decide) hy dX5_act_30 ?_
  refine kb_RX5_292 (bs' := [wMe o (An 0) (Ak 0) (At 0) (Ad 0) kk tp rw rc sh sf de, wCt G An la ns sd to he sw nh ki te mi ar z, wDe de bo 0 pz dk nu dt, wI G bo 30 dbo, wQ G sf 4 4 sff, wSf Fa 1 (nI j) fso fsz]) (rest := []) (st' := [.int 1]) 31 (c_X5_holdsHearer_t l G j o An Ak At Ad kk tp rw rc sh sf de la ns sd to he sw nh ki te mi ar z Fa fso fsz (by first | omega | assumption) (by first | omega | assumption)) [0, 1, 5] 0 rfl rfl rfl [[o], [An 0, An 1, An 2, An 3, An 4, An 5, An 6, An 7, An 8], [Fa]] rfl rfl rfl rfl rfl rfl (Nat.le_of_ble_eq_true rfl) rfl dX5_act_31 ?_
  refine J_if_ne (tgt := 39) 34 dX5_act_34 (by decide) (fun _ => ?_) (fun c_3_ => absurd c_3_ (by decide))
  refine J_aload_n 39 0 dX5_act_39 rfl rfl ?_
  refine g_205 (v := .ref sf) 40 0 rfl rfl dX5_act_40 ?_
  refine J_iload_n 43 1 dX5_act_43 rfl rfl ?_
  refine J_aldq (b := Fa) 44 12 4 s rfl rfl rfl (by omega) (by decide) hy dX5_act_44 ?_
  refine g_154 (v := .int (nI j)) 45 13 rfl rfl dX5_act_45 ?_
  refine J_istore (lv' := [some (.ref o), some (.int (nI s)), some (.int 2), some (.int x), some (.int (nI j)), none]) 48 dX5_act_48 (by decide) rfl ?_
  refine J_aload_n 50 0 dX5_act_50 rfl rfl ?_
  refine g_206 (v := .ref de) 51 0 rfl rfl dX5_act_51 ?_
  refine J_aload_n 54 0 dX5_act_54 rfl rfl ?_
  refine g_196 (v := .ref (An 0)) 55 0 rfl rfl dX5_act_55 ?_
  refine g_56 (v := .ref (An 5)) 58 1 rfl rfl dX5_act_58 ?_
  refine J_iload 61 dX5_act_61 rfl ?_
  refine J_iald 63 6 j rfl rfl (by omega) (by decide) dX5_act_63 ?_
  refine J_topi (y := 3) 64 hk ?_
  refine J_iload 64 dX5_act_64 rfl ?_
  refine J_aload_n 66 0 dX5_act_66 rfl rfl ?_
  refine g_196 (v := .ref (An 0)) 67 0 rfl rfl dX5_act_67 ?_
  refine g_58 (v := .ref (An 6)) 70 1 rfl rfl dX5_act_70 ?_
  refine J_iload 73 dX5_act_73 rfl ?_
  refine J_iald 75 7 j rfl rfl (by omega) (by decide) dX5_act_75 ?_
  refine kb_RX5_305 (bs' := [wMe o (An 0) (Ak 0) (At 0) (Ad 0) kk tp rw rc sh sf de, wCt G An la ns sd to he sw nh ki te mi ar z, wDe de bo 0 0 3 (nI j) (te j), wI G bo 30 dbo, wQ G sf 4 4 sff, wSf Fa 1 (nI j) fso fsz]) (rest := []) (st' := []) 76 (c_X1_begin l G 3 (nI j) (te j) de bo 0 pz dk nu dt ) [2] 10 rfl rfl rfl [[de]] rfl rfl rfl rfl rfl rfl (Nat.le_of_ble_eq_true rfl) rfl dX5_act_76 ?_
  refine J_aload_n 79 0 dX5_act_79 rfl rfl ?_
  refine g_206 (v := .ref de) 80 0 rfl rfl dX5_act_80 ?_
  refine J_aload_n 83 0 dX5_act_83 rfl rfl ?_
  refine g_196 (v := .ref (An 0)) 84 0 rfl rfl dX5_act_84 ?_
  refine g_56 (v := .ref (An 5)) 87 1 rfl rfl dX5_act_87 ?_
  refine J_iload 90 dX5_act_90 rfl ?_
  refine J_iald 92 6 j rfl rfl (by omega) (by decide) dX5_act_92 ?_
  refine J_topi (y := 3) 93 hk ?_
  refine J_iload_n 93 2 dX5_act_93 rfl rfl ?_
  refine kb_RX5_308 (bs' := [wMe o (An 0) (Ak 0) (At 0) (Ad 0) kk tp rw rc sh sf de, wCt G An la ns sd to he sw nh ki te mi ar z, wDe de bo 0 0 3 (nI j) (te j), wI G bo 30 dbo, wQ G sf 4 4 sff, wSf Fa 1 (nI j) fso fsz]) (rest := [.ref de]) (st' := [.int 50, .ref de]) 94 (c_X1_bodyOf_3_2 l G  ) [] rfl rfl [] rfl rfl rfl rfl rfl rfl (Nat.le_of_ble_eq_true rfl) rfl dX5_act_94 ?_
  refine J_iload_n 97 3 dX5_act_97 rfl rfl ?_
  refine J_iconst (v := 0) 98 dX5_act_98 rfl ?_
  refine kb_RX5_311 (bs' := [wMe o (An 0) (Ak 0) (At 0) (Ad 0) kk tp rw rc sh sf de, wCt G An la ns sd to he sw nh ki te mi ar z, wDe de bo (0 + 2) 0 3 (nI j) (te j), wI G bo 30 (pF [50, 12] dbo 0), wQ G sf 4 4 sff, wSf Fa 1 (nI j) fso fsz]) (rest := []) (st' := [.int (((x * 3) / ((te j) - (nI j))) + 2)]) 99 (c_runs_3_50 l G x 0 de bo 0 (nI j) (te j) dbo (by decide) (by decide) hz) [2, 3] rfl rfl [[de], [bo]] rfl rfl rfl rfl rfl rfl (Nat.le_of_ble_eq_true rfl) rfl dX5_act_99 ?_
  refine J_istore (lv' := [some (.ref o), some (.int (nI s)), some (.int 2), some (.int x), some (.int (nI j)), some (.int (((x * 3) / ((te j) - (nI j))) + 2))]) 102 dX5_act_102 (by decide) rfl ?_
  refine J_aload_n 104 0 dX5_act_104 rfl rfl ?_
  refine g_206 (v := .ref de) 105 0 rfl rfl dX5_act_105 ?_
  refine g_179 (v := .int 0) 108 10 rfl rfl dX5_act_108 ?_
  refine J_if_eq (tgt := 119) 111 dX5_act_111 (by decide) (fun _ => ?_) (fun c_4_ => absurd c_4_ (by decide))
  refine J_iload 119 dX5_act_119 rfl ?_
  exact J_iret 121 dX5_act_121 rfl (cg1 (fun (x0_ : Nat) => (wF [wMe o (An 0) (Ak 0) (At 0) (Ad 0) kk tp rw rc sh sf de, wCt G An la ns sd to he sw nh ki te mi ar z, wDe de bo x0_ 0 3 (nI j) (te j), wI G bo 30 (pF [50, 12] dbo 0), wQ G sf 4 4 sff, wSf Fa 1 (nI j) fso fsz])) (0 + 2) 2 rfl)
set_option maxRecDepth 100000 in
set_option maxHeartbeats 4000000 in
theorem c_X5_act_3_2z (l : Launch) (G : Gd) (s : Nat) (x : Int32) (Fa : Nat) (j : Nat) (o : Nat) (An : Nat → Nat) (Ak : Nat → Nat) (At : Nat → Nat) (Ad : Nat → Nat) (kk : Int32) (tp : Nat) (rw : Nat) (rc : Nat) (sh : Nat) (sf : Nat) (de : Nat) (la : Nat → Int32) (ns : Nat) (sd : Nat) (to : Nat → Int32) (he : Nat → Int32) (sw : Nat → Int32) (nh : Nat) (ki : Nat → Int32) (te : Nat → Int32) (mi : Nat → Int32) (ar : Nat → Int32) (z : Int32) (bo : Nat) (ct : Nat) (pz : Int32) (dk : Int32) (nu : Int32) (dt : Int32) (dbo : Nat → Int32) (sff : Nat → Option Nat) (fso : Int32) (fsz : Int32) (hs : s ≤ 3) (hy : sff s = some Fa) (hj : j < nh) (hnh : nh ≤ 8) (hk : ki j = 3) (hz : (te j) - (nI j) = 0) : Ct l G yX5_act cX5_act 6 (some (FieldType.int)) 8 [.ref o, .int (nI s), .int 2, .int x] (wF [wMe o (An 0) (Ak 0) (At 0) (Ad 0) kk tp rw rc sh sf de, wCt G An la ns sd to he sw nh ki te mi ar z, wDe de bo ct pz dk nu dt, wI G bo 30 dbo, wQ G sf 4 4 sff, wSf Fa 1 (nI j) fso fsz]) (some (.int (-15))) (wF [wMe o (An 0) (Ak 0) (At 0) (Ad 0) kk tp rw rc sh sf de, wCt G An la ns sd to he sw nh ki te mi ar z, wDe de bo 2 1 3 (nI j) (te j), wI G bo 30 (pF [50, 12] dbo 0), wQ G sf 4 4 sff, wSf Fa 1 (nI j) fso fsz]) := by
  refine Ct.of "GooseArms" [some (.ref o), some (.int (nI s)), some (.int 2), some (.int x), none, none] (by decide +kernel) rfl (Nat.le_of_ble_eq_true rfl) rfl ?_
  refine J_aload_n 0 0 dX5_act_0 rfl rfl ?_
  refine g_206 (v := .ref de) 1 0 rfl rfl dX5_act_1 ?_
  refine J_iconst (v := 0) 4 dX5_act_4 rfl ?_
  refine p_177 (ws' := (wF [wMe o (An 0) (Ak 0) (At 0) (Ad 0) kk tp rw rc sh sf de, wCt G An la ns sd to he sw nh ki te mi ar z, wDe de bo 0 pz dk nu dt, wI G bo 30 dbo, wQ G sf 4 4 sff, wSf Fa 1 (nI j) fso fsz])) 5 10 rfl rfl rfl (Nat.le_of_ble_eq_true rfl) rfl dX5_act_5 ?_
  refine J_iload_n 8 1 dX5_act_8 rfl rfl ?_
  refine kb_RX5_219 (bs' := [wMe o (An 0) (Ak 0) (At 0) (Ad 0) kk tp rw rc sh sf de, wCt G An la ns sd to he sw nh ki te mi ar z, wDe de bo 0 pz dk nu dt, wI G bo 30 dbo, wQ G sf 4 4 sff, wSf Fa 1 (nI j) fso fsz]) (rest := []) (st' := [.int 1]) 9 (c_X5_isPlace_t l G s (by first | omega | assumption)) [] rfl rfl [] rfl rfl rfl rfl rfl rfl (Nat.le_of_ble_eq_true rfl) rfl dX5_act_9 ?_
  refine J_if_eq (tgt := 37) 12 dX5_act_12 (by decide) (fun c_1_ => absurd c_1_ (by decide)) (fun _ => ?_)
  refine J_iload_n 15 2 dX5_act_15 rfl rfl ?_
  refine J_iconst (v := 0) 16 dX5_act_16 rfl ?_
  refine J_iconst (v := 3) 17 dX5_act_17 rfl ?_
  refine kb_RX5_65 (bs' := [wMe o (An 0) (Ak 0) (At 0) (Ad 0) kk tp rw rc sh sf de, wCt G An la ns sd to he sw nh ki te mi ar z, wDe de bo 0 pz dk nu dt, wI G bo 30 dbo, wQ G sf 4 4 sff, wSf Fa 1 (nI j) fso fsz]) (rest := []) (st' := [.int 1]) 18 (c_X5_within_t l G 2 0 3 (by decide)) [] rfl rfl [] rfl rfl rfl rfl rfl rfl (Nat.le_of_ble_eq_true rfl) rfl dX5_act_18 ?_
  refine J_if_eq (tgt := 37) 21 dX5_act_21 (by decide) (fun c_2_ => absurd c_2_ (by decide)) (fun _ => ?_)
  refine J_aload_n 24 0 dX5_act_24 rfl rfl ?_
  refine J_aload_n 25 0 dX5_act_25 rfl rfl ?_
  refine g_205 (v := .ref sf) 26 0 rfl rfl dX5_act_26 ?_
  refine J_iload_n 29 1 dX5_act_29 rfl rfl ?_
  refine J_aldq (b := Fa) 30 12 4 s rfl rfl rfl (by omega) (by decide) hy dX5_act_30 ?_
  refine kb_RX5_292 (bs' := [wMe o (An 0) (Ak 0) (At 0) (Ad 0) kk tp rw rc sh sf de, wCt G An la ns sd to he sw nh ki te mi ar z, wDe de bo 0 pz dk nu dt, wI G bo 30 dbo, wQ G sf 4 4 sff, wSf Fa 1 (nI j) fso fsz]) (rest := []) (st' := [.int 1]) 31 (c_X5_holdsHearer_t l G j o An Ak At Ad kk tp rw rc sh sf de la ns sd to he sw nh ki te mi ar z Fa fso fsz (by first | omega | assumption) (by first | omega | assumption)) [0, 1, 5] 0 rfl rfl rfl [[o], [An 0, An 1, An 2, An 3, An 4, An 5, An 6, An 7, An 8], [Fa]] rfl rfl rfl rfl rfl rfl (Nat.le_of_ble_eq_true rfl) rfl dX5_act_31 ?_
  refine J_if_ne (tgt := 39) 34 dX5_act_34 (by decide) (fun _ => ?_) (fun c_3_ => absurd c_3_ (by decide))
  refine J_aload_n 39 0 dX5_act_39 rfl rfl ?_
  refine g_205 (v := .ref sf) 40 0 rfl rfl dX5_act_40 ?_
  refine J_iload_n 43 1 dX5_act_43 rfl rfl ?_
  refine J_aldq (b := Fa) 44 12 4 s rfl rfl rfl (by omega) (by decide) hy dX5_act_44 ?_
  refine g_154 (v := .int (nI j)) 45 13 rfl rfl dX5_act_45 ?_
  refine J_istore (lv' := [some (.ref o), some (.int (nI s)), some (.int 2), some (.int x), some (.int (nI j)), none]) 48 dX5_act_48 (by decide) rfl ?_
  refine J_aload_n 50 0 dX5_act_50 rfl rfl ?_
  refine g_206 (v := .ref de) 51 0 rfl rfl dX5_act_51 ?_
  refine J_aload_n 54 0 dX5_act_54 rfl rfl ?_
  refine g_196 (v := .ref (An 0)) 55 0 rfl rfl dX5_act_55 ?_
  refine g_56 (v := .ref (An 5)) 58 1 rfl rfl dX5_act_58 ?_
  refine J_iload 61 dX5_act_61 rfl ?_
  refine J_iald 63 6 j rfl rfl (by omega) (by decide) dX5_act_63 ?_
  refine J_topi (y := 3) 64 hk ?_
  refine J_iload 64 dX5_act_64 rfl ?_
  refine J_aload_n 66 0 dX5_act_66 rfl rfl ?_
  refine g_196 (v := .ref (An 0)) 67 0 rfl rfl dX5_act_67 ?_
  refine g_58 (v := .ref (An 6)) 70 1 rfl rfl dX5_act_70 ?_
  refine J_iload 73 dX5_act_73 rfl ?_
  refine J_iald 75 7 j rfl rfl (by omega) (by decide) dX5_act_75 ?_
  refine kb_RX5_305 (bs' := [wMe o (An 0) (Ak 0) (At 0) (Ad 0) kk tp rw rc sh sf de, wCt G An la ns sd to he sw nh ki te mi ar z, wDe de bo 0 0 3 (nI j) (te j), wI G bo 30 dbo, wQ G sf 4 4 sff, wSf Fa 1 (nI j) fso fsz]) (rest := []) (st' := []) 76 (c_X1_begin l G 3 (nI j) (te j) de bo 0 pz dk nu dt ) [2] 10 rfl rfl rfl [[de]] rfl rfl rfl rfl rfl rfl (Nat.le_of_ble_eq_true rfl) rfl dX5_act_76 ?_
  refine J_aload_n 79 0 dX5_act_79 rfl rfl ?_
  refine g_206 (v := .ref de) 80 0 rfl rfl dX5_act_80 ?_
  refine J_aload_n 83 0 dX5_act_83 rfl rfl ?_
  refine g_196 (v := .ref (An 0)) 84 0 rfl rfl dX5_act_84 ?_
  refine g_56 (v := .ref (An 5)) 87 1 rfl rfl dX5_act_87 ?_
  refine J_iload 90 dX5_act_90 rfl ?_
  refine J_iald 92 6 j rfl rfl (by omega) (by decide) dX5_act_92 ?_
  refine J_topi (y := 3) 93 hk ?_
  refine J_iload_n 93 2 dX5_act_93 rfl rfl ?_
  refine kb_RX5_308 (bs' := [wMe o (An 0) (Ak 0) (At 0) (Ad 0) kk tp rw rc sh sf de, wCt G An la ns sd to he sw nh ki te mi ar z, wDe de bo 0 0 3 (nI j) (te j), wI G bo 30 dbo, wQ G sf 4 4 sff, wSf Fa 1 (nI j) fso fsz]) (rest := [.ref de]) (st' := [.int 50, .ref de]) 94 (c_X1_bodyOf_3_2 l G  ) [] rfl rfl [] rfl rfl rfl rfl rfl rfl (Nat.le_of_ble_eq_true rfl) rfl dX5_act_94 ?_
  refine J_iload_n 97 3 dX5_act_97 rfl rfl ?_
  refine J_iconst (v := 0) 98 dX5_act_98 rfl ?_
  refine kb_RX5_311 (bs' := [wMe o (An 0) (Ak 0) (At 0) (Ad 0) kk tp rw rc sh sf de, wCt G An la ns sd to he sw nh ki te mi ar z, wDe de bo (0 + 2) 1 3 (nI j) (te j), wI G bo 30 (pF [50, 12] dbo 0), wQ G sf 4 4 sff, wSf Fa 1 (nI j) fso fsz]) (rest := []) (st' := [.int (0 + 2)]) 99 (c_runs_3_50z l G x 0 de bo 0 (nI j) (te j) dbo (by decide) (by decide) hz) [2, 3] rfl rfl [[de], [bo]] rfl rfl rfl rfl rfl rfl (Nat.le_of_ble_eq_true rfl) rfl dX5_act_99 ?_
  refine J_istore (lv' := [some (.ref o), some (.int (nI s)), some (.int 2), some (.int x), some (.int (nI j)), some (.int (0 + 2))]) 102 dX5_act_102 (by decide) rfl ?_
  refine J_aload_n 104 0 dX5_act_104 rfl rfl ?_
  refine g_206 (v := .ref de) 105 0 rfl rfl dX5_act_105 ?_
  refine g_179 (v := .int 1) 108 10 rfl rfl dX5_act_108 ?_
  refine J_if_eq (tgt := 119) 111 dX5_act_111 (by decide) (fun c_4_ => absurd c_4_ (by decide)) (fun _ => ?_)
  refine J_bipush (v := (-15)) 114 dX5_act_114 rfl ?_
  refine J_goto (tgt := 121) 116 dX5_act_116 (by decide) ?_
  exact J_iret 121 dX5_act_121 rfl (cg1 (fun (x0_ : Nat) => (wF [wMe o (An 0) (Ak 0) (At 0) (Ad 0) kk tp rw rc sh sf de, wCt G An la ns sd to he sw nh ki te mi ar z, wDe de bo x0_ 1 3 (nI j) (te j), wI G bo 30 (pF [50, 12] dbo 0), wQ G sf 4 4 sff, wSf Fa 1 (nI j) fso fsz])) (0 + 2) 2 rfl)
set_option maxRecDepth 100000 in
set_option maxHeartbeats 4000000 in
theorem c_X5_act_3_3 (l : Launch) (G : Gd) (s : Nat) (x : Int32) (Fa : Nat) (j : Nat) (o : Nat) (An : Nat → Nat) (Ak : Nat → Nat) (At : Nat → Nat) (Ad : Nat → Nat) (kk : Int32) (tp : Nat) (rw : Nat) (rc : Nat) (sh : Nat) (sf : Nat) (de : Nat) (la : Nat → Int32) (ns : Nat) (sd : Nat) (to : Nat → Int32) (he : Nat → Int32) (sw : Nat → Int32) (nh : Nat) (ki : Nat → Int32) (te : Nat → Int32) (mi : Nat → Int32) (ar : Nat → Int32) (z : Int32) (bo : Nat) (ct : Nat) (pz : Int32) (dk : Int32) (nu : Int32) (dt : Int32) (dbo : Nat → Int32) (sff : Nat → Option Nat) (fso : Int32) (fsz : Int32) (hs : s ≤ 3) (hy : sff s = some Fa) (hj : j < nh) (hnh : nh ≤ 8) (hk : ki j = 3) : Ct l G yX5_act cX5_act 6 (some (FieldType.int)) 8 [.ref o, .int (nI s), .int 3, .int x] (wF [wMe o (An 0) (Ak 0) (At 0) (Ad 0) kk tp rw rc sh sf de, wCt G An la ns sd to he sw nh ki te mi ar z, wDe de bo ct pz dk nu dt, wI G bo 30 dbo, wQ G sf 4 4 sff, wSf Fa 1 (nI j) fso fsz]) (some (.int (((((x * 5 + (nI j)) + (te j)) - (te j)) * 2) ^^^ 150))) (wF [wMe o (An 0) (Ak 0) (At 0) (Ad 0) kk tp rw rc sh sf de, wCt G An la ns sd to he sw nh ki te mi ar z, wDe de bo 5 0 3 (nI j) (te j), wI G bo 30 (pF [13, 20, 11, 51, 10] dbo 0), wQ G sf 4 4 sff, wSf Fa 1 (nI j) fso fsz]) := by
  refine Ct.of "GooseArms" [some (.ref o), some (.int (nI s)), some (.int 3), some (.int x), none, none] (by decide +kernel) rfl (Nat.le_of_ble_eq_true rfl) rfl ?_
  refine J_aload_n 0 0 dX5_act_0 rfl rfl ?_
  refine g_206 (v := .ref de) 1 0 rfl rfl dX5_act_1 ?_
  refine J_iconst (v := 0) 4 dX5_act_4 rfl ?_
  refine p_177 (ws' := (wF [wMe o (An 0) (Ak 0) (At 0) (Ad 0) kk tp rw rc sh sf de, wCt G An la ns sd to he sw nh ki te mi ar z, wDe de bo 0 pz dk nu dt, wI G bo 30 dbo, wQ G sf 4 4 sff, wSf Fa 1 (nI j) fso fsz])) 5 10 rfl rfl rfl (Nat.le_of_ble_eq_true rfl) rfl dX5_act_5 ?_
  refine J_iload_n 8 1 dX5_act_8 rfl rfl ?_
  refine kb_RX5_219 (bs' := [wMe o (An 0) (Ak 0) (At 0) (Ad 0) kk tp rw rc sh sf de, wCt G An la ns sd to he sw nh ki te mi ar z, wDe de bo 0 pz dk nu dt, wI G bo 30 dbo, wQ G sf 4 4 sff, wSf Fa 1 (nI j) fso fsz]) (rest := []) (st' := [.int 1]) 9 (c_X5_isPlace_t l G s (by first | omega | assumption)) [] rfl rfl [] rfl rfl rfl rfl rfl rfl (Nat.le_of_ble_eq_true rfl) rfl dX5_act_9 ?_
  refine J_if_eq (tgt := 37) 12 dX5_act_12 (by decide) (fun c_1_ => absurd c_1_ (by decide)) (fun _ => ?_)
  refine J_iload_n 15 2 dX5_act_15 rfl rfl ?_
  refine J_iconst (v := 0) 16 dX5_act_16 rfl ?_
  refine J_iconst (v := 3) 17 dX5_act_17 rfl ?_
  refine kb_RX5_65 (bs' := [wMe o (An 0) (Ak 0) (At 0) (Ad 0) kk tp rw rc sh sf de, wCt G An la ns sd to he sw nh ki te mi ar z, wDe de bo 0 pz dk nu dt, wI G bo 30 dbo, wQ G sf 4 4 sff, wSf Fa 1 (nI j) fso fsz]) (rest := []) (st' := [.int 1]) 18 (c_X5_within_t l G 3 0 3 (by decide)) [] rfl rfl [] rfl rfl rfl rfl rfl rfl (Nat.le_of_ble_eq_true rfl) rfl dX5_act_18 ?_
  refine J_if_eq (tgt := 37) 21 dX5_act_21 (by decide) (fun c_2_ => absurd c_2_ (by decide)) (fun _ => ?_)
  refine J_aload_n 24 0 dX5_act_24 rfl rfl ?_
  refine J_aload_n 25 0 dX5_act_25 rfl rfl ?_
  refine g_205 (v := .ref sf) 26 0 rfl rfl dX5_act_26 ?_
  refine J_iload_n 29 1 dX5_act_29 rfl rfl ?_
  refine J_aldq (b := Fa) 30 12 4 s rfl rfl rfl (by omega) (by decide) hy dX5_act_30 ?_
  refine kb_RX5_292 (bs' := [wMe o (An 0) (Ak 0) (At 0) (Ad 0) kk tp rw rc sh sf de, wCt G An la ns sd to he sw nh ki te mi ar z, wDe de bo 0 pz dk nu dt, wI G bo 30 dbo, wQ G sf 4 4 sff, wSf Fa 1 (nI j) fso fsz]) (rest := []) (st' := [.int 1]) 31 (c_X5_holdsHearer_t l G j o An Ak At Ad kk tp rw rc sh sf de la ns sd to he sw nh ki te mi ar z Fa fso fsz (by first | omega | assumption) (by first | omega | assumption)) [0, 1, 5] 0 rfl rfl rfl [[o], [An 0, An 1, An 2, An 3, An 4, An 5, An 6, An 7, An 8], [Fa]] rfl rfl rfl rfl rfl rfl (Nat.le_of_ble_eq_true rfl) rfl dX5_act_31 ?_
  refine J_if_ne (tgt := 39) 34 dX5_act_34 (by decide) (fun _ => ?_) (fun c_3_ => absurd c_3_ (by decide))
  refine J_aload_n 39 0 dX5_act_39 rfl rfl ?_
  refine g_205 (v := .ref sf) 40 0 rfl rfl dX5_act_40 ?_
  refine J_iload_n 43 1 dX5_act_43 rfl rfl ?_
  refine J_aldq (b := Fa) 44 12 4 s rfl rfl rfl (by omega) (by decide) hy dX5_act_44 ?_
  refine g_154 (v := .int (nI j)) 45 13 rfl rfl dX5_act_45 ?_
  refine J_istore (lv' := [some (.ref o), some (.int (nI s)), some (.int 3), some (.int x), some (.int (nI j)), none]) 48 dX5_act_48 (by decide) rfl ?_
  refine J_aload_n 50 0 dX5_act_50 rfl rfl ?_
  refine g_206 (v := .ref de) 51 0 rfl rfl dX5_act_51 ?_
  refine J_aload_n 54 0 dX5_act_54 rfl rfl ?_
  refine g_196 (v := .ref (An 0)) 55 0 rfl rfl dX5_act_55 ?_
  refine g_56 (v := .ref (An 5)) 58 1 rfl rfl dX5_act_58 ?_
  refine J_iload 61 dX5_act_61 rfl ?_
  refine J_iald 63 6 j rfl rfl (by omega) (by decide) dX5_act_63 ?_
  refine J_topi (y := 3) 64 hk ?_
  refine J_iload 64 dX5_act_64 rfl ?_
  refine J_aload_n 66 0 dX5_act_66 rfl rfl ?_
  refine g_196 (v := .ref (An 0)) 67 0 rfl rfl dX5_act_67 ?_
  refine g_58 (v := .ref (An 6)) 70 1 rfl rfl dX5_act_70 ?_
  refine J_iload 73 dX5_act_73 rfl ?_
  refine J_iald 75 7 j rfl rfl (by omega) (by decide) dX5_act_75 ?_
  refine kb_RX5_305 (bs' := [wMe o (An 0) (Ak 0) (At 0) (Ad 0) kk tp rw rc sh sf de, wCt G An la ns sd to he sw nh ki te mi ar z, wDe de bo 0 0 3 (nI j) (te j), wI G bo 30 dbo, wQ G sf 4 4 sff, wSf Fa 1 (nI j) fso fsz]) (rest := []) (st' := []) 76 (c_X1_begin l G 3 (nI j) (te j) de bo 0 pz dk nu dt ) [2] 10 rfl rfl rfl [[de]] rfl rfl rfl rfl rfl rfl (Nat.le_of_ble_eq_true rfl) rfl dX5_act_76 ?_
  refine J_aload_n 79 0 dX5_act_79 rfl rfl ?_
  refine g_206 (v := .ref de) 80 0 rfl rfl dX5_act_80 ?_
  refine J_aload_n 83 0 dX5_act_83 rfl rfl ?_
  refine g_196 (v := .ref (An 0)) 84 0 rfl rfl dX5_act_84 ?_
  refine g_56 (v := .ref (An 5)) 87 1 rfl rfl dX5_act_87 ?_
  refine J_iload 90 dX5_act_90 rfl ?_
  refine J_iald 92 6 j rfl rfl (by omega) (by decide) dX5_act_92 ?_
  refine J_topi (y := 3) 93 hk ?_
  refine J_iload_n 93 2 dX5_act_93 rfl rfl ?_
  refine kb_RX5_308 (bs' := [wMe o (An 0) (Ak 0) (At 0) (Ad 0) kk tp rw rc sh sf de, wCt G An la ns sd to he sw nh ki te mi ar z, wDe de bo 0 0 3 (nI j) (te j), wI G bo 30 dbo, wQ G sf 4 4 sff, wSf Fa 1 (nI j) fso fsz]) (rest := [.ref de]) (st' := [.int 13, .ref de]) 94 (c_X1_bodyOf_3_3 l G  ) [] rfl rfl [] rfl rfl rfl rfl rfl rfl (Nat.le_of_ble_eq_true rfl) rfl dX5_act_94 ?_
  refine J_iload_n 97 3 dX5_act_97 rfl rfl ?_
  refine J_iconst (v := 0) 98 dX5_act_98 rfl ?_
  refine kb_RX5_311 (bs' := [wMe o (An 0) (Ak 0) (At 0) (Ad 0) kk tp rw rc sh sf de, wCt G An la ns sd to he sw nh ki te mi ar z, wDe de bo (0 + 5) 0 3 (nI j) (te j), wI G bo 30 (pF [13, 20, 11, 51, 10] dbo 0), wQ G sf 4 4 sff, wSf Fa 1 (nI j) fso fsz]) (rest := []) (st' := [.int (((((x * 5 + (nI j)) + (te j)) - (te j)) * 2) ^^^ 150)]) 99 (c_runs_3_13 l G x 0 de bo 0 (nI j) (te j) dbo (by decide) (by decide)) [2, 3] rfl rfl [[de], [bo]] rfl rfl rfl rfl rfl rfl (Nat.le_of_ble_eq_true rfl) rfl dX5_act_99 ?_
  refine J_istore (lv' := [some (.ref o), some (.int (nI s)), some (.int 3), some (.int x), some (.int (nI j)), some (.int (((((x * 5 + (nI j)) + (te j)) - (te j)) * 2) ^^^ 150))]) 102 dX5_act_102 (by decide) rfl ?_
  refine J_aload_n 104 0 dX5_act_104 rfl rfl ?_
  refine g_206 (v := .ref de) 105 0 rfl rfl dX5_act_105 ?_
  refine g_179 (v := .int 0) 108 10 rfl rfl dX5_act_108 ?_
  refine J_if_eq (tgt := 119) 111 dX5_act_111 (by decide) (fun _ => ?_) (fun c_4_ => absurd c_4_ (by decide))
  refine J_iload 119 dX5_act_119 rfl ?_
  exact J_iret 121 dX5_act_121 rfl (cg1 (fun (x0_ : Nat) => (wF [wMe o (An 0) (Ak 0) (At 0) (Ad 0) kk tp rw rc sh sf de, wCt G An la ns sd to he sw nh ki te mi ar z, wDe de bo x0_ 0 3 (nI j) (te j), wI G bo 30 (pF [13, 20, 11, 51, 10] dbo 0), wQ G sf 4 4 sff, wSf Fa 1 (nI j) fso fsz])) (0 + 5) 5 rfl)
set_option maxRecDepth 100000 in
set_option maxHeartbeats 4000000 in
theorem c_X5_act_4_0 (l : Launch) (G : Gd) (s : Nat) (x : Int32) (Fa : Nat) (j : Nat) (o : Nat) (An : Nat → Nat) (Ak : Nat → Nat) (At : Nat → Nat) (Ad : Nat → Nat) (kk : Int32) (tp : Nat) (rw : Nat) (rc : Nat) (sh : Nat) (sf : Nat) (de : Nat) (la : Nat → Int32) (ns : Nat) (sd : Nat) (to : Nat → Int32) (he : Nat → Int32) (sw : Nat → Int32) (nh : Nat) (ki : Nat → Int32) (te : Nat → Int32) (mi : Nat → Int32) (ar : Nat → Int32) (z : Int32) (bo : Nat) (ct : Nat) (pz : Int32) (dk : Int32) (nu : Int32) (dt : Int32) (dbo : Nat → Int32) (sff : Nat → Option Nat) (fso : Int32) (fsz : Int32) (hs : s ≤ 3) (hy : sff s = some Fa) (hj : j < nh) (hnh : nh ≤ 8) (hk : ki j = 4) : Ct l G yX5_act cX5_act 6 (some (FieldType.int)) 8 [.ref o, .int (nI s), .int 0, .int x] (wF [wMe o (An 0) (Ak 0) (At 0) (Ad 0) kk tp rw rc sh sf de, wCt G An la ns sd to he sw nh ki te mi ar z, wDe de bo ct pz dk nu dt, wI G bo 30 dbo, wQ G sf 4 4 sff, wSf Fa 1 (nI j) fso fsz]) (some (.int (0 - ((x * 5 + (nI j)) - 4)))) (wF [wMe o (An 0) (Ak 0) (At 0) (Ad 0) kk tp rw rc sh sf de, wCt G An la ns sd to he sw nh ki te mi ar z, wDe de bo 3 0 4 (nI j) (te j), wI G bo 30 (pF [40, 30, 10] dbo 0), wQ G sf 4 4 sff, wSf Fa 1 (nI j) fso fsz]) := by
  refine Ct.of "GooseArms" [some (.ref o), some (.int (nI s)), some (.int 0), some (.int x), none, none] (by decide +kernel) rfl (Nat.le_of_ble_eq_true rfl) rfl ?_
  refine J_aload_n 0 0 dX5_act_0 rfl rfl ?_
  refine g_206 (v := .ref de) 1 0 rfl rfl dX5_act_1 ?_
  refine J_iconst (v := 0) 4 dX5_act_4 rfl ?_
  refine p_177 (ws' := (wF [wMe o (An 0) (Ak 0) (At 0) (Ad 0) kk tp rw rc sh sf de, wCt G An la ns sd to he sw nh ki te mi ar z, wDe de bo 0 pz dk nu dt, wI G bo 30 dbo, wQ G sf 4 4 sff, wSf Fa 1 (nI j) fso fsz])) 5 10 rfl rfl rfl (Nat.le_of_ble_eq_true rfl) rfl dX5_act_5 ?_
  refine J_iload_n 8 1 dX5_act_8 rfl rfl ?_
  refine kb_RX5_219 (bs' := [wMe o (An 0) (Ak 0) (At 0) (Ad 0) kk tp rw rc sh sf de, wCt G An la ns sd to he sw nh ki te mi ar z, wDe de bo 0 pz dk nu dt, wI G bo 30 dbo, wQ G sf 4 4 sff, wSf Fa 1 (nI j) fso fsz]) (rest := []) (st' := [.int 1]) 9 (c_X5_isPlace_t l G s (by first | omega | assumption)) [] rfl rfl [] rfl rfl rfl rfl rfl rfl (Nat.le_of_ble_eq_true rfl) rfl dX5_act_9 ?_
  refine J_if_eq (tgt := 37) 12 dX5_act_12 (by decide) (fun c_1_ => absurd c_1_ (by decide)) (fun _ => ?_)
  refine J_iload_n 15 2 dX5_act_15 rfl rfl ?_
  refine J_iconst (v := 0) 16 dX5_act_16 rfl ?_
  refine J_iconst (v := 3) 17 dX5_act_17 rfl ?_
  refine kb_RX5_65 (bs' := [wMe o (An 0) (Ak 0) (At 0) (Ad 0) kk tp rw rc sh sf de, wCt G An la ns sd to he sw nh ki te mi ar z, wDe de bo 0 pz dk nu dt, wI G bo 30 dbo, wQ G sf 4 4 sff, wSf Fa 1 (nI j) fso fsz]) (rest := []) (st' := [.int 1]) 18 (c_X5_within_t l G 0 0 3 (by decide)) [] rfl rfl [] rfl rfl rfl rfl rfl rfl (Nat.le_of_ble_eq_true rfl) rfl dX5_act_18 ?_
  refine J_if_eq (tgt := 37) 21 dX5_act_21 (by decide) (fun c_2_ => absurd c_2_ (by decide)) (fun _ => ?_)
  refine J_aload_n 24 0 dX5_act_24 rfl rfl ?_
  refine J_aload_n 25 0 dX5_act_25 rfl rfl ?_
  refine g_205 (v := .ref sf) 26 0 rfl rfl dX5_act_26 ?_
  refine J_iload_n 29 1 dX5_act_29 rfl rfl ?_
  refine J_aldq (b := Fa) 30 12 4 s rfl rfl rfl (by omega) (by decide) hy dX5_act_30 ?_
  refine kb_RX5_292 (bs' := [wMe o (An 0) (Ak 0) (At 0) (Ad 0) kk tp rw rc sh sf de, wCt G An la ns sd to he sw nh ki te mi ar z, wDe de bo 0 pz dk nu dt, wI G bo 30 dbo, wQ G sf 4 4 sff, wSf Fa 1 (nI j) fso fsz]) (rest := []) (st' := [.int 1]) 31 (c_X5_holdsHearer_t l G j o An Ak At Ad kk tp rw rc sh sf de la ns sd to he sw nh ki te mi ar z Fa fso fsz (by first | omega | assumption) (by first | omega | assumption)) [0, 1, 5] 0 rfl rfl rfl [[o], [An 0, An 1, An 2, An 3, An 4, An 5, An 6, An 7, An 8], [Fa]] rfl rfl rfl rfl rfl rfl (Nat.le_of_ble_eq_true rfl) rfl dX5_act_31 ?_
  refine J_if_ne (tgt := 39) 34 dX5_act_34 (by decide) (fun _ => ?_) (fun c_3_ => absurd c_3_ (by decide))
  refine J_aload_n 39 0 dX5_act_39 rfl rfl ?_
  refine g_205 (v := .ref sf) 40 0 rfl rfl dX5_act_40 ?_
  refine J_iload_n 43 1 dX5_act_43 rfl rfl ?_
  refine J_aldq (b := Fa) 44 12 4 s rfl rfl rfl (by omega) (by decide) hy dX5_act_44 ?_
  refine g_154 (v := .int (nI j)) 45 13 rfl rfl dX5_act_45 ?_
  refine J_istore (lv' := [some (.ref o), some (.int (nI s)), some (.int 0), some (.int x), some (.int (nI j)), none]) 48 dX5_act_48 (by decide) rfl ?_
  refine J_aload_n 50 0 dX5_act_50 rfl rfl ?_
  refine g_206 (v := .ref de) 51 0 rfl rfl dX5_act_51 ?_
  refine J_aload_n 54 0 dX5_act_54 rfl rfl ?_
  refine g_196 (v := .ref (An 0)) 55 0 rfl rfl dX5_act_55 ?_
  refine g_56 (v := .ref (An 5)) 58 1 rfl rfl dX5_act_58 ?_
  refine J_iload 61 dX5_act_61 rfl ?_
  refine J_iald 63 6 j rfl rfl (by omega) (by decide) dX5_act_63 ?_
  refine J_topi (y := 4) 64 hk ?_
  refine J_iload 64 dX5_act_64 rfl ?_
  refine J_aload_n 66 0 dX5_act_66 rfl rfl ?_
  refine g_196 (v := .ref (An 0)) 67 0 rfl rfl dX5_act_67 ?_
  refine g_58 (v := .ref (An 6)) 70 1 rfl rfl dX5_act_70 ?_
  refine J_iload 73 dX5_act_73 rfl ?_
  refine J_iald 75 7 j rfl rfl (by omega) (by decide) dX5_act_75 ?_
  refine kb_RX5_305 (bs' := [wMe o (An 0) (Ak 0) (At 0) (Ad 0) kk tp rw rc sh sf de, wCt G An la ns sd to he sw nh ki te mi ar z, wDe de bo 0 0 4 (nI j) (te j), wI G bo 30 dbo, wQ G sf 4 4 sff, wSf Fa 1 (nI j) fso fsz]) (rest := []) (st' := []) 76 (c_X1_begin l G 4 (nI j) (te j) de bo 0 pz dk nu dt ) [2] 10 rfl rfl rfl [[de]] rfl rfl rfl rfl rfl rfl (Nat.le_of_ble_eq_true rfl) rfl dX5_act_76 ?_
  refine J_aload_n 79 0 dX5_act_79 rfl rfl ?_
  refine g_206 (v := .ref de) 80 0 rfl rfl dX5_act_80 ?_
  refine J_aload_n 83 0 dX5_act_83 rfl rfl ?_
  refine g_196 (v := .ref (An 0)) 84 0 rfl rfl dX5_act_84 ?_
  refine g_56 (v := .ref (An 5)) 87 1 rfl rfl dX5_act_87 ?_
  refine J_iload 90 dX5_act_90 rfl ?_
  refine J_iald 92 6 j rfl rfl (by omega) (by decide) dX5_act_92 ?_
  refine J_topi (y := 4) 93 hk ?_
  refine J_iload_n 93 2 dX5_act_93 rfl rfl ?_
  refine kb_RX5_308 (bs' := [wMe o (An 0) (Ak 0) (At 0) (Ad 0) kk tp rw rc sh sf de, wCt G An la ns sd to he sw nh ki te mi ar z, wDe de bo 0 0 4 (nI j) (te j), wI G bo 30 dbo, wQ G sf 4 4 sff, wSf Fa 1 (nI j) fso fsz]) (rest := [.ref de]) (st' := [.int 40, .ref de]) 94 (c_X1_bodyOf_4_0 l G  ) [] rfl rfl [] rfl rfl rfl rfl rfl rfl (Nat.le_of_ble_eq_true rfl) rfl dX5_act_94 ?_
  refine J_iload_n 97 3 dX5_act_97 rfl rfl ?_
  refine J_iconst (v := 0) 98 dX5_act_98 rfl ?_
  refine kb_RX5_311 (bs' := [wMe o (An 0) (Ak 0) (At 0) (Ad 0) kk tp rw rc sh sf de, wCt G An la ns sd to he sw nh ki te mi ar z, wDe de bo (0 + 3) 0 4 (nI j) (te j), wI G bo 30 (pF [40, 30, 10] dbo 0), wQ G sf 4 4 sff, wSf Fa 1 (nI j) fso fsz]) (rest := []) (st' := [.int (0 - ((x * 5 + (nI j)) - 4))]) 99 (c_runs_4_40 l G x 0 de bo 0 (nI j) (te j) dbo (by decide) (by decide)) [2, 3] rfl rfl [[de], [bo]] rfl rfl rfl rfl rfl rfl (Nat.le_of_ble_eq_true rfl) rfl dX5_act_99 ?_
  refine J_istore (lv' := [some (.ref o), some (.int (nI s)), some (.int 0), some (.int x), some (.int (nI j)), some (.int (0 - ((x * 5 + (nI j)) - 4)))]) 102 dX5_act_102 (by decide) rfl ?_
  refine J_aload_n 104 0 dX5_act_104 rfl rfl ?_
  refine g_206 (v := .ref de) 105 0 rfl rfl dX5_act_105 ?_
  refine g_179 (v := .int 0) 108 10 rfl rfl dX5_act_108 ?_
  refine J_if_eq (tgt := 119) 111 dX5_act_111 (by decide) (fun _ => ?_) (fun c_4_ => absurd c_4_ (by decide))
  refine J_iload 119 dX5_act_119 rfl ?_
  exact J_iret 121 dX5_act_121 rfl (cg1 (fun (x0_ : Nat) => (wF [wMe o (An 0) (Ak 0) (At 0) (Ad 0) kk tp rw rc sh sf de, wCt G An la ns sd to he sw nh ki te mi ar z, wDe de bo x0_ 0 4 (nI j) (te j), wI G bo 30 (pF [40, 30, 10] dbo 0), wQ G sf 4 4 sff, wSf Fa 1 (nI j) fso fsz])) (0 + 3) 3 rfl)
set_option maxRecDepth 100000 in
set_option maxHeartbeats 4000000 in
theorem c_X5_act_4_1 (l : Launch) (G : Gd) (s : Nat) (x : Int32) (Fa : Nat) (j : Nat) (o : Nat) (An : Nat → Nat) (Ak : Nat → Nat) (At : Nat → Nat) (Ad : Nat → Nat) (kk : Int32) (tp : Nat) (rw : Nat) (rc : Nat) (sh : Nat) (sf : Nat) (de : Nat) (la : Nat → Int32) (ns : Nat) (sd : Nat) (to : Nat → Int32) (he : Nat → Int32) (sw : Nat → Int32) (nh : Nat) (ki : Nat → Int32) (te : Nat → Int32) (mi : Nat → Int32) (ar : Nat → Int32) (z : Int32) (bo : Nat) (ct : Nat) (pz : Int32) (dk : Int32) (nu : Int32) (dt : Int32) (dbo : Nat → Int32) (sff : Nat → Option Nat) (fso : Int32) (fsz : Int32) (hs : s ≤ 3) (hy : sff s = some Fa) (hj : j < nh) (hnh : nh ≤ 8) (hk : ki j = 4) : Ct l G yX5_act cX5_act 6 (some (FieldType.int)) 8 [.ref o, .int (nI s), .int 1, .int x] (wF [wMe o (An 0) (Ak 0) (At 0) (Ad 0) kk tp rw rc sh sf de, wCt G An la ns sd to he sw nh ki te mi ar z, wDe de bo ct pz dk nu dt, wI G bo 30 dbo, wQ G sf 4 4 sff, wSf Fa 1 (nI j) fso fsz]) (some (.int (((0 - ((x * 5 + (nI j)) - 4)) - (te j)) ^^^ (0 - (((te j) * 5 + (nI j)) - 4))))) (wF [wMe o (An 0) (Ak 0) (At 0) (Ad 0) kk tp rw rc sh sf de, wCt G An la ns sd to he sw nh ki te mi ar z, wDe de bo 8 0 4 (nI j) (te j), wI G bo 30 (pF [41, 11, 40, 30, 10, 40, 30, 10] dbo 0), wQ G sf 4 4 sff, wSf Fa 1 (nI j) fso fsz]) := by
  refine Ct.of "GooseArms" [some (.ref o), some (.int (nI s)), some (.int 1), some (.int x), none, none] (by decide +kernel) rfl (Nat.le_of_ble_eq_true rfl) rfl ?_
  refine J_aload_n 0 0 dX5_act_0 rfl rfl ?_
  refine g_206 (v := .ref de) 1 0 rfl rfl dX5_act_1 ?_
  refine J_iconst (v := 0) 4 dX5_act_4 rfl ?_
  refine p_177 (ws' := (wF [wMe o (An 0) (Ak 0) (At 0) (Ad 0) kk tp rw rc sh sf de, wCt G An la ns sd to he sw nh ki te mi ar z, wDe de bo 0 pz dk nu dt, wI G bo 30 dbo, wQ G sf 4 4 sff, wSf Fa 1 (nI j) fso fsz])) 5 10 rfl rfl rfl (Nat.le_of_ble_eq_true rfl) rfl dX5_act_5 ?_
  refine J_iload_n 8 1 dX5_act_8 rfl rfl ?_
  refine kb_RX5_219 (bs' := [wMe o (An 0) (Ak 0) (At 0) (Ad 0) kk tp rw rc sh sf de, wCt G An la ns sd to he sw nh ki te mi ar z, wDe de bo 0 pz dk nu dt, wI G bo 30 dbo, wQ G sf 4 4 sff, wSf Fa 1 (nI j) fso fsz]) (rest := []) (st' := [.int 1]) 9 (c_X5_isPlace_t l G s (by first | omega | assumption)) [] rfl rfl [] rfl rfl rfl rfl rfl rfl (Nat.le_of_ble_eq_true rfl) rfl dX5_act_9 ?_
  refine J_if_eq (tgt := 37) 12 dX5_act_12 (by decide) (fun c_1_ => absurd c_1_ (by decide)) (fun _ => ?_)
  refine J_iload_n 15 2 dX5_act_15 rfl rfl ?_
  refine J_iconst (v := 0) 16 dX5_act_16 rfl ?_
  refine J_iconst (v := 3) 17 dX5_act_17 rfl ?_
  refine kb_RX5_65 (bs' := [wMe o (An 0) (Ak 0) (At 0) (Ad 0) kk tp rw rc sh sf de, wCt G An la ns sd to he sw nh ki te mi ar z, wDe de bo 0 pz dk nu dt, wI G bo 30 dbo, wQ G sf 4 4 sff, wSf Fa 1 (nI j) fso fsz]) (rest := []) (st' := [.int 1]) 18 (c_X5_within_t l G 1 0 3 (by decide)) [] rfl rfl [] rfl rfl rfl rfl rfl rfl (Nat.le_of_ble_eq_true rfl) rfl dX5_act_18 ?_
  refine J_if_eq (tgt := 37) 21 dX5_act_21 (by decide) (fun c_2_ => absurd c_2_ (by decide)) (fun _ => ?_)
  refine J_aload_n 24 0 dX5_act_24 rfl rfl ?_
  refine J_aload_n 25 0 dX5_act_25 rfl rfl ?_
  refine g_205 (v := .ref sf) 26 0 rfl rfl dX5_act_26 ?_
  refine J_iload_n 29 1 dX5_act_29 rfl rfl ?_
  refine J_aldq (b := Fa) 30 12 4 s rfl rfl rfl (by omega) (by decide) hy dX5_act_30 ?_
  refine kb_RX5_292 (bs' := [wMe o (An 0) (Ak 0) (At 0) (Ad 0) kk tp rw rc sh sf de, wCt G An la ns sd to he sw nh ki te mi ar z, wDe de bo 0 pz dk nu dt, wI G bo 30 dbo, wQ G sf 4 4 sff, wSf Fa 1 (nI j) fso fsz]) (rest := []) (st' := [.int 1]) 31 (c_X5_holdsHearer_t l G j o An Ak At Ad kk tp rw rc sh sf de la ns sd to he sw nh ki te mi ar z Fa fso fsz (by first | omega | assumption) (by first | omega | assumption)) [0, 1, 5] 0 rfl rfl rfl [[o], [An 0, An 1, An 2, An 3, An 4, An 5, An 6, An 7, An 8], [Fa]] rfl rfl rfl rfl rfl rfl (Nat.le_of_ble_eq_true rfl) rfl dX5_act_31 ?_
  refine J_if_ne (tgt := 39) 34 dX5_act_34 (by decide) (fun _ => ?_) (fun c_3_ => absurd c_3_ (by decide))
  refine J_aload_n 39 0 dX5_act_39 rfl rfl ?_
  refine g_205 (v := .ref sf) 40 0 rfl rfl dX5_act_40 ?_
  refine J_iload_n 43 1 dX5_act_43 rfl rfl ?_
  refine J_aldq (b := Fa) 44 12 4 s rfl rfl rfl (by omega) (by decide) hy dX5_act_44 ?_
  refine g_154 (v := .int (nI j)) 45 13 rfl rfl dX5_act_45 ?_
  refine J_istore (lv' := [some (.ref o), some (.int (nI s)), some (.int 1), some (.int x), some (.int (nI j)), none]) 48 dX5_act_48 (by decide) rfl ?_
  refine J_aload_n 50 0 dX5_act_50 rfl rfl ?_
  refine g_206 (v := .ref de) 51 0 rfl rfl dX5_act_51 ?_
  refine J_aload_n 54 0 dX5_act_54 rfl rfl ?_
  refine g_196 (v := .ref (An 0)) 55 0 rfl rfl dX5_act_55 ?_
  refine g_56 (v := .ref (An 5)) 58 1 rfl rfl dX5_act_58 ?_
  refine J_iload 61 dX5_act_61 rfl ?_
  refine J_iald 63 6 j rfl rfl (by omega) (by decide) dX5_act_63 ?_
  refine J_topi (y := 4) 64 hk ?_
  refine J_iload 64 dX5_act_64 rfl ?_
  refine J_aload_n 66 0 dX5_act_66 rfl rfl ?_
  refine g_196 (v := .ref (An 0)) 67 0 rfl rfl dX5_act_67 ?_
  refine g_58 (v := .ref (An 6)) 70 1 rfl rfl dX5_act_70 ?_
  refine J_iload 73 dX5_act_73 rfl ?_
  refine J_iald 75 7 j rfl rfl (by omega) (by decide) dX5_act_75 ?_
  refine kb_RX5_305 (bs' := [wMe o (An 0) (Ak 0) (At 0) (Ad 0) kk tp rw rc sh sf de, wCt G An la ns sd to he sw nh ki te mi ar z, wDe de bo 0 0 4 (nI j) (te j), wI G bo 30 dbo, wQ G sf 4 4 sff, wSf Fa 1 (nI j) fso fsz]) (rest := []) (st' := []) 76 (c_X1_begin l G 4 (nI j) (te j) de bo 0 pz dk nu dt ) [2] 10 rfl rfl rfl [[de]] rfl rfl rfl rfl rfl rfl (Nat.le_of_ble_eq_true rfl) rfl dX5_act_76 ?_
  refine J_aload_n 79 0 dX5_act_79 rfl rfl ?_
  refine g_206 (v := .ref de) 80 0 rfl rfl dX5_act_80 ?_
  refine J_aload_n 83 0 dX5_act_83 rfl rfl ?_
  refine g_196 (v := .ref (An 0)) 84 0 rfl rfl dX5_act_84 ?_
  refine g_56 (v := .ref (An 5)) 87 1 rfl rfl dX5_act_87 ?_
  refine J_iload 90 dX5_act_90 rfl ?_
  refine J_iald 92 6 j rfl rfl (by omega) (by decide) dX5_act_92 ?_
  refine J_topi (y := 4) 93 hk ?_
  refine J_iload_n 93 2 dX5_act_93 rfl rfl ?_
  refine kb_RX5_308 (bs' := [wMe o (An 0) (Ak 0) (At 0) (Ad 0) kk tp rw rc sh sf de, wCt G An la ns sd to he sw nh ki te mi ar z, wDe de bo 0 0 4 (nI j) (te j), wI G bo 30 dbo, wQ G sf 4 4 sff, wSf Fa 1 (nI j) fso fsz]) (rest := [.ref de]) (st' := [.int 41, .ref de]) 94 (c_X1_bodyOf_4_1 l G  ) [] rfl rfl [] rfl rfl rfl rfl rfl rfl (Nat.le_of_ble_eq_true rfl) rfl dX5_act_94 ?_
  refine J_iload_n 97 3 dX5_act_97 rfl rfl ?_
  refine J_iconst (v := 0) 98 dX5_act_98 rfl ?_
  refine kb_RX5_311 (bs' := [wMe o (An 0) (Ak 0) (At 0) (Ad 0) kk tp rw rc sh sf de, wCt G An la ns sd to he sw nh ki te mi ar z, wDe de bo (0 + 8) 0 4 (nI j) (te j), wI G bo 30 (pF [41, 11, 40, 30, 10, 40, 30, 10] dbo 0), wQ G sf 4 4 sff, wSf Fa 1 (nI j) fso fsz]) (rest := []) (st' := [.int (((0 - ((x * 5 + (nI j)) - 4)) - (te j)) ^^^ (0 - (((te j) * 5 + (nI j)) - 4)))]) 99 (c_runs_4_41 l G x 0 de bo 0 (nI j) (te j) dbo (by decide) (by decide)) [2, 3] rfl rfl [[de], [bo]] rfl rfl rfl rfl rfl rfl (Nat.le_of_ble_eq_true rfl) rfl dX5_act_99 ?_
  refine J_istore (lv' := [some (.ref o), some (.int (nI s)), some (.int 1), some (.int x), some (.int (nI j)), some (.int (((0 - ((x * 5 + (nI j)) - 4)) - (te j)) ^^^ (0 - (((te j) * 5 + (nI j)) - 4))))]) 102 dX5_act_102 (by decide) rfl ?_
  refine J_aload_n 104 0 dX5_act_104 rfl rfl ?_
  refine g_206 (v := .ref de) 105 0 rfl rfl dX5_act_105 ?_
  refine g_179 (v := .int 0) 108 10 rfl rfl dX5_act_108 ?_
  refine J_if_eq (tgt := 119) 111 dX5_act_111 (by decide) (fun _ => ?_) (fun c_4_ => absurd c_4_ (by decide))
  refine J_iload 119 dX5_act_119 rfl ?_
  exact J_iret 121 dX5_act_121 rfl (cg1 (fun (x0_ : Nat) => (wF [wMe o (An 0) (Ak 0) (At 0) (Ad 0) kk tp rw rc sh sf de, wCt G An la ns sd to he sw nh ki te mi ar z, wDe de bo x0_ 0 4 (nI j) (te j), wI G bo 30 (pF [41, 11, 40, 30, 10, 40, 30, 10] dbo 0), wQ G sf 4 4 sff, wSf Fa 1 (nI j) fso fsz])) (0 + 8) 8 rfl)
set_option maxRecDepth 100000 in
set_option maxHeartbeats 4000000 in
theorem c_X5_act_4_2 (l : Launch) (G : Gd) (s : Nat) (x : Int32) (Fa : Nat) (j : Nat) (o : Nat) (An : Nat → Nat) (Ak : Nat → Nat) (At : Nat → Nat) (Ad : Nat → Nat) (kk : Int32) (tp : Nat) (rw : Nat) (rc : Nat) (sh : Nat) (sf : Nat) (de : Nat) (la : Nat → Int32) (ns : Nat) (sd : Nat) (to : Nat → Int32) (he : Nat → Int32) (sw : Nat → Int32) (nh : Nat) (ki : Nat → Int32) (te : Nat → Int32) (mi : Nat → Int32) (ar : Nat → Int32) (z : Int32) (bo : Nat) (ct : Nat) (pz : Int32) (dk : Int32) (nu : Int32) (dt : Int32) (dbo : Nat → Int32) (sff : Nat → Option Nat) (fso : Int32) (fsz : Int32) (hs : s ≤ 3) (hy : sff s = some Fa) (hj : j < nh) (hnh : nh ≤ 8) (hk : ki j = 4) (hz : ¬ (te j) - (nI j) = 0) : Ct l G yX5_act cX5_act 6 (some (FieldType.int)) 8 [.ref o, .int (nI s), .int 2, .int x] (wF [wMe o (An 0) (Ak 0) (At 0) (Ad 0) kk tp rw rc sh sf de, wCt G An la ns sd to he sw nh ki te mi ar z, wDe de bo ct pz dk nu dt, wI G bo 30 dbo, wQ G sf 4 4 sff, wSf Fa 1 (nI j) fso fsz]) (some (.int (x / ((te j) - (nI j))))) (wF [wMe o (An 0) (Ak 0) (At 0) (Ad 0) kk tp rw rc sh sf de, wCt G An la ns sd to he sw nh ki te mi ar z, wDe de bo 1 0 4 (nI j) (te j), wI G bo 30 (pF [12] dbo 0), wQ G sf 4 4 sff, wSf Fa 1 (nI j) fso fsz]) := by
  refine Ct.of "GooseArms" [some (.ref o), some (.int (nI s)), some (.int 2), some (.int x), none, none] (by decide +kernel) rfl (Nat.le_of_ble_eq_true rfl) rfl ?_
  refine J_aload_n 0 0 dX5_act_0 rfl rfl ?_
  refine g_206 (v := .ref de) 1 0 rfl rfl dX5_act_1 ?_
  refine J_iconst (v := 0) 4 dX5_act_4 rfl ?_
  refine p_177 (ws' := (wF [wMe o (An 0) (Ak 0) (At 0) (Ad 0) kk tp rw rc sh sf de, wCt G An la ns sd to he sw nh ki te mi ar z, wDe de bo 0 pz dk nu dt, wI G bo 30 dbo, wQ G sf 4 4 sff, wSf Fa 1 (nI j) fso fsz])) 5 10 rfl rfl rfl (Nat.le_of_ble_eq_true rfl) rfl dX5_act_5 ?_
  refine J_iload_n 8 1 dX5_act_8 rfl rfl ?_
  refine kb_RX5_219 (bs' := [wMe o (An 0) (Ak 0) (At 0) (Ad 0) kk tp rw rc sh sf de, wCt G An la ns sd to he sw nh ki te mi ar z, wDe de bo 0 pz dk nu dt, wI G bo 30 dbo, wQ G sf 4 4 sff, wSf Fa 1 (nI j) fso fsz]) (rest := []) (st' := [.int 1]) 9 (c_X5_isPlace_t l G s (by first | omega | assumption)) [] rfl rfl [] rfl rfl rfl rfl rfl rfl (Nat.le_of_ble_eq_true rfl) rfl dX5_act_9 ?_
  refine J_if_eq (tgt := 37) 12 dX5_act_12 (by decide) (fun c_1_ => absurd c_1_ (by decide)) (fun _ => ?_)
  refine J_iload_n 15 2 dX5_act_15 rfl rfl ?_
  refine J_iconst (v := 0) 16 dX5_act_16 rfl ?_
  refine J_iconst (v := 3) 17 dX5_act_17 rfl ?_
  refine kb_RX5_65 (bs' := [wMe o (An 0) (Ak 0) (At 0) (Ad 0) kk tp rw rc sh sf de, wCt G An la ns sd to he sw nh ki te mi ar z, wDe de bo 0 pz dk nu dt, wI G bo 30 dbo, wQ G sf 4 4 sff, wSf Fa 1 (nI j) fso fsz]) (rest := []) (st' := [.int 1]) 18 (c_X5_within_t l G 2 0 3 (by decide)) [] rfl rfl [] rfl rfl rfl rfl rfl rfl (Nat.le_of_ble_eq_true rfl) rfl dX5_act_18 ?_
  refine J_if_eq (tgt := 37) 21 dX5_act_21 (by decide) (fun c_2_ => absurd c_2_ (by decide)) (fun _ => ?_)
  refine J_aload_n 24 0 dX5_act_24 rfl rfl ?_
  refine J_aload_n 25 0 dX5_act_25 rfl rfl ?_
  refine g_205 (v := .ref sf) 26 0 rfl rfl dX5_act_26 ?_
  refine J_iload_n 29 1 dX5_act_29 rfl rfl ?_
  refine J_aldq (b := Fa) 30 12 4 s rfl rfl rfl (by omega) (by decide) hy dX5_act_30 ?_
  refine kb_RX5_292 (bs' := [wMe o (An 0) (Ak 0) (At 0) (Ad 0) kk tp rw rc sh sf de, wCt G An la ns sd to he sw nh ki te mi ar z, wDe de bo 0 pz dk nu dt, wI G bo 30 dbo, wQ G sf 4 4 sff, wSf Fa 1 (nI j) fso fsz]) (rest := []) (st' := [.int 1]) 31 (c_X5_holdsHearer_t l G j o An Ak At Ad kk tp rw rc sh sf de la ns sd to he sw nh ki te mi ar z Fa fso fsz (by first | omega | assumption) (by first | omega | assumption)) [0, 1, 5] 0 rfl rfl rfl [[o], [An 0, An 1, An 2, An 3, An 4, An 5, An 6, An 7, An 8], [Fa]] rfl rfl rfl rfl rfl rfl (Nat.le_of_ble_eq_true rfl) rfl dX5_act_31 ?_
  refine J_if_ne (tgt := 39) 34 dX5_act_34 (by decide) (fun _ => ?_) (fun c_3_ => absurd c_3_ (by decide))
  refine J_aload_n 39 0 dX5_act_39 rfl rfl ?_
  refine g_205 (v := .ref sf) 40 0 rfl rfl dX5_act_40 ?_
  refine J_iload_n 43 1 dX5_act_43 rfl rfl ?_
  refine J_aldq (b := Fa) 44 12 4 s rfl rfl rfl (by omega) (by decide) hy dX5_act_44 ?_
  refine g_154 (v := .int (nI j)) 45 13 rfl rfl dX5_act_45 ?_
  refine J_istore (lv' := [some (.ref o), some (.int (nI s)), some (.int 2), some (.int x), some (.int (nI j)), none]) 48 dX5_act_48 (by decide) rfl ?_
  refine J_aload_n 50 0 dX5_act_50 rfl rfl ?_
  refine g_206 (v := .ref de) 51 0 rfl rfl dX5_act_51 ?_
  refine J_aload_n 54 0 dX5_act_54 rfl rfl ?_
  refine g_196 (v := .ref (An 0)) 55 0 rfl rfl dX5_act_55 ?_
  refine g_56 (v := .ref (An 5)) 58 1 rfl rfl dX5_act_58 ?_
  refine J_iload 61 dX5_act_61 rfl ?_
  refine J_iald 63 6 j rfl rfl (by omega) (by decide) dX5_act_63 ?_
  refine J_topi (y := 4) 64 hk ?_
  refine J_iload 64 dX5_act_64 rfl ?_
  refine J_aload_n 66 0 dX5_act_66 rfl rfl ?_
  refine g_196 (v := .ref (An 0)) 67 0 rfl rfl dX5_act_67 ?_
  refine g_58 (v := .ref (An 6)) 70 1 rfl rfl dX5_act_70 ?_
  refine J_iload 73 dX5_act_73 rfl ?_
  refine J_iald 75 7 j rfl rfl (by omega) (by decide) dX5_act_75 ?_
  refine kb_RX5_305 (bs' := [wMe o (An 0) (Ak 0) (At 0) (Ad 0) kk tp rw rc sh sf de, wCt G An la ns sd to he sw nh ki te mi ar z, wDe de bo 0 0 4 (nI j) (te j), wI G bo 30 dbo, wQ G sf 4 4 sff, wSf Fa 1 (nI j) fso fsz]) (rest := []) (st' := []) 76 (c_X1_begin l G 4 (nI j) (te j) de bo 0 pz dk nu dt ) [2] 10 rfl rfl rfl [[de]] rfl rfl rfl rfl rfl rfl (Nat.le_of_ble_eq_true rfl) rfl dX5_act_76 ?_
  refine J_aload_n 79 0 dX5_act_79 rfl rfl ?_
  refine g_206 (v := .ref de) 80 0 rfl rfl dX5_act_80 ?_
  refine J_aload_n 83 0 dX5_act_83 rfl rfl ?_
  refine g_196 (v := .ref (An 0)) 84 0 rfl rfl dX5_act_84 ?_
  refine g_56 (v := .ref (An 5)) 87 1 rfl rfl dX5_act_87 ?_
  refine J_iload 90 dX5_act_90 rfl ?_
  refine J_iald 92 6 j rfl rfl (by omega) (by decide) dX5_act_92 ?_
  refine J_topi (y := 4) 93 hk ?_
  refine J_iload_n 93 2 dX5_act_93 rfl rfl ?_
  refine kb_RX5_308 (bs' := [wMe o (An 0) (Ak 0) (At 0) (Ad 0) kk tp rw rc sh sf de, wCt G An la ns sd to he sw nh ki te mi ar z, wDe de bo 0 0 4 (nI j) (te j), wI G bo 30 dbo, wQ G sf 4 4 sff, wSf Fa 1 (nI j) fso fsz]) (rest := [.ref de]) (st' := [.int 12, .ref de]) 94 (c_X1_bodyOf_4_2 l G  ) [] rfl rfl [] rfl rfl rfl rfl rfl rfl (Nat.le_of_ble_eq_true rfl) rfl dX5_act_94 ?_
  refine J_iload_n 97 3 dX5_act_97 rfl rfl ?_
  refine J_iconst (v := 0) 98 dX5_act_98 rfl ?_
  refine kb_RX5_311 (bs' := [wMe o (An 0) (Ak 0) (At 0) (Ad 0) kk tp rw rc sh sf de, wCt G An la ns sd to he sw nh ki te mi ar z, wDe de bo (0 + 1) 0 4 (nI j) (te j), wI G bo 30 (pF [12] dbo 0), wQ G sf 4 4 sff, wSf Fa 1 (nI j) fso fsz]) (rest := []) (st' := [.int (x / ((te j) - (nI j)))]) 99 (c_runs_4_12 l G x 0 de bo 0 (nI j) (te j) dbo (by decide) (by decide) hz) [2, 3] rfl rfl [[de], [bo]] rfl rfl rfl rfl rfl rfl (Nat.le_of_ble_eq_true rfl) rfl dX5_act_99 ?_
  refine J_istore (lv' := [some (.ref o), some (.int (nI s)), some (.int 2), some (.int x), some (.int (nI j)), some (.int (x / ((te j) - (nI j))))]) 102 dX5_act_102 (by decide) rfl ?_
  refine J_aload_n 104 0 dX5_act_104 rfl rfl ?_
  refine g_206 (v := .ref de) 105 0 rfl rfl dX5_act_105 ?_
  refine g_179 (v := .int 0) 108 10 rfl rfl dX5_act_108 ?_
  refine J_if_eq (tgt := 119) 111 dX5_act_111 (by decide) (fun _ => ?_) (fun c_4_ => absurd c_4_ (by decide))
  refine J_iload 119 dX5_act_119 rfl ?_
  exact J_iret 121 dX5_act_121 rfl (cg1 (fun (x0_ : Nat) => (wF [wMe o (An 0) (Ak 0) (At 0) (Ad 0) kk tp rw rc sh sf de, wCt G An la ns sd to he sw nh ki te mi ar z, wDe de bo x0_ 0 4 (nI j) (te j), wI G bo 30 (pF [12] dbo 0), wQ G sf 4 4 sff, wSf Fa 1 (nI j) fso fsz])) (0 + 1) 1 rfl)
set_option maxRecDepth 100000 in
set_option maxHeartbeats 4000000 in
theorem c_X5_act_4_2z (l : Launch) (G : Gd) (s : Nat) (x : Int32) (Fa : Nat) (j : Nat) (o : Nat) (An : Nat → Nat) (Ak : Nat → Nat) (At : Nat → Nat) (Ad : Nat → Nat) (kk : Int32) (tp : Nat) (rw : Nat) (rc : Nat) (sh : Nat) (sf : Nat) (de : Nat) (la : Nat → Int32) (ns : Nat) (sd : Nat) (to : Nat → Int32) (he : Nat → Int32) (sw : Nat → Int32) (nh : Nat) (ki : Nat → Int32) (te : Nat → Int32) (mi : Nat → Int32) (ar : Nat → Int32) (z : Int32) (bo : Nat) (ct : Nat) (pz : Int32) (dk : Int32) (nu : Int32) (dt : Int32) (dbo : Nat → Int32) (sff : Nat → Option Nat) (fso : Int32) (fsz : Int32) (hs : s ≤ 3) (hy : sff s = some Fa) (hj : j < nh) (hnh : nh ≤ 8) (hk : ki j = 4) (hz : (te j) - (nI j) = 0) : Ct l G yX5_act cX5_act 6 (some (FieldType.int)) 8 [.ref o, .int (nI s), .int 2, .int x] (wF [wMe o (An 0) (Ak 0) (At 0) (Ad 0) kk tp rw rc sh sf de, wCt G An la ns sd to he sw nh ki te mi ar z, wDe de bo ct pz dk nu dt, wI G bo 30 dbo, wQ G sf 4 4 sff, wSf Fa 1 (nI j) fso fsz]) (some (.int (-15))) (wF [wMe o (An 0) (Ak 0) (At 0) (Ad 0) kk tp rw rc sh sf de, wCt G An la ns sd to he sw nh ki te mi ar z, wDe de bo 1 1 4 (nI j) (te j), wI G bo 30 (pF [12] dbo 0), wQ G sf 4 4 sff, wSf Fa 1 (nI j) fso fsz]) := by
  refine Ct.of "GooseArms" [some (.ref o), some (.int (nI s)), some (.int 2), some (.int x), none, none] (by decide +kernel) rfl (Nat.le_of_ble_eq_true rfl) rfl ?_
  refine J_aload_n 0 0 dX5_act_0 rfl rfl ?_
  refine g_206 (v := .ref de) 1 0 rfl rfl dX5_act_1 ?_
  refine J_iconst (v := 0) 4 dX5_act_4 rfl ?_
  refine p_177 (ws' := (wF [wMe o (An 0) (Ak 0) (At 0) (Ad 0) kk tp rw rc sh sf de, wCt G An la ns sd to he sw nh ki te mi ar z, wDe de bo 0 pz dk nu dt, wI G bo 30 dbo, wQ G sf 4 4 sff, wSf Fa 1 (nI j) fso fsz])) 5 10 rfl rfl rfl (Nat.le_of_ble_eq_true rfl) rfl dX5_act_5 ?_
  refine J_iload_n 8 1 dX5_act_8 rfl rfl ?_
  refine kb_RX5_219 (bs' := [wMe o (An 0) (Ak 0) (At 0) (Ad 0) kk tp rw rc sh sf de, wCt G An la ns sd to he sw nh ki te mi ar z, wDe de bo 0 pz dk nu dt, wI G bo 30 dbo, wQ G sf 4 4 sff, wSf Fa 1 (nI j) fso fsz]) (rest := []) (st' := [.int 1]) 9 (c_X5_isPlace_t l G s (by first | omega | assumption)) [] rfl rfl [] rfl rfl rfl rfl rfl rfl (Nat.le_of_ble_eq_true rfl) rfl dX5_act_9 ?_
  refine J_if_eq (tgt := 37) 12 dX5_act_12 (by decide) (fun c_1_ => absurd c_1_ (by decide)) (fun _ => ?_)
  refine J_iload_n 15 2 dX5_act_15 rfl rfl ?_
  refine J_iconst (v := 0) 16 dX5_act_16 rfl ?_
  refine J_iconst (v := 3) 17 dX5_act_17 rfl ?_
  refine kb_RX5_65 (bs' := [wMe o (An 0) (Ak 0) (At 0) (Ad 0) kk tp rw rc sh sf de, wCt G An la ns sd to he sw nh ki te mi ar z, wDe de bo 0 pz dk nu dt, wI G bo 30 dbo, wQ G sf 4 4 sff, wSf Fa 1 (nI j) fso fsz]) (rest := []) (st' := [.int 1]) 18 (c_X5_within_t l G 2 0 3 (by decide)) [] rfl rfl [] rfl rfl rfl rfl rfl rfl (Nat.le_of_ble_eq_true rfl) rfl dX5_act_18 ?_
  refine J_if_eq (tgt := 37) 21 dX5_act_21 (by decide) (fun c_2_ => absurd c_2_ (by decide)) (fun _ => ?_)
  refine J_aload_n 24 0 dX5_act_24 rfl rfl ?_
  refine J_aload_n 25 0 dX5_act_25 rfl rfl ?_
  refine g_205 (v := .ref sf) 26 0 rfl rfl dX5_act_26 ?_
  refine J_iload_n 29 1 dX5_act_29 rfl rfl ?_
  refine J_aldq (b := Fa) 30 12 4 s rfl rfl rfl (by omega) (by decide) hy dX5_act_30 ?_
  refine kb_RX5_292 (bs' := [wMe o (An 0) (Ak 0) (At 0) (Ad 0) kk tp rw rc sh sf de, wCt G An la ns sd to he sw nh ki te mi ar z, wDe de bo 0 pz dk nu dt, wI G bo 30 dbo, wQ G sf 4 4 sff, wSf Fa 1 (nI j) fso fsz]) (rest := []) (st' := [.int 1]) 31 (c_X5_holdsHearer_t l G j o An Ak At Ad kk tp rw rc sh sf de la ns sd to he sw nh ki te mi ar z Fa fso fsz (by first | omega | assumption) (by first | omega | assumption)) [0, 1, 5] 0 rfl rfl rfl [[o], [An 0, An 1, An 2, An 3, An 4, An 5, An 6, An 7, An 8], [Fa]] rfl rfl rfl rfl rfl rfl (Nat.le_of_ble_eq_true rfl) rfl dX5_act_31 ?_
  refine J_if_ne (tgt := 39) 34 dX5_act_34 (by decide) (fun _ => ?_) (fun c_3_ => absurd c_3_ (by decide))
  refine J_aload_n 39 0 dX5_act_39 rfl rfl ?_
  refine g_205 (v := .ref sf) 40 0 rfl rfl dX5_act_40 ?_
  refine J_iload_n 43 1 dX5_act_43 rfl rfl ?_
  refine J_aldq (b := Fa) 44 12 4 s rfl rfl rfl (by omega) (by decide) hy dX5_act_44 ?_
  refine g_154 (v := .int (nI j)) 45 13 rfl rfl dX5_act_45 ?_
  refine J_istore (lv' := [some (.ref o), some (.int (nI s)), some (.int 2), some (.int x), some (.int (nI j)), none]) 48 dX5_act_48 (by decide) rfl ?_
  refine J_aload_n 50 0 dX5_act_50 rfl rfl ?_
  refine g_206 (v := .ref de) 51 0 rfl rfl dX5_act_51 ?_
  refine J_aload_n 54 0 dX5_act_54 rfl rfl ?_
  refine g_196 (v := .ref (An 0)) 55 0 rfl rfl dX5_act_55 ?_
  refine g_56 (v := .ref (An 5)) 58 1 rfl rfl dX5_act_58 ?_
  refine J_iload 61 dX5_act_61 rfl ?_
  refine J_iald 63 6 j rfl rfl (by omega) (by decide) dX5_act_63 ?_
  refine J_topi (y := 4) 64 hk ?_
  refine J_iload 64 dX5_act_64 rfl ?_
  refine J_aload_n 66 0 dX5_act_66 rfl rfl ?_
  refine g_196 (v := .ref (An 0)) 67 0 rfl rfl dX5_act_67 ?_
  refine g_58 (v := .ref (An 6)) 70 1 rfl rfl dX5_act_70 ?_
  refine J_iload 73 dX5_act_73 rfl ?_
  refine J_iald 75 7 j rfl rfl (by omega) (by decide) dX5_act_75 ?_
  refine kb_RX5_305 (bs' := [wMe o (An 0) (Ak 0) (At 0) (Ad 0) kk tp rw rc sh sf de, wCt G An la ns sd to he sw nh ki te mi ar z, wDe de bo 0 0 4 (nI j) (te j), wI G bo 30 dbo, wQ G sf 4 4 sff, wSf Fa 1 (nI j) fso fsz]) (rest := []) (st' := []) 76 (c_X1_begin l G 4 (nI j) (te j) de bo 0 pz dk nu dt ) [2] 10 rfl rfl rfl [[de]] rfl rfl rfl rfl rfl rfl (Nat.le_of_ble_eq_true rfl) rfl dX5_act_76 ?_
  refine J_aload_n 79 0 dX5_act_79 rfl rfl ?_
  refine g_206 (v := .ref de) 80 0 rfl rfl dX5_act_80 ?_
  refine J_aload_n 83 0 dX5_act_83 rfl rfl ?_
  refine g_196 (v := .ref (An 0)) 84 0 rfl rfl dX5_act_84 ?_
  refine g_56 (v := .ref (An 5)) 87 1 rfl rfl dX5_act_87 ?_
  refine J_iload 90 dX5_act_90 rfl ?_
  refine J_iald 92 6 j rfl rfl (by omega) (by decide) dX5_act_92 ?_
  refine J_topi (y := 4) 93 hk ?_
  refine J_iload_n 93 2 dX5_act_93 rfl rfl ?_
  refine kb_RX5_308 (bs' := [wMe o (An 0) (Ak 0) (At 0) (Ad 0) kk tp rw rc sh sf de, wCt G An la ns sd to he sw nh ki te mi ar z, wDe de bo 0 0 4 (nI j) (te j), wI G bo 30 dbo, wQ G sf 4 4 sff, wSf Fa 1 (nI j) fso fsz]) (rest := [.ref de]) (st' := [.int 12, .ref de]) 94 (c_X1_bodyOf_4_2 l G  ) [] rfl rfl [] rfl rfl rfl rfl rfl rfl (Nat.le_of_ble_eq_true rfl) rfl dX5_act_94 ?_
  refine J_iload_n 97 3 dX5_act_97 rfl rfl ?_
  refine J_iconst (v := 0) 98 dX5_act_98 rfl ?_
  refine kb_RX5_311 (bs' := [wMe o (An 0) (Ak 0) (At 0) (Ad 0) kk tp rw rc sh sf de, wCt G An la ns sd to he sw nh ki te mi ar z, wDe de bo (0 + 1) 1 4 (nI j) (te j), wI G bo 30 (pF [12] dbo 0), wQ G sf 4 4 sff, wSf Fa 1 (nI j) fso fsz]) (rest := []) (st' := [.int 0]) 99 (c_runs_4_12z l G x 0 de bo 0 (nI j) (te j) dbo (by decide) (by decide) hz) [2, 3] rfl rfl [[de], [bo]] rfl rfl rfl rfl rfl rfl (Nat.le_of_ble_eq_true rfl) rfl dX5_act_99 ?_
  refine J_istore (lv' := [some (.ref o), some (.int (nI s)), some (.int 2), some (.int x), some (.int (nI j)), some (.int 0)]) 102 dX5_act_102 (by decide) rfl ?_
  refine J_aload_n 104 0 dX5_act_104 rfl rfl ?_
  refine g_206 (v := .ref de) 105 0 rfl rfl dX5_act_105 ?_
  refine g_179 (v := .int 1) 108 10 rfl rfl dX5_act_108 ?_
  refine J_if_eq (tgt := 119) 111 dX5_act_111 (by decide) (fun c_4_ => absurd c_4_ (by decide)) (fun _ => ?_)
  refine J_bipush (v := (-15)) 114 dX5_act_114 rfl ?_
  refine J_goto (tgt := 121) 116 dX5_act_116 (by decide) ?_
  exact J_iret 121 dX5_act_121 rfl (cg1 (fun (x0_ : Nat) => (wF [wMe o (An 0) (Ak 0) (At 0) (Ad 0) kk tp rw rc sh sf de, wCt G An la ns sd to he sw nh ki te mi ar z, wDe de bo x0_ 1 4 (nI j) (te j), wI G bo 30 (pF [12] dbo 0), wQ G sf 4 4 sff, wSf Fa 1 (nI j) fso fsz])) (0 + 1) 1 rfl)
set_option maxRecDepth 100000 in
set_option maxHeartbeats 4000000 in
theorem c_X5_act_4_3 (l : Launch) (G : Gd) (s : Nat) (x : Int32) (Fa : Nat) (j : Nat) (o : Nat) (An : Nat → Nat) (Ak : Nat → Nat) (At : Nat → Nat) (Ad : Nat → Nat) (kk : Int32) (tp : Nat) (rw : Nat) (rc : Nat) (sh : Nat) (sf : Nat) (de : Nat) (la : Nat → Int32) (ns : Nat) (sd : Nat) (to : Nat → Int32) (he : Nat → Int32) (sw : Nat → Int32) (nh : Nat) (ki : Nat → Int32) (te : Nat → Int32) (mi : Nat → Int32) (ar : Nat → Int32) (z : Int32) (bo : Nat) (ct : Nat) (pz : Int32) (dk : Int32) (nu : Int32) (dt : Int32) (dbo : Nat → Int32) (sff : Nat → Option Nat) (fso : Int32) (fsz : Int32) (hs : s ≤ 3) (hy : sff s = some Fa) (hj : j < nh) (hnh : nh ≤ 8) (hk : ki j = 4) (hz : ¬ (te j) - (nI j) = 0) : Ct l G yX5_act cX5_act 6 (some (FieldType.int)) 8 [.ref o, .int (nI s), .int 3, .int x] (wF [wMe o (An 0) (Ak 0) (At 0) (Ad 0) kk tp rw rc sh sf de, wCt G An la ns sd to he sw nh ki te mi ar z, wDe de bo ct pz dk nu dt, wI G bo 30 dbo, wQ G sf 4 4 sff, wSf Fa 1 (nI j) fso fsz]) (some (.int (((((0 - ((x * 5 + (nI j)) - 4)) - (te j)) ^^^ (0 - (((te j) * 5 + (nI j)) - 4))) ^^^ 150) + ((nI j) / ((te j) - (nI j)))))) (wF [wMe o (An 0) (Ak 0) (At 0) (Ad 0) kk tp rw rc sh sf de, wCt G An la ns sd to he sw nh ki te mi ar z, wDe de bo 11 0 4 (nI j) (te j), wI G bo 30 (pF [31, 13, 41, 11, 40, 30, 10, 40, 30, 10, 12] dbo 0), wQ G sf 4 4 sff, wSf Fa 1 (nI j) fso fsz]) := by
  refine Ct.of "GooseArms" [some (.ref o), some (.int (nI s)), some (.int 3), some (.int x), none, none] (by decide +kernel) rfl (Nat.le_of_ble_eq_true rfl) rfl ?_
  refine J_aload_n 0 0 dX5_act_0 rfl rfl ?_
  refine g_206 (v := .ref de) 1 0 rfl rfl dX5_act_1 ?_
  refine J_iconst (v := 0) 4 dX5_act_4 rfl ?_
  refine p_177 (ws' := (wF [wMe o (An 0) (Ak 0) (At 0) (Ad 0) kk tp rw rc sh sf de, wCt G An la ns sd to he sw nh ki te mi ar z, wDe de bo 0 pz dk nu dt, wI G bo 30 dbo, wQ G sf 4 4 sff, wSf Fa 1 (nI j) fso fsz])) 5 10 rfl rfl rfl (Nat.le_of_ble_eq_true rfl) rfl dX5_act_5 ?_
  refine J_iload_n 8 1 dX5_act_8 rfl rfl ?_
  refine kb_RX5_219 (bs' := [wMe o (An 0) (Ak 0) (At 0) (Ad 0) kk tp rw rc sh sf de, wCt G An la ns sd to he sw nh ki te mi ar z, wDe de bo 0 pz dk nu dt, wI G bo 30 dbo, wQ G sf 4 4 sff, wSf Fa 1 (nI j) fso fsz]) (rest := []) (st' := [.int 1]) 9 (c_X5_isPlace_t l G s (by first | omega | assumption)) [] rfl rfl [] rfl rfl rfl rfl rfl rfl (Nat.le_of_ble_eq_true rfl) rfl dX5_act_9 ?_
  refine J_if_eq (tgt := 37) 12 dX5_act_12 (by decide) (fun c_1_ => absurd c_1_ (by decide)) (fun _ => ?_)
  refine J_iload_n 15 2 dX5_act_15 rfl rfl ?_
  refine J_iconst (v := 0) 16 dX5_act_16 rfl ?_
  refine J_iconst (v := 3) 17 dX5_act_17 rfl ?_
  refine kb_RX5_65 (bs' := [wMe o (An 0) (Ak 0) (At 0) (Ad 0) kk tp rw rc sh sf de, wCt G An la ns sd to he sw nh ki te mi ar z, wDe de bo 0 pz dk nu dt, wI G bo 30 dbo, wQ G sf 4 4 sff, wSf Fa 1 (nI j) fso fsz]) (rest := []) (st' := [.int 1]) 18 (c_X5_within_t l G 3 0 3 (by decide)) [] rfl rfl [] rfl rfl rfl rfl rfl rfl (Nat.le_of_ble_eq_true rfl) rfl dX5_act_18 ?_
  refine J_if_eq (tgt := 37) 21 dX5_act_21 (by decide) (fun c_2_ => absurd c_2_ (by decide)) (fun _ => ?_)
  refine J_aload_n 24 0 dX5_act_24 rfl rfl ?_
  refine J_aload_n 25 0 dX5_act_25 rfl rfl ?_
  refine g_205 (v := .ref sf) 26 0 rfl rfl dX5_act_26 ?_
  refine J_iload_n 29 1 dX5_act_29 rfl rfl ?_
  refine J_aldq (b := Fa) 30 12 4 s rfl rfl rfl (by omega) (by decide) hy dX5_act_30 ?_
  refine kb_RX5_292 (bs' := [wMe o (An 0) (Ak 0) (At 0) (Ad 0) kk tp rw rc sh sf de, wCt G An la ns sd to he sw nh ki te mi ar z, wDe de bo 0 pz dk nu dt, wI G bo 30 dbo, wQ G sf 4 4 sff, wSf Fa 1 (nI j) fso fsz]) (rest := []) (st' := [.int 1]) 31 (c_X5_holdsHearer_t l G j o An Ak At Ad kk tp rw rc sh sf de la ns sd to he sw nh ki te mi ar z Fa fso fsz (by first | omega | assumption) (by first | omega | assumption)) [0, 1, 5] 0 rfl rfl rfl [[o], [An 0, An 1, An 2, An 3, An 4, An 5, An 6, An 7, An 8], [Fa]] rfl rfl rfl rfl rfl rfl (Nat.le_of_ble_eq_true rfl) rfl dX5_act_31 ?_
  refine J_if_ne (tgt := 39) 34 dX5_act_34 (by decide) (fun _ => ?_) (fun c_3_ => absurd c_3_ (by decide))
  refine J_aload_n 39 0 dX5_act_39 rfl rfl ?_
  refine g_205 (v := .ref sf) 40 0 rfl rfl dX5_act_40 ?_
  refine J_iload_n 43 1 dX5_act_43 rfl rfl ?_
  refine J_aldq (b := Fa) 44 12 4 s rfl rfl rfl (by omega) (by decide) hy dX5_act_44 ?_
  refine g_154 (v := .int (nI j)) 45 13 rfl rfl dX5_act_45 ?_
  refine J_istore (lv' := [some (.ref o), some (.int (nI s)), some (.int 3), some (.int x), some (.int (nI j)), none]) 48 dX5_act_48 (by decide) rfl ?_
  refine J_aload_n 50 0 dX5_act_50 rfl rfl ?_
  refine g_206 (v := .ref de) 51 0 rfl rfl dX5_act_51 ?_
  refine J_aload_n 54 0 dX5_act_54 rfl rfl ?_
  refine g_196 (v := .ref (An 0)) 55 0 rfl rfl dX5_act_55 ?_
  refine g_56 (v := .ref (An 5)) 58 1 rfl rfl dX5_act_58 ?_
  refine J_iload 61 dX5_act_61 rfl ?_
  refine J_iald 63 6 j rfl rfl (by omega) (by decide) dX5_act_63 ?_
  refine J_topi (y := 4) 64 hk ?_
  refine J_iload 64 dX5_act_64 rfl ?_
  refine J_aload_n 66 0 dX5_act_66 rfl rfl ?_
  refine g_196 (v := .ref (An 0)) 67 0 rfl rfl dX5_act_67 ?_
  refine g_58 (v := .ref (An 6)) 70 1 rfl rfl dX5_act_70 ?_
  refine J_iload 73 dX5_act_73 rfl ?_
  refine J_iald 75 7 j rfl rfl (by omega) (by decide) dX5_act_75 ?_
  refine kb_RX5_305 (bs' := [wMe o (An 0) (Ak 0) (At 0) (Ad 0) kk tp rw rc sh sf de, wCt G An la ns sd to he sw nh ki te mi ar z, wDe de bo 0 0 4 (nI j) (te j), wI G bo 30 dbo, wQ G sf 4 4 sff, wSf Fa 1 (nI j) fso fsz]) (rest := []) (st' := []) 76 (c_X1_begin l G 4 (nI j) (te j) de bo 0 pz dk nu dt ) [2] 10 rfl rfl rfl [[de]] rfl rfl rfl rfl rfl rfl (Nat.le_of_ble_eq_true rfl) rfl dX5_act_76 ?_
  refine J_aload_n 79 0 dX5_act_79 rfl rfl ?_
  refine g_206 (v := .ref de) 80 0 rfl rfl dX5_act_80 ?_
  refine J_aload_n 83 0 dX5_act_83 rfl rfl ?_
  refine g_196 (v := .ref (An 0)) 84 0 rfl rfl dX5_act_84 ?_
  refine g_56 (v := .ref (An 5)) 87 1 rfl rfl dX5_act_87 ?_
  refine J_iload 90 dX5_act_90 rfl ?_
  refine J_iald 92 6 j rfl rfl (by omega) (by decide) dX5_act_92 ?_
  refine J_topi (y := 4) 93 hk ?_
  refine J_iload_n 93 2 dX5_act_93 rfl rfl ?_
  refine kb_RX5_308 (bs' := [wMe o (An 0) (Ak 0) (At 0) (Ad 0) kk tp rw rc sh sf de, wCt G An la ns sd to he sw nh ki te mi ar z, wDe de bo 0 0 4 (nI j) (te j), wI G bo 30 dbo, wQ G sf 4 4 sff, wSf Fa 1 (nI j) fso fsz]) (rest := [.ref de]) (st' := [.int 31, .ref de]) 94 (c_X1_bodyOf_4_3 l G  ) [] rfl rfl [] rfl rfl rfl rfl rfl rfl (Nat.le_of_ble_eq_true rfl) rfl dX5_act_94 ?_
  refine J_iload_n 97 3 dX5_act_97 rfl rfl ?_
  refine J_iconst (v := 0) 98 dX5_act_98 rfl ?_
  refine kb_RX5_311 (bs' := [wMe o (An 0) (Ak 0) (At 0) (Ad 0) kk tp rw rc sh sf de, wCt G An la ns sd to he sw nh ki te mi ar z, wDe de bo (0 + 11) 0 4 (nI j) (te j), wI G bo 30 (pF [31, 13, 41, 11, 40, 30, 10, 40, 30, 10, 12] dbo 0), wQ G sf 4 4 sff, wSf Fa 1 (nI j) fso fsz]) (rest := []) (st' := [.int (((((0 - ((x * 5 + (nI j)) - 4)) - (te j)) ^^^ (0 - (((te j) * 5 + (nI j)) - 4))) ^^^ 150) + ((nI j) / ((te j) - (nI j))))]) 99 (c_runs_4_31 l G x 0 de bo 0 (nI j) (te j) dbo (by decide) (by decide) hz) [2, 3] rfl rfl [[de], [bo]] rfl rfl rfl rfl rfl rfl (Nat.le_of_ble_eq_true rfl) rfl dX5_act_99 ?_
  refine J_istore (lv' := [some (.ref o), some (.int (nI s)), some (.int 3), some (.int x), some (.int (nI j)), some (.int (((((0 - ((x * 5 + (nI j)) - 4)) - (te j)) ^^^ (0 - (((te j) * 5 + (nI j)) - 4))) ^^^ 150) + ((nI j) / ((te j) - (nI j)))))]) 102 dX5_act_102 (by decide) rfl ?_
  refine J_aload_n 104 0 dX5_act_104 rfl rfl ?_
  refine g_206 (v := .ref de) 105 0 rfl rfl dX5_act_105 ?_
  refine g_179 (v := .int 0) 108 10 rfl rfl dX5_act_108 ?_
  refine J_if_eq (tgt := 119) 111 dX5_act_111 (by decide) (fun _ => ?_) (fun c_4_ => absurd c_4_ (by decide))
  refine J_iload 119 dX5_act_119 rfl ?_
  exact J_iret 121 dX5_act_121 rfl (cg1 (fun (x0_ : Nat) => (wF [wMe o (An 0) (Ak 0) (At 0) (Ad 0) kk tp rw rc sh sf de, wCt G An la ns sd to he sw nh ki te mi ar z, wDe de bo x0_ 0 4 (nI j) (te j), wI G bo 30 (pF [31, 13, 41, 11, 40, 30, 10, 40, 30, 10, 12] dbo 0), wQ G sf 4 4 sff, wSf Fa 1 (nI j) fso fsz])) (0 + 11) 11 rfl)
set_option maxRecDepth 100000 in
set_option maxHeartbeats 4000000 in
theorem c_X5_act_4_3z (l : Launch) (G : Gd) (s : Nat) (x : Int32) (Fa : Nat) (j : Nat) (o : Nat) (An : Nat → Nat) (Ak : Nat → Nat) (At : Nat → Nat) (Ad : Nat → Nat) (kk : Int32) (tp : Nat) (rw : Nat) (rc : Nat) (sh : Nat) (sf : Nat) (de : Nat) (la : Nat → Int32) (ns : Nat) (sd : Nat) (to : Nat → Int32) (he : Nat → Int32) (sw : Nat → Int32) (nh : Nat) (ki : Nat → Int32) (te : Nat → Int32) (mi : Nat → Int32) (ar : Nat → Int32) (z : Int32) (bo : Nat) (ct : Nat) (pz : Int32) (dk : Int32) (nu : Int32) (dt : Int32) (dbo : Nat → Int32) (sff : Nat → Option Nat) (fso : Int32) (fsz : Int32) (hs : s ≤ 3) (hy : sff s = some Fa) (hj : j < nh) (hnh : nh ≤ 8) (hk : ki j = 4) (hz : (te j) - (nI j) = 0) : Ct l G yX5_act cX5_act 6 (some (FieldType.int)) 8 [.ref o, .int (nI s), .int 3, .int x] (wF [wMe o (An 0) (Ak 0) (At 0) (Ad 0) kk tp rw rc sh sf de, wCt G An la ns sd to he sw nh ki te mi ar z, wDe de bo ct pz dk nu dt, wI G bo 30 dbo, wQ G sf 4 4 sff, wSf Fa 1 (nI j) fso fsz]) (some (.int (-15))) (wF [wMe o (An 0) (Ak 0) (At 0) (Ad 0) kk tp rw rc sh sf de, wCt G An la ns sd to he sw nh ki te mi ar z, wDe de bo 11 1 4 (nI j) (te j), wI G bo 30 (pF [31, 13, 41, 11, 40, 30, 10, 40, 30, 10, 12] dbo 0), wQ G sf 4 4 sff, wSf Fa 1 (nI j) fso fsz]) := by
  refine Ct.of "GooseArms" [some (.ref o), some (.int (nI s)), some (.int 3), some (.int x), none, none] (by decide +kernel) rfl (Nat.le_of_ble_eq_true rfl) rfl ?_
  refine J_aload_n 0 0 dX5_act_0 rfl rfl ?_
  refine g_206 (v := .ref de) 1 0 rfl rfl dX5_act_1 ?_
  refine J_iconst (v := 0) 4 dX5_act_4 rfl ?_
  refine p_177 (ws' := (wF [wMe o (An 0) (Ak 0) (At 0) (Ad 0) kk tp rw rc sh sf de, wCt G An la ns sd to he sw nh ki te mi ar z, wDe de bo 0 pz dk nu dt, wI G bo 30 dbo, wQ G sf 4 4 sff, wSf Fa 1 (nI j) fso fsz])) 5 10 rfl rfl rfl (Nat.le_of_ble_eq_true rfl) rfl dX5_act_5 ?_
  refine J_iload_n 8 1 dX5_act_8 rfl rfl ?_
  refine kb_RX5_219 (bs' := [wMe o (An 0) (Ak 0) (At 0) (Ad 0) kk tp rw rc sh sf de, wCt G An la ns sd to he sw nh ki te mi ar z, wDe de bo 0 pz dk nu dt, wI G bo 30 dbo, wQ G sf 4 4 sff, wSf Fa 1 (nI j) fso fsz]) (rest := []) (st' := [.int 1]) 9 (c_X5_isPlace_t l G s (by first | omega | assumption)) [] rfl rfl [] rfl rfl rfl rfl rfl rfl (Nat.le_of_ble_eq_true rfl) rfl dX5_act_9 ?_
  refine J_if_eq (tgt := 37) 12 dX5_act_12 (by decide) (fun c_1_ => absurd c_1_ (by decide)) (fun _ => ?_)
  refine J_iload_n 15 2 dX5_act_15 rfl rfl ?_
  refine J_iconst (v := 0) 16 dX5_act_16 rfl ?_
  refine J_iconst (v := 3) 17 dX5_act_17 rfl ?_
  refine kb_RX5_65 (bs' := [wMe o (An 0) (Ak 0) (At 0) (Ad 0) kk tp rw rc sh sf de, wCt G An la ns sd to he sw nh ki te mi ar z, wDe de bo 0 pz dk nu dt, wI G bo 30 dbo, wQ G sf 4 4 sff, wSf Fa 1 (nI j) fso fsz]) (rest := []) (st' := [.int 1]) 18 (c_X5_within_t l G 3 0 3 (by decide)) [] rfl rfl [] rfl rfl rfl rfl rfl rfl (Nat.le_of_ble_eq_true rfl) rfl dX5_act_18 ?_
  refine J_if_eq (tgt := 37) 21 dX5_act_21 (by decide) (fun c_2_ => absurd c_2_ (by decide)) (fun _ => ?_)
  refine J_aload_n 24 0 dX5_act_24 rfl rfl ?_
  refine J_aload_n 25 0 dX5_act_25 rfl rfl ?_
  refine g_205 (v := .ref sf) 26 0 rfl rfl dX5_act_26 ?_
  refine J_iload_n 29 1 dX5_act_29 rfl rfl ?_
  refine J_aldq (b := Fa) 30 12 4 s rfl rfl rfl (by omega) (by decide) hy dX5_act_30 ?_
  refine kb_RX5_292 (bs' := [wMe o (An 0) (Ak 0) (At 0) (Ad 0) kk tp rw rc sh sf de, wCt G An la ns sd to he sw nh ki te mi ar z, wDe de bo 0 pz dk nu dt, wI G bo 30 dbo, wQ G sf 4 4 sff, wSf Fa 1 (nI j) fso fsz]) (rest := []) (st' := [.int 1]) 31 (c_X5_holdsHearer_t l G j o An Ak At Ad kk tp rw rc sh sf de la ns sd to he sw nh ki te mi ar z Fa fso fsz (by first | omega | assumption) (by first | omega | assumption)) [0, 1, 5] 0 rfl rfl rfl [[o], [An 0, An 1, An 2, An 3, An 4, An 5, An 6, An 7, An 8], [Fa]] rfl rfl rfl rfl rfl rfl (Nat.le_of_ble_eq_true rfl) rfl dX5_act_31 ?_
  refine J_if_ne (tgt := 39) 34 dX5_act_34 (by decide) (fun _ => ?_) (fun c_3_ => absurd c_3_ (by decide))
  refine J_aload_n 39 0 dX5_act_39 rfl rfl ?_
  refine g_205 (v := .ref sf) 40 0 rfl rfl dX5_act_40 ?_
  refine J_iload_n 43 1 dX5_act_43 rfl rfl ?_
  refine J_aldq (b := Fa) 44 12 4 s rfl rfl rfl (by omega) (by decide) hy dX5_act_44 ?_
  refine g_154 (v := .int (nI j)) 45 13 rfl rfl dX5_act_45 ?_
  refine J_istore (lv' := [some (.ref o), some (.int (nI s)), some (.int 3), some (.int x), some (.int (nI j)), none]) 48 dX5_act_48 (by decide) rfl ?_
  refine J_aload_n 50 0 dX5_act_50 rfl rfl ?_
  refine g_206 (v := .ref de) 51 0 rfl rfl dX5_act_51 ?_
  refine J_aload_n 54 0 dX5_act_54 rfl rfl ?_
  refine g_196 (v := .ref (An 0)) 55 0 rfl rfl dX5_act_55 ?_
  refine g_56 (v := .ref (An 5)) 58 1 rfl rfl dX5_act_58 ?_
  refine J_iload 61 dX5_act_61 rfl ?_
  refine J_iald 63 6 j rfl rfl (by omega) (by decide) dX5_act_63 ?_
  refine J_topi (y := 4) 64 hk ?_
  refine J_iload 64 dX5_act_64 rfl ?_
  refine J_aload_n 66 0 dX5_act_66 rfl rfl ?_
  refine g_196 (v := .ref (An 0)) 67 0 rfl rfl dX5_act_67 ?_
  refine g_58 (v := .ref (An 6)) 70 1 rfl rfl dX5_act_70 ?_
  refine J_iload 73 dX5_act_73 rfl ?_
  refine J_iald 75 7 j rfl rfl (by omega) (by decide) dX5_act_75 ?_
  refine kb_RX5_305 (bs' := [wMe o (An 0) (Ak 0) (At 0) (Ad 0) kk tp rw rc sh sf de, wCt G An la ns sd to he sw nh ki te mi ar z, wDe de bo 0 0 4 (nI j) (te j), wI G bo 30 dbo, wQ G sf 4 4 sff, wSf Fa 1 (nI j) fso fsz]) (rest := []) (st' := []) 76 (c_X1_begin l G 4 (nI j) (te j) de bo 0 pz dk nu dt ) [2] 10 rfl rfl rfl [[de]] rfl rfl rfl rfl rfl rfl (Nat.le_of_ble_eq_true rfl) rfl dX5_act_76 ?_
  refine J_aload_n 79 0 dX5_act_79 rfl rfl ?_
  refine g_206 (v := .ref de) 80 0 rfl rfl dX5_act_80 ?_
  refine J_aload_n 83 0 dX5_act_83 rfl rfl ?_
  refine g_196 (v := .ref (An 0)) 84 0 rfl rfl dX5_act_84 ?_
  refine g_56 (v := .ref (An 5)) 87 1 rfl rfl dX5_act_87 ?_
  refine J_iload 90 dX5_act_90 rfl ?_
  refine J_iald 92 6 j rfl rfl (by omega) (by decide) dX5_act_92 ?_
  refine J_topi (y := 4) 93 hk ?_
  refine J_iload_n 93 2 dX5_act_93 rfl rfl ?_
  refine kb_RX5_308 (bs' := [wMe o (An 0) (Ak 0) (At 0) (Ad 0) kk tp rw rc sh sf de, wCt G An la ns sd to he sw nh ki te mi ar z, wDe de bo 0 0 4 (nI j) (te j), wI G bo 30 dbo, wQ G sf 4 4 sff, wSf Fa 1 (nI j) fso fsz]) (rest := [.ref de]) (st' := [.int 31, .ref de]) 94 (c_X1_bodyOf_4_3 l G  ) [] rfl rfl [] rfl rfl rfl rfl rfl rfl (Nat.le_of_ble_eq_true rfl) rfl dX5_act_94 ?_
  refine J_iload_n 97 3 dX5_act_97 rfl rfl ?_
  refine J_iconst (v := 0) 98 dX5_act_98 rfl ?_
  refine kb_RX5_311 (bs' := [wMe o (An 0) (Ak 0) (At 0) (Ad 0) kk tp rw rc sh sf de, wCt G An la ns sd to he sw nh ki te mi ar z, wDe de bo (0 + 11) 1 4 (nI j) (te j), wI G bo 30 (pF [31, 13, 41, 11, 40, 30, 10, 40, 30, 10, 12] dbo 0), wQ G sf 4 4 sff, wSf Fa 1 (nI j) fso fsz]) (rest := []) (st' := [.int (((((0 - ((x * 5 + (nI j)) - 4)) - (te j)) ^^^ (0 - (((te j) * 5 + (nI j)) - 4))) ^^^ 150) + 0)]) 99 (c_runs_4_31z l G x 0 de bo 0 (nI j) (te j) dbo (by decide) (by decide) hz) [2, 3] rfl rfl [[de], [bo]] rfl rfl rfl rfl rfl rfl (Nat.le_of_ble_eq_true rfl) rfl dX5_act_99 ?_
  refine J_istore (lv' := [some (.ref o), some (.int (nI s)), some (.int 3), some (.int x), some (.int (nI j)), some (.int (((((0 - ((x * 5 + (nI j)) - 4)) - (te j)) ^^^ (0 - (((te j) * 5 + (nI j)) - 4))) ^^^ 150) + 0))]) 102 dX5_act_102 (by decide) rfl ?_
  refine J_aload_n 104 0 dX5_act_104 rfl rfl ?_
  refine g_206 (v := .ref de) 105 0 rfl rfl dX5_act_105 ?_
  refine g_179 (v := .int 1) 108 10 rfl rfl dX5_act_108 ?_
  refine J_if_eq (tgt := 119) 111 dX5_act_111 (by decide) (fun c_4_ => absurd c_4_ (by decide)) (fun _ => ?_)
  refine J_bipush (v := (-15)) 114 dX5_act_114 rfl ?_
  refine J_goto (tgt := 121) 116 dX5_act_116 (by decide) ?_
  exact J_iret 121 dX5_act_121 rfl (cg1 (fun (x0_ : Nat) => (wF [wMe o (An 0) (Ak 0) (At 0) (Ad 0) kk tp rw rc sh sf de, wCt G An la ns sd to he sw nh ki te mi ar z, wDe de bo x0_ 1 4 (nI j) (te j), wI G bo 30 (pF [31, 13, 41, 11, 40, 30, 10, 40, 30, 10, 12] dbo 0), wQ G sf 4 4 sff, wSf Fa 1 (nI j) fso fsz])) (0 + 11) 11 rfl)
set_option maxRecDepth 100000 in
set_option maxHeartbeats 4000000 in
theorem c_X5_act_5_0 (l : Launch) (G : Gd) (s : Nat) (x : Int32) (Fa : Nat) (j : Nat) (o : Nat) (An : Nat → Nat) (Ak : Nat → Nat) (At : Nat → Nat) (Ad : Nat → Nat) (kk : Int32) (tp : Nat) (rw : Nat) (rc : Nat) (sh : Nat) (sf : Nat) (de : Nat) (la : Nat → Int32) (ns : Nat) (sd : Nat) (to : Nat → Int32) (he : Nat → Int32) (sw : Nat → Int32) (nh : Nat) (ki : Nat → Int32) (te : Nat → Int32) (mi : Nat → Int32) (ar : Nat → Int32) (z : Int32) (bo : Nat) (ct : Nat) (pz : Int32) (dk : Int32) (nu : Int32) (dt : Int32) (dbo : Nat → Int32) (sff : Nat → Option Nat) (fso : Int32) (fsz : Int32) (hs : s ≤ 3) (hy : sff s = some Fa) (hj : j < nh) (hnh : nh ≤ 8) (hk : ki j = 5) : Ct l G yX5_act cX5_act 6 (some (FieldType.int)) 8 [.ref o, .int (nI s), .int 0, .int x] (wF [wMe o (An 0) (Ak 0) (At 0) (Ad 0) kk tp rw rc sh sf de, wCt G An la ns sd to he sw nh ki te mi ar z, wDe de bo ct pz dk nu dt, wI G bo 30 dbo, wQ G sf 4 4 sff, wSf Fa 1 (nI j) fso fsz]) (some (.int (x * 5 + (nI j)))) (wF [wMe o (An 0) (Ak 0) (At 0) (Ad 0) kk tp rw rc sh sf de, wCt G An la ns sd to he sw nh ki te mi ar z, wDe de bo 1 0 5 (nI j) (te j), wI G bo 30 (pF [10] dbo 0), wQ G sf 4 4 sff, wSf Fa 1 (nI j) fso fsz]) := by
  refine Ct.of "GooseArms" [some (.ref o), some (.int (nI s)), some (.int 0), some (.int x), none, none] (by decide +kernel) rfl (Nat.le_of_ble_eq_true rfl) rfl ?_
  refine J_aload_n 0 0 dX5_act_0 rfl rfl ?_
  refine g_206 (v := .ref de) 1 0 rfl rfl dX5_act_1 ?_
  refine J_iconst (v := 0) 4 dX5_act_4 rfl ?_
  refine p_177 (ws' := (wF [wMe o (An 0) (Ak 0) (At 0) (Ad 0) kk tp rw rc sh sf de, wCt G An la ns sd to he sw nh ki te mi ar z, wDe de bo 0 pz dk nu dt, wI G bo 30 dbo, wQ G sf 4 4 sff, wSf Fa 1 (nI j) fso fsz])) 5 10 rfl rfl rfl (Nat.le_of_ble_eq_true rfl) rfl dX5_act_5 ?_
  refine J_iload_n 8 1 dX5_act_8 rfl rfl ?_
  refine kb_RX5_219 (bs' := [wMe o (An 0) (Ak 0) (At 0) (Ad 0) kk tp rw rc sh sf de, wCt G An la ns sd to he sw nh ki te mi ar z, wDe de bo 0 pz dk nu dt, wI G bo 30 dbo, wQ G sf 4 4 sff, wSf Fa 1 (nI j) fso fsz]) (rest := []) (st' := [.int 1]) 9 (c_X5_isPlace_t l G s (by first | omega | assumption)) [] rfl rfl [] rfl rfl rfl rfl rfl rfl (Nat.le_of_ble_eq_true rfl) rfl dX5_act_9 ?_
  refine J_if_eq (tgt := 37) 12 dX5_act_12 (by decide) (fun c_1_ => absurd c_1_ (by decide)) (fun _ => ?_)
  refine J_iload_n 15 2 dX5_act_15 rfl rfl ?_
  refine J_iconst (v := 0) 16 dX5_act_16 rfl ?_
  refine J_iconst (v := 3) 17 dX5_act_17 rfl ?_
  refine kb_RX5_65 (bs' := [wMe o (An 0) (Ak 0) (At 0) (Ad 0) kk tp rw rc sh sf de, wCt G An la ns sd to he sw nh ki te mi ar z, wDe de bo 0 pz dk nu dt, wI G bo 30 dbo, wQ G sf 4 4 sff, wSf Fa 1 (nI j) fso fsz]) (rest := []) (st' := [.int 1]) 18 (c_X5_within_t l G 0 0 3 (by decide)) [] rfl rfl [] rfl rfl rfl rfl rfl rfl (Nat.le_of_ble_eq_true rfl) rfl dX5_act_18 ?_
  refine J_if_eq (tgt := 37) 21 dX5_act_21 (by decide) (fun c_2_ => absurd c_2_ (by decide)) (fun _ => ?_)
  refine J_aload_n 24 0 dX5_act_24 rfl rfl ?_
  refine J_aload_n 25 0 dX5_act_25 rfl rfl ?_
  refine g_205 (v := .ref sf) 26 0 rfl rfl dX5_act_26 ?_
  refine J_iload_n 29 1 dX5_act_29 rfl rfl ?_
  refine J_aldq (b := Fa) 30 12 4 s rfl rfl rfl (by omega) (by decide) hy dX5_act_30 ?_
  refine kb_RX5_292 (bs' := [wMe o (An 0) (Ak 0) (At 0) (Ad 0) kk tp rw rc sh sf de, wCt G An la ns sd to he sw nh ki te mi ar z, wDe de bo 0 pz dk nu dt, wI G bo 30 dbo, wQ G sf 4 4 sff, wSf Fa 1 (nI j) fso fsz]) (rest := []) (st' := [.int 1]) 31 (c_X5_holdsHearer_t l G j o An Ak At Ad kk tp rw rc sh sf de la ns sd to he sw nh ki te mi ar z Fa fso fsz (by first | omega | assumption) (by first | omega | assumption)) [0, 1, 5] 0 rfl rfl rfl [[o], [An 0, An 1, An 2, An 3, An 4, An 5, An 6, An 7, An 8], [Fa]] rfl rfl rfl rfl rfl rfl (Nat.le_of_ble_eq_true rfl) rfl dX5_act_31 ?_
  refine J_if_ne (tgt := 39) 34 dX5_act_34 (by decide) (fun _ => ?_) (fun c_3_ => absurd c_3_ (by decide))
  refine J_aload_n 39 0 dX5_act_39 rfl rfl ?_
  refine g_205 (v := .ref sf) 40 0 rfl rfl dX5_act_40 ?_
  refine J_iload_n 43 1 dX5_act_43 rfl rfl ?_
  refine J_aldq (b := Fa) 44 12 4 s rfl rfl rfl (by omega) (by decide) hy dX5_act_44 ?_
  refine g_154 (v := .int (nI j)) 45 13 rfl rfl dX5_act_45 ?_
  refine J_istore (lv' := [some (.ref o), some (.int (nI s)), some (.int 0), some (.int x), some (.int (nI j)), none]) 48 dX5_act_48 (by decide) rfl ?_
  refine J_aload_n 50 0 dX5_act_50 rfl rfl ?_
  refine g_206 (v := .ref de) 51 0 rfl rfl dX5_act_51 ?_
  refine J_aload_n 54 0 dX5_act_54 rfl rfl ?_
  refine g_196 (v := .ref (An 0)) 55 0 rfl rfl dX5_act_55 ?_
  refine g_56 (v := .ref (An 5)) 58 1 rfl rfl dX5_act_58 ?_
  refine J_iload 61 dX5_act_61 rfl ?_
  refine J_iald 63 6 j rfl rfl (by omega) (by decide) dX5_act_63 ?_
  refine J_topi (y := 5) 64 hk ?_
  refine J_iload 64 dX5_act_64 rfl ?_
  refine J_aload_n 66 0 dX5_act_66 rfl rfl ?_
  refine g_196 (v := .ref (An 0)) 67 0 rfl rfl dX5_act_67 ?_
  refine g_58 (v := .ref (An 6)) 70 1 rfl rfl dX5_act_70 ?_
  refine J_iload 73 dX5_act_73 rfl ?_
  refine J_iald 75 7 j rfl rfl (by omega) (by decide) dX5_act_75 ?_
  refine kb_RX5_305 (bs' := [wMe o (An 0) (Ak 0) (At 0) (Ad 0) kk tp rw rc sh sf de, wCt G An la ns sd to he sw nh ki te mi ar z, wDe de bo 0 0 5 (nI j) (te j), wI G bo 30 dbo, wQ G sf 4 4 sff, wSf Fa 1 (nI j) fso fsz]) (rest := []) (st' := []) 76 (c_X1_begin l G 5 (nI j) (te j) de bo 0 pz dk nu dt ) [2] 10 rfl rfl rfl [[de]] rfl rfl rfl rfl rfl rfl (Nat.le_of_ble_eq_true rfl) rfl dX5_act_76 ?_
  refine J_aload_n 79 0 dX5_act_79 rfl rfl ?_
  refine g_206 (v := .ref de) 80 0 rfl rfl dX5_act_80 ?_
  refine J_aload_n 83 0 dX5_act_83 rfl rfl ?_
  refine g_196 (v := .ref (An 0)) 84 0 rfl rfl dX5_act_84 ?_
  refine g_56 (v := .ref (An 5)) 87 1 rfl rfl dX5_act_87 ?_
  refine J_iload 90 dX5_act_90 rfl ?_
  refine J_iald 92 6 j rfl rfl (by omega) (by decide) dX5_act_92 ?_
  refine J_topi (y := 5) 93 hk ?_
  refine J_iload_n 93 2 dX5_act_93 rfl rfl ?_
  refine kb_RX5_308 (bs' := [wMe o (An 0) (Ak 0) (At 0) (Ad 0) kk tp rw rc sh sf de, wCt G An la ns sd to he sw nh ki te mi ar z, wDe de bo 0 0 5 (nI j) (te j), wI G bo 30 dbo, wQ G sf 4 4 sff, wSf Fa 1 (nI j) fso fsz]) (rest := [.ref de]) (st' := [.int 10, .ref de]) 94 (c_X1_bodyOf_5_0 l G  ) [] rfl rfl [] rfl rfl rfl rfl rfl rfl (Nat.le_of_ble_eq_true rfl) rfl dX5_act_94 ?_
  refine J_iload_n 97 3 dX5_act_97 rfl rfl ?_
  refine J_iconst (v := 0) 98 dX5_act_98 rfl ?_
  refine kb_RX5_311 (bs' := [wMe o (An 0) (Ak 0) (At 0) (Ad 0) kk tp rw rc sh sf de, wCt G An la ns sd to he sw nh ki te mi ar z, wDe de bo (0 + 1) 0 5 (nI j) (te j), wI G bo 30 (pF [10] dbo 0), wQ G sf 4 4 sff, wSf Fa 1 (nI j) fso fsz]) (rest := []) (st' := [.int (x * 5 + (nI j))]) 99 (c_runs_5_10 l G x 0 de bo 0 (nI j) (te j) dbo (by decide) (by decide)) [2, 3] rfl rfl [[de], [bo]] rfl rfl rfl rfl rfl rfl (Nat.le_of_ble_eq_true rfl) rfl dX5_act_99 ?_
  refine J_istore (lv' := [some (.ref o), some (.int (nI s)), some (.int 0), some (.int x), some (.int (nI j)), some (.int (x * 5 + (nI j)))]) 102 dX5_act_102 (by decide) rfl ?_
  refine J_aload_n 104 0 dX5_act_104 rfl rfl ?_
  refine g_206 (v := .ref de) 105 0 rfl rfl dX5_act_105 ?_
  refine g_179 (v := .int 0) 108 10 rfl rfl dX5_act_108 ?_
  refine J_if_eq (tgt := 119) 111 dX5_act_111 (by decide) (fun _ => ?_) (fun c_4_ => absurd c_4_ (by decide))
  refine J_iload 119 dX5_act_119 rfl ?_
  exact J_iret 121 dX5_act_121 rfl (cg1 (fun (x0_ : Nat) => (wF [wMe o (An 0) (Ak 0) (At 0) (Ad 0) kk tp rw rc sh sf de, wCt G An la ns sd to he sw nh ki te mi ar z, wDe de bo x0_ 0 5 (nI j) (te j), wI G bo 30 (pF [10] dbo 0), wQ G sf 4 4 sff, wSf Fa 1 (nI j) fso fsz])) (0 + 1) 1 rfl)
set_option maxRecDepth 100000 in
set_option maxHeartbeats 4000000 in
theorem c_X5_act_5_1 (l : Launch) (G : Gd) (s : Nat) (x : Int32) (Fa : Nat) (j : Nat) (o : Nat) (An : Nat → Nat) (Ak : Nat → Nat) (At : Nat → Nat) (Ad : Nat → Nat) (kk : Int32) (tp : Nat) (rw : Nat) (rc : Nat) (sh : Nat) (sf : Nat) (de : Nat) (la : Nat → Int32) (ns : Nat) (sd : Nat) (to : Nat → Int32) (he : Nat → Int32) (sw : Nat → Int32) (nh : Nat) (ki : Nat → Int32) (te : Nat → Int32) (mi : Nat → Int32) (ar : Nat → Int32) (z : Int32) (bo : Nat) (ct : Nat) (pz : Int32) (dk : Int32) (nu : Int32) (dt : Int32) (dbo : Nat → Int32) (sff : Nat → Option Nat) (fso : Int32) (fsz : Int32) (hs : s ≤ 3) (hy : sff s = some Fa) (hj : j < nh) (hnh : nh ≤ 8) (hk : ki j = 5) : Ct l G yX5_act cX5_act 6 (some (FieldType.int)) 8 [.ref o, .int (nI s), .int 1, .int x] (wF [wMe o (An 0) (Ak 0) (At 0) (Ad 0) kk tp rw rc sh sf de, wCt G An la ns sd to he sw nh ki te mi ar z, wDe de bo ct pz dk nu dt, wI G bo 30 dbo, wQ G sf 4 4 sff, wSf Fa 1 (nI j) fso fsz]) (some (.int ((x * 5 + (nI j)) - (te j)))) (wF [wMe o (An 0) (Ak 0) (At 0) (Ad 0) kk tp rw rc sh sf de, wCt G An la ns sd to he sw nh ki te mi ar z, wDe de bo 2 0 5 (nI j) (te j), wI G bo 30 (pF [11, 10] dbo 0), wQ G sf 4 4 sff, wSf Fa 1 (nI j) fso fsz]) := by
  refine Ct.of "GooseArms" [some (.ref o), some (.int (nI s)), some (.int 1), some (.int x), none, none] (by decide +kernel) rfl (Nat.le_of_ble_eq_true rfl) rfl ?_
  refine J_aload_n 0 0 dX5_act_0 rfl rfl ?_
  refine g_206 (v := .ref de) 1 0 rfl rfl dX5_act_1 ?_
  refine J_iconst (v := 0) 4 dX5_act_4 rfl ?_
  refine p_177 (ws' := (wF [wMe o (An 0) (Ak 0) (At 0) (Ad 0) kk tp rw rc sh sf de, wCt G An la ns sd to he sw nh ki te mi ar z, wDe de bo 0 pz dk nu dt, wI G bo 30 dbo, wQ G sf 4 4 sff, wSf Fa 1 (nI j) fso fsz])) 5 10 rfl rfl rfl (Nat.le_of_ble_eq_true rfl) rfl dX5_act_5 ?_
  refine J_iload_n 8 1 dX5_act_8 rfl rfl ?_
  refine kb_RX5_219 (bs' := [wMe o (An 0) (Ak 0) (At 0) (Ad 0) kk tp rw rc sh sf de, wCt G An la ns sd to he sw nh ki te mi ar z, wDe de bo 0 pz dk nu dt, wI G bo 30 dbo, wQ G sf 4 4 sff, wSf Fa 1 (nI j) fso fsz]) (rest := []) (st' := [.int 1]) 9 (c_X5_isPlace_t l G s (by first | omega | assumption)) [] rfl rfl [] rfl rfl rfl rfl rfl rfl (Nat.le_of_ble_eq_true rfl) rfl dX5_act_9 ?_
  refine J_if_eq (tgt := 37) 12 dX5_act_12 (by decide) (fun c_1_ => absurd c_1_ (by decide)) (fun _ => ?_)
  refine J_iload_n 15 2 dX5_act_15 rfl rfl ?_
  refine J_iconst (v := 0) 16 dX5_act_16 rfl ?_
  refine J_iconst (v := 3) 17 dX5_act_17 rfl ?_
  refine kb_RX5_65 (bs' := [wMe o (An 0) (Ak 0) (At 0) (Ad 0) kk tp rw rc sh sf de, wCt G An la ns sd to he sw nh ki te mi ar z, wDe de bo 0 pz dk nu dt, wI G bo 30 dbo, wQ G sf 4 4 sff, wSf Fa 1 (nI j) fso fsz]) (rest := []) (st' := [.int 1]) 18 (c_X5_within_t l G 1 0 3 (by decide)) [] rfl rfl [] rfl rfl rfl rfl rfl rfl (Nat.le_of_ble_eq_true rfl) rfl dX5_act_18 ?_
  refine J_if_eq (tgt := 37) 21 dX5_act_21 (by decide) (fun c_2_ => absurd c_2_ (by decide)) (fun _ => ?_)
  refine J_aload_n 24 0 dX5_act_24 rfl rfl ?_
  refine J_aload_n 25 0 dX5_act_25 rfl rfl ?_
  refine g_205 (v := .ref sf) 26 0 rfl rfl dX5_act_26 ?_
  refine J_iload_n 29 1 dX5_act_29 rfl rfl ?_
  refine J_aldq (b := Fa) 30 12 4 s rfl rfl rfl (by omega) (by decide) hy dX5_act_30 ?_
  refine kb_RX5_292 (bs' := [wMe o (An 0) (Ak 0) (At 0) (Ad 0) kk tp rw rc sh sf de, wCt G An la ns sd to he sw nh ki te mi ar z, wDe de bo 0 pz dk nu dt, wI G bo 30 dbo, wQ G sf 4 4 sff, wSf Fa 1 (nI j) fso fsz]) (rest := []) (st' := [.int 1]) 31 (c_X5_holdsHearer_t l G j o An Ak At Ad kk tp rw rc sh sf de la ns sd to he sw nh ki te mi ar z Fa fso fsz (by first | omega | assumption) (by first | omega | assumption)) [0, 1, 5] 0 rfl rfl rfl [[o], [An 0, An 1, An 2, An 3, An 4, An 5, An 6, An 7, An 8], [Fa]] rfl rfl rfl rfl rfl rfl (Nat.le_of_ble_eq_true rfl) rfl dX5_act_31 ?_
  refine J_if_ne (tgt := 39) 34 dX5_act_34 (by decide) (fun _ => ?_) (fun c_3_ => absurd c_3_ (by decide))
  refine J_aload_n 39 0 dX5_act_39 rfl rfl ?_
  refine g_205 (v := .ref sf) 40 0 rfl rfl dX5_act_40 ?_
  refine J_iload_n 43 1 dX5_act_43 rfl rfl ?_
  refine J_aldq (b := Fa) 44 12 4 s rfl rfl rfl (by omega) (by decide) hy dX5_act_44 ?_
  refine g_154 (v := .int (nI j)) 45 13 rfl rfl dX5_act_45 ?_
  refine J_istore (lv' := [some (.ref o), some (.int (nI s)), some (.int 1), some (.int x), some (.int (nI j)), none]) 48 dX5_act_48 (by decide) rfl ?_
  refine J_aload_n 50 0 dX5_act_50 rfl rfl ?_
  refine g_206 (v := .ref de) 51 0 rfl rfl dX5_act_51 ?_
  refine J_aload_n 54 0 dX5_act_54 rfl rfl ?_
  refine g_196 (v := .ref (An 0)) 55 0 rfl rfl dX5_act_55 ?_
  refine g_56 (v := .ref (An 5)) 58 1 rfl rfl dX5_act_58 ?_
  refine J_iload 61 dX5_act_61 rfl ?_
  refine J_iald 63 6 j rfl rfl (by omega) (by decide) dX5_act_63 ?_
  refine J_topi (y := 5) 64 hk ?_
  refine J_iload 64 dX5_act_64 rfl ?_
  refine J_aload_n 66 0 dX5_act_66 rfl rfl ?_
  refine g_196 (v := .ref (An 0)) 67 0 rfl rfl dX5_act_67 ?_
  refine g_58 (v := .ref (An 6)) 70 1 rfl rfl dX5_act_70 ?_
  refine J_iload 73 dX5_act_73 rfl ?_
  refine J_iald 75 7 j rfl rfl (by omega) (by decide) dX5_act_75 ?_
  refine kb_RX5_305 (bs' := [wMe o (An 0) (Ak 0) (At 0) (Ad 0) kk tp rw rc sh sf de, wCt G An la ns sd to he sw nh ki te mi ar z, wDe de bo 0 0 5 (nI j) (te j), wI G bo 30 dbo, wQ G sf 4 4 sff, wSf Fa 1 (nI j) fso fsz]) (rest := []) (st' := []) 76 (c_X1_begin l G 5 (nI j) (te j) de bo 0 pz dk nu dt ) [2] 10 rfl rfl rfl [[de]] rfl rfl rfl rfl rfl rfl (Nat.le_of_ble_eq_true rfl) rfl dX5_act_76 ?_
  refine J_aload_n 79 0 dX5_act_79 rfl rfl ?_
  refine g_206 (v := .ref de) 80 0 rfl rfl dX5_act_80 ?_
  refine J_aload_n 83 0 dX5_act_83 rfl rfl ?_
  refine g_196 (v := .ref (An 0)) 84 0 rfl rfl dX5_act_84 ?_
  refine g_56 (v := .ref (An 5)) 87 1 rfl rfl dX5_act_87 ?_
  refine J_iload 90 dX5_act_90 rfl ?_
  refine J_iald 92 6 j rfl rfl (by omega) (by decide) dX5_act_92 ?_
  refine J_topi (y := 5) 93 hk ?_
  refine J_iload_n 93 2 dX5_act_93 rfl rfl ?_
  refine kb_RX5_308 (bs' := [wMe o (An 0) (Ak 0) (At 0) (Ad 0) kk tp rw rc sh sf de, wCt G An la ns sd to he sw nh ki te mi ar z, wDe de bo 0 0 5 (nI j) (te j), wI G bo 30 dbo, wQ G sf 4 4 sff, wSf Fa 1 (nI j) fso fsz]) (rest := [.ref de]) (st' := [.int 11, .ref de]) 94 (c_X1_bodyOf_5_1 l G  ) [] rfl rfl [] rfl rfl rfl rfl rfl rfl (Nat.le_of_ble_eq_true rfl) rfl dX5_act_94 ?_
  refine J_iload_n 97 3 dX5_act_97 rfl rfl ?_
  refine J_iconst (v := 0) 98 dX5_act_98 rfl ?_
  refine kb_RX5_311 (bs' := [wMe o (An 0) (Ak 0) (At 0) (Ad 0) kk tp rw rc sh sf de, wCt G An la ns sd to he sw nh ki te mi ar z, wDe de bo (0 + 2) 0 5 (nI j) (te j), wI G bo 30 (pF [11, 10] dbo 0), wQ G sf 4 4 sff, wSf Fa 1 (nI j) fso fsz]) (rest := []) (st' := [.int ((x * 5 + (nI j)) - (te j))]) 99 (c_runs_5_11 l G x 0 de bo 0 (nI j) (te j) dbo (by decide) (by decide)) [2, 3] rfl rfl [[de], [bo]] rfl rfl rfl rfl rfl rfl (Nat.le_of_ble_eq_true rfl) rfl dX5_act_99 ?_
  refine J_istore (lv' := [some (.ref o), some (.int (nI s)), some (.int 1), some (.int x), some (.int (nI j)), some (.int ((x * 5 + (nI j)) - (te j)))]) 102 dX5_act_102 (by decide) rfl ?_
  refine J_aload_n 104 0 dX5_act_104 rfl rfl ?_
  refine g_206 (v := .ref de) 105 0 rfl rfl dX5_act_105 ?_
  refine g_179 (v := .int 0) 108 10 rfl rfl dX5_act_108 ?_
  refine J_if_eq (tgt := 119) 111 dX5_act_111 (by decide) (fun _ => ?_) (fun c_4_ => absurd c_4_ (by decide))
  refine J_iload 119 dX5_act_119 rfl ?_
  exact J_iret 121 dX5_act_121 rfl (cg1 (fun (x0_ : Nat) => (wF [wMe o (An 0) (Ak 0) (At 0) (Ad 0) kk tp rw rc sh sf de, wCt G An la ns sd to he sw nh ki te mi ar z, wDe de bo x0_ 0 5 (nI j) (te j), wI G bo 30 (pF [11, 10] dbo 0), wQ G sf 4 4 sff, wSf Fa 1 (nI j) fso fsz])) (0 + 2) 2 rfl)
set_option maxRecDepth 100000 in
set_option maxHeartbeats 4000000 in
theorem c_X5_act_5_2 (l : Launch) (G : Gd) (s : Nat) (x : Int32) (Fa : Nat) (j : Nat) (o : Nat) (An : Nat → Nat) (Ak : Nat → Nat) (At : Nat → Nat) (Ad : Nat → Nat) (kk : Int32) (tp : Nat) (rw : Nat) (rc : Nat) (sh : Nat) (sf : Nat) (de : Nat) (la : Nat → Int32) (ns : Nat) (sd : Nat) (to : Nat → Int32) (he : Nat → Int32) (sw : Nat → Int32) (nh : Nat) (ki : Nat → Int32) (te : Nat → Int32) (mi : Nat → Int32) (ar : Nat → Int32) (z : Int32) (bo : Nat) (ct : Nat) (pz : Int32) (dk : Int32) (nu : Int32) (dt : Int32) (dbo : Nat → Int32) (sff : Nat → Option Nat) (fso : Int32) (fsz : Int32) (hs : s ≤ 3) (hy : sff s = some Fa) (hj : j < nh) (hnh : nh ≤ 8) (hk : ki j = 5) (hz : ¬ (te j) - (nI j) = 0) : Ct l G yX5_act cX5_act 6 (some (FieldType.int)) 8 [.ref o, .int (nI s), .int 2, .int x] (wF [wMe o (An 0) (Ak 0) (At 0) (Ad 0) kk tp rw rc sh sf de, wCt G An la ns sd to he sw nh ki te mi ar z, wDe de bo ct pz dk nu dt, wI G bo 30 dbo, wQ G sf 4 4 sff, wSf Fa 1 (nI j) fso fsz]) (some (.int ((x / ((te j) - (nI j))) - ((nI j) * 5 + (nI j))))) (wF [wMe o (An 0) (Ak 0) (At 0) (Ad 0) kk tp rw rc sh sf de, wCt G An la ns sd to he sw nh ki te mi ar z, wDe de bo 3 0 5 (nI j) (te j), wI G bo 30 (pF [61, 12, 10] dbo 0), wQ G sf 4 4 sff, wSf Fa 1 (nI j) fso fsz]) := by
  refine Ct.of "GooseArms" [some (.ref o), some (.int (nI s)), some (.int 2), some (.int x), none, none] (by decide +kernel) rfl (Nat.le_of_ble_eq_true rfl) rfl ?_
  refine J_aload_n 0 0 dX5_act_0 rfl rfl ?_
  refine g_206 (v := .ref de) 1 0 rfl rfl dX5_act_1 ?_
  refine J_iconst (v := 0) 4 dX5_act_4 rfl ?_
  refine p_177 (ws' := (wF [wMe o (An 0) (Ak 0) (At 0) (Ad 0) kk tp rw rc sh sf de, wCt G An la ns sd to he sw nh ki te mi ar z, wDe de bo 0 pz dk nu dt, wI G bo 30 dbo, wQ G sf 4 4 sff, wSf Fa 1 (nI j) fso fsz])) 5 10 rfl rfl rfl (Nat.le_of_ble_eq_true rfl) rfl dX5_act_5 ?_
  refine J_iload_n 8 1 dX5_act_8 rfl rfl ?_
  refine kb_RX5_219 (bs' := [wMe o (An 0) (Ak 0) (At 0) (Ad 0) kk tp rw rc sh sf de, wCt G An la ns sd to he sw nh ki te mi ar z, wDe de bo 0 pz dk nu dt, wI G bo 30 dbo, wQ G sf 4 4 sff, wSf Fa 1 (nI j) fso fsz]) (rest := []) (st' := [.int 1]) 9 (c_X5_isPlace_t l G s (by first | omega | assumption)) [] rfl rfl [] rfl rfl rfl rfl rfl rfl (Nat.le_of_ble_eq_true rfl) rfl dX5_act_9 ?_
  refine J_if_eq (tgt := 37) 12 dX5_act_12 (by decide) (fun c_1_ => absurd c_1_ (by decide)) (fun _ => ?_)
  refine J_iload_n 15 2 dX5_act_15 rfl rfl ?_
  refine J_iconst (v := 0) 16 dX5_act_16 rfl ?_
  refine J_iconst (v := 3) 17 dX5_act_17 rfl ?_
  refine kb_RX5_65 (bs' := [wMe o (An 0) (Ak 0) (At 0) (Ad 0) kk tp rw rc sh sf de, wCt G An la ns sd to he sw nh ki te mi ar z, wDe de bo 0 pz dk nu dt, wI G bo 30 dbo, wQ G sf 4 4 sff, wSf Fa 1 (nI j) fso fsz]) (rest := []) (st' := [.int 1]) 18 (c_X5_within_t l G 2 0 3 (by decide)) [] rfl rfl [] rfl rfl rfl rfl rfl rfl (Nat.le_of_ble_eq_true rfl) rfl dX5_act_18 ?_
  refine J_if_eq (tgt := 37) 21 dX5_act_21 (by decide) (fun c_2_ => absurd c_2_ (by decide)) (fun _ => ?_)
  refine J_aload_n 24 0 dX5_act_24 rfl rfl ?_
  refine J_aload_n 25 0 dX5_act_25 rfl rfl ?_
  refine g_205 (v := .ref sf) 26 0 rfl rfl dX5_act_26 ?_
  refine J_iload_n 29 1 dX5_act_29 rfl rfl ?_
  refine J_aldq (b := Fa) 30 12 4 s rfl rfl rfl (by omega) (by decide) hy dX5_act_30 ?_
  refine kb_RX5_292 (bs' := [wMe o (An 0) (Ak 0) (At 0) (Ad 0) kk tp rw rc sh sf de, wCt G An la ns sd to he sw nh ki te mi ar z, wDe de bo 0 pz dk nu dt, wI G bo 30 dbo, wQ G sf 4 4 sff, wSf Fa 1 (nI j) fso fsz]) (rest := []) (st' := [.int 1]) 31 (c_X5_holdsHearer_t l G j o An Ak At Ad kk tp rw rc sh sf de la ns sd to he sw nh ki te mi ar z Fa fso fsz (by first | omega | assumption) (by first | omega | assumption)) [0, 1, 5] 0 rfl rfl rfl [[o], [An 0, An 1, An 2, An 3, An 4, An 5, An 6, An 7, An 8], [Fa]] rfl rfl rfl rfl rfl rfl (Nat.le_of_ble_eq_true rfl) rfl dX5_act_31 ?_
  refine J_if_ne (tgt := 39) 34 dX5_act_34 (by decide) (fun _ => ?_) (fun c_3_ => absurd c_3_ (by decide))
  refine J_aload_n 39 0 dX5_act_39 rfl rfl ?_
  refine g_205 (v := .ref sf) 40 0 rfl rfl dX5_act_40 ?_
  refine J_iload_n 43 1 dX5_act_43 rfl rfl ?_
  refine J_aldq (b := Fa) 44 12 4 s rfl rfl rfl (by omega) (by decide) hy dX5_act_44 ?_
  refine g_154 (v := .int (nI j)) 45 13 rfl rfl dX5_act_45 ?_
  refine J_istore (lv' := [some (.ref o), some (.int (nI s)), some (.int 2), some (.int x), some (.int (nI j)), none]) 48 dX5_act_48 (by decide) rfl ?_
  refine J_aload_n 50 0 dX5_act_50 rfl rfl ?_
  refine g_206 (v := .ref de) 51 0 rfl rfl dX5_act_51 ?_
  refine J_aload_n 54 0 dX5_act_54 rfl rfl ?_
  refine g_196 (v := .ref (An 0)) 55 0 rfl rfl dX5_act_55 ?_
  refine g_56 (v := .ref (An 5)) 58 1 rfl rfl dX5_act_58 ?_
  refine J_iload 61 dX5_act_61 rfl ?_
  refine J_iald 63 6 j rfl rfl (by omega) (by decide) dX5_act_63 ?_
  refine J_topi (y := 5) 64 hk ?_
  refine J_iload 64 dX5_act_64 rfl ?_
  refine J_aload_n 66 0 dX5_act_66 rfl rfl ?_
  refine g_196 (v := .ref (An 0)) 67 0 rfl rfl dX5_act_67 ?_
  refine g_58 (v := .ref (An 6)) 70 1 rfl rfl dX5_act_70 ?_
  refine J_iload 73 dX5_act_73 rfl ?_
  refine J_iald 75 7 j rfl rfl (by omega) (by decide) dX5_act_75 ?_
  refine kb_RX5_305 (bs' := [wMe o (An 0) (Ak 0) (At 0) (Ad 0) kk tp rw rc sh sf de, wCt G An la ns sd to he sw nh ki te mi ar z, wDe de bo 0 0 5 (nI j) (te j), wI G bo 30 dbo, wQ G sf 4 4 sff, wSf Fa 1 (nI j) fso fsz]) (rest := []) (st' := []) 76 (c_X1_begin l G 5 (nI j) (te j) de bo 0 pz dk nu dt ) [2] 10 rfl rfl rfl [[de]] rfl rfl rfl rfl rfl rfl (Nat.le_of_ble_eq_true rfl) rfl dX5_act_76 ?_
  refine J_aload_n 79 0 dX5_act_79 rfl rfl ?_
  refine g_206 (v := .ref de) 80 0 rfl rfl dX5_act_80 ?_
  refine J_aload_n 83 0 dX5_act_83 rfl rfl ?_
  refine g_196 (v := .ref (An 0)) 84 0 rfl rfl dX5_act_84 ?_
  refine g_56 (v := .ref (An 5)) 87 1 rfl rfl dX5_act_87 ?_
  refine J_iload 90 dX5_act_90 rfl ?_
  refine J_iald 92 6 j rfl rfl (by omega) (by decide) dX5_act_92 ?_
  refine J_topi (y := 5) 93 hk ?_
  refine J_iload_n 93 2 dX5_act_93 rfl rfl ?_
  refine kb_RX5_308 (bs' := [wMe o (An 0) (Ak 0) (At 0) (Ad 0) kk tp rw rc sh sf de, wCt G An la ns sd to he sw nh ki te mi ar z, wDe de bo 0 0 5 (nI j) (te j), wI G bo 30 dbo, wQ G sf 4 4 sff, wSf Fa 1 (nI j) fso fsz]) (rest := [.ref de]) (st' := [.int 61, .ref de]) 94 (c_X1_bodyOf_5_2 l G  ) [] rfl rfl [] rfl rfl rfl rfl rfl rfl (Nat.le_of_ble_eq_true rfl) rfl dX5_act_94 ?_
  refine J_iload_n 97 3 dX5_act_97 rfl rfl ?_
  refine J_iconst (v := 0) 98 dX5_act_98 rfl ?_
  refine kb_RX5_311 (bs' := [wMe o (An 0) (Ak 0) (At 0) (Ad 0) kk tp rw rc sh sf de, wCt G An la ns sd to he sw nh ki te mi ar z, wDe de bo (0 + 3) 0 5 (nI j) (te j), wI G bo 30 (pF [61, 12, 10] dbo 0), wQ G sf 4 4 sff, wSf Fa 1 (nI j) fso fsz]) (rest := []) (st' := [.int ((x / ((te j) - (nI j))) - ((nI j) * 5 + (nI j)))]) 99 (c_runs_5_61 l G x 0 de bo 0 (nI j) (te j) dbo (by decide) (by decide) hz) [2, 3] rfl rfl [[de], [bo]] rfl rfl rfl rfl rfl rfl (Nat.le_of_ble_eq_true rfl) rfl dX5_act_99 ?_
  refine J_istore (lv' := [some (.ref o), some (.int (nI s)), some (.int 2), some (.int x), some (.int (nI j)), some (.int ((x / ((te j) - (nI j))) - ((nI j) * 5 + (nI j))))]) 102 dX5_act_102 (by decide) rfl ?_
  refine J_aload_n 104 0 dX5_act_104 rfl rfl ?_
  refine g_206 (v := .ref de) 105 0 rfl rfl dX5_act_105 ?_
  refine g_179 (v := .int 0) 108 10 rfl rfl dX5_act_108 ?_
  refine J_if_eq (tgt := 119) 111 dX5_act_111 (by decide) (fun _ => ?_) (fun c_4_ => absurd c_4_ (by decide))
  refine J_iload 119 dX5_act_119 rfl ?_
  exact J_iret 121 dX5_act_121 rfl (cg1 (fun (x0_ : Nat) => (wF [wMe o (An 0) (Ak 0) (At 0) (Ad 0) kk tp rw rc sh sf de, wCt G An la ns sd to he sw nh ki te mi ar z, wDe de bo x0_ 0 5 (nI j) (te j), wI G bo 30 (pF [61, 12, 10] dbo 0), wQ G sf 4 4 sff, wSf Fa 1 (nI j) fso fsz])) (0 + 3) 3 rfl)
set_option maxRecDepth 100000 in
set_option maxHeartbeats 4000000 in
theorem c_X5_act_5_2z (l : Launch) (G : Gd) (s : Nat) (x : Int32) (Fa : Nat) (j : Nat) (o : Nat) (An : Nat → Nat) (Ak : Nat → Nat) (At : Nat → Nat) (Ad : Nat → Nat) (kk : Int32) (tp : Nat) (rw : Nat) (rc : Nat) (sh : Nat) (sf : Nat) (de : Nat) (la : Nat → Int32) (ns : Nat) (sd : Nat) (to : Nat → Int32) (he : Nat → Int32) (sw : Nat → Int32) (nh : Nat) (ki : Nat → Int32) (te : Nat → Int32) (mi : Nat → Int32) (ar : Nat → Int32) (z : Int32) (bo : Nat) (ct : Nat) (pz : Int32) (dk : Int32) (nu : Int32) (dt : Int32) (dbo : Nat → Int32) (sff : Nat → Option Nat) (fso : Int32) (fsz : Int32) (hs : s ≤ 3) (hy : sff s = some Fa) (hj : j < nh) (hnh : nh ≤ 8) (hk : ki j = 5) (hz : (te j) - (nI j) = 0) : Ct l G yX5_act cX5_act 6 (some (FieldType.int)) 8 [.ref o, .int (nI s), .int 2, .int x] (wF [wMe o (An 0) (Ak 0) (At 0) (Ad 0) kk tp rw rc sh sf de, wCt G An la ns sd to he sw nh ki te mi ar z, wDe de bo ct pz dk nu dt, wI G bo 30 dbo, wQ G sf 4 4 sff, wSf Fa 1 (nI j) fso fsz]) (some (.int (-15))) (wF [wMe o (An 0) (Ak 0) (At 0) (Ad 0) kk tp rw rc sh sf de, wCt G An la ns sd to he sw nh ki te mi ar z, wDe de bo 2 1 5 (nI j) (te j), wI G bo 30 (pF [61, 12] dbo 0), wQ G sf 4 4 sff, wSf Fa 1 (nI j) fso fsz]) := by
  refine Ct.of "GooseArms" [some (.ref o), some (.int (nI s)), some (.int 2), some (.int x), none, none] (by decide +kernel) rfl (Nat.le_of_ble_eq_true rfl) rfl ?_
  refine J_aload_n 0 0 dX5_act_0 rfl rfl ?_
  refine g_206 (v := .ref de) 1 0 rfl rfl dX5_act_1 ?_
  refine J_iconst (v := 0) 4 dX5_act_4 rfl ?_
  refine p_177 (ws' := (wF [wMe o (An 0) (Ak 0) (At 0) (Ad 0) kk tp rw rc sh sf de, wCt G An la ns sd to he sw nh ki te mi ar z, wDe de bo 0 pz dk nu dt, wI G bo 30 dbo, wQ G sf 4 4 sff, wSf Fa 1 (nI j) fso fsz])) 5 10 rfl rfl rfl (Nat.le_of_ble_eq_true rfl) rfl dX5_act_5 ?_
  refine J_iload_n 8 1 dX5_act_8 rfl rfl ?_
  refine kb_RX5_219 (bs' := [wMe o (An 0) (Ak 0) (At 0) (Ad 0) kk tp rw rc sh sf de, wCt G An la ns sd to he sw nh ki te mi ar z, wDe de bo 0 pz dk nu dt, wI G bo 30 dbo, wQ G sf 4 4 sff, wSf Fa 1 (nI j) fso fsz]) (rest := []) (st' := [.int 1]) 9 (c_X5_isPlace_t l G s (by first | omega | assumption)) [] rfl rfl [] rfl rfl rfl rfl rfl rfl (Nat.le_of_ble_eq_true rfl) rfl dX5_act_9 ?_
  refine J_if_eq (tgt := 37) 12 dX5_act_12 (by decide) (fun c_1_ => absurd c_1_ (by decide)) (fun _ => ?_)
  refine J_iload_n 15 2 dX5_act_15 rfl rfl ?_
  refine J_iconst (v := 0) 16 dX5_act_16 rfl ?_
  refine J_iconst (v := 3) 17 dX5_act_17 rfl ?_
  refine kb_RX5_65 (bs' := [wMe o (An 0) (Ak 0) (At 0) (Ad 0) kk tp rw rc sh sf de, wCt G An la ns sd to he sw nh ki te mi ar z, wDe de bo 0 pz dk nu dt, wI G bo 30 dbo, wQ G sf 4 4 sff, wSf Fa 1 (nI j) fso fsz]) (rest := []) (st' := [.int 1]) 18 (c_X5_within_t l G 2 0 3 (by decide)) [] rfl rfl [] rfl rfl rfl rfl rfl rfl (Nat.le_of_ble_eq_true rfl) rfl dX5_act_18 ?_
  refine J_if_eq (tgt := 37) 21 dX5_act_21 (by decide) (fun c_2_ => absurd c_2_ (by decide)) (fun _ => ?_)
  refine J_aload_n 24 0 dX5_act_24 rfl rfl ?_
  refine J_aload_n 25 0 dX5_act_25 rfl rfl ?_
  refine g_205 (v := .ref sf) 26 0 rfl rfl dX5_act_26 ?_
  refine J_iload_n 29 1 dX5_act_29 rfl rfl ?_
  refine J_aldq (b := Fa) 30 12 4 s rfl rfl rfl (by omega) (by decide) hy dX5_act_30 ?_
  refine kb_RX5_292 (bs' := [wMe o (An 0) (Ak 0) (At 0) (Ad 0) kk tp rw rc sh sf de, wCt G An la ns sd to he sw nh ki te mi ar z, wDe de bo 0 pz dk nu dt, wI G bo 30 dbo, wQ G sf 4 4 sff, wSf Fa 1 (nI j) fso fsz]) (rest := []) (st' := [.int 1]) 31 (c_X5_holdsHearer_t l G j o An Ak At Ad kk tp rw rc sh sf de la ns sd to he sw nh ki te mi ar z Fa fso fsz (by first | omega | assumption) (by first | omega | assumption)) [0, 1, 5] 0 rfl rfl rfl [[o], [An 0, An 1, An 2, An 3, An 4, An 5, An 6, An 7, An 8], [Fa]] rfl rfl rfl rfl rfl rfl (Nat.le_of_ble_eq_true rfl) rfl dX5_act_31 ?_
  refine J_if_ne (tgt := 39) 34 dX5_act_34 (by decide) (fun _ => ?_) (fun c_3_ => absurd c_3_ (by decide))
  refine J_aload_n 39 0 dX5_act_39 rfl rfl ?_
  refine g_205 (v := .ref sf) 40 0 rfl rfl dX5_act_40 ?_
  refine J_iload_n 43 1 dX5_act_43 rfl rfl ?_
  refine J_aldq (b := Fa) 44 12 4 s rfl rfl rfl (by omega) (by decide) hy dX5_act_44 ?_
  refine g_154 (v := .int (nI j)) 45 13 rfl rfl dX5_act_45 ?_
  refine J_istore (lv' := [some (.ref o), some (.int (nI s)), some (.int 2), some (.int x), some (.int (nI j)), none]) 48 dX5_act_48 (by decide) rfl ?_
  refine J_aload_n 50 0 dX5_act_50 rfl rfl ?_
  refine g_206 (v := .ref de) 51 0 rfl rfl dX5_act_51 ?_
  refine J_aload_n 54 0 dX5_act_54 rfl rfl ?_
  refine g_196 (v := .ref (An 0)) 55 0 rfl rfl dX5_act_55 ?_
  refine g_56 (v := .ref (An 5)) 58 1 rfl rfl dX5_act_58 ?_
  refine J_iload 61 dX5_act_61 rfl ?_
  refine J_iald 63 6 j rfl rfl (by omega) (by decide) dX5_act_63 ?_
  refine J_topi (y := 5) 64 hk ?_
  refine J_iload 64 dX5_act_64 rfl ?_
  refine J_aload_n 66 0 dX5_act_66 rfl rfl ?_
  refine g_196 (v := .ref (An 0)) 67 0 rfl rfl dX5_act_67 ?_
  refine g_58 (v := .ref (An 6)) 70 1 rfl rfl dX5_act_70 ?_
  refine J_iload 73 dX5_act_73 rfl ?_
  refine J_iald 75 7 j rfl rfl (by omega) (by decide) dX5_act_75 ?_
  refine kb_RX5_305 (bs' := [wMe o (An 0) (Ak 0) (At 0) (Ad 0) kk tp rw rc sh sf de, wCt G An la ns sd to he sw nh ki te mi ar z, wDe de bo 0 0 5 (nI j) (te j), wI G bo 30 dbo, wQ G sf 4 4 sff, wSf Fa 1 (nI j) fso fsz]) (rest := []) (st' := []) 76 (c_X1_begin l G 5 (nI j) (te j) de bo 0 pz dk nu dt ) [2] 10 rfl rfl rfl [[de]] rfl rfl rfl rfl rfl rfl (Nat.le_of_ble_eq_true rfl) rfl dX5_act_76 ?_
  refine J_aload_n 79 0 dX5_act_79 rfl rfl ?_
  refine g_206 (v := .ref de) 80 0 rfl rfl dX5_act_80 ?_
  refine J_aload_n 83 0 dX5_act_83 rfl rfl ?_
  refine g_196 (v := .ref (An 0)) 84 0 rfl rfl dX5_act_84 ?_
  refine g_56 (v := .ref (An 5)) 87 1 rfl rfl dX5_act_87 ?_
  refine J_iload 90 dX5_act_90 rfl ?_
  refine J_iald 92 6 j rfl rfl (by omega) (by decide) dX5_act_92 ?_
  refine J_topi (y := 5) 93 hk ?_
  refine J_iload_n 93 2 dX5_act_93 rfl rfl ?_
  refine kb_RX5_308 (bs' := [wMe o (An 0) (Ak 0) (At 0) (Ad 0) kk tp rw rc sh sf de, wCt G An la ns sd to he sw nh ki te mi ar z, wDe de bo 0 0 5 (nI j) (te j), wI G bo 30 dbo, wQ G sf 4 4 sff, wSf Fa 1 (nI j) fso fsz]) (rest := [.ref de]) (st' := [.int 61, .ref de]) 94 (c_X1_bodyOf_5_2 l G  ) [] rfl rfl [] rfl rfl rfl rfl rfl rfl (Nat.le_of_ble_eq_true rfl) rfl dX5_act_94 ?_
  refine J_iload_n 97 3 dX5_act_97 rfl rfl ?_
  refine J_iconst (v := 0) 98 dX5_act_98 rfl ?_
  refine kb_RX5_311 (bs' := [wMe o (An 0) (Ak 0) (At 0) (Ad 0) kk tp rw rc sh sf de, wCt G An la ns sd to he sw nh ki te mi ar z, wDe de bo (0 + 2) 1 5 (nI j) (te j), wI G bo 30 (pF [61, 12] dbo 0), wQ G sf 4 4 sff, wSf Fa 1 (nI j) fso fsz]) (rest := []) (st' := [.int (0 - 0)]) 99 (c_runs_5_61z l G x 0 de bo 0 (nI j) (te j) dbo (by decide) (by decide) hz) [2, 3] rfl rfl [[de], [bo]] rfl rfl rfl rfl rfl rfl (Nat.le_of_ble_eq_true rfl) rfl dX5_act_99 ?_
  refine J_istore (lv' := [some (.ref o), some (.int (nI s)), some (.int 2), some (.int x), some (.int (nI j)), some (.int (0 - 0))]) 102 dX5_act_102 (by decide) rfl ?_
  refine J_aload_n 104 0 dX5_act_104 rfl rfl ?_
  refine g_206 (v := .ref de) 105 0 rfl rfl dX5_act_105 ?_
  refine g_179 (v := .int 1) 108 10 rfl rfl dX5_act_108 ?_
  refine J_if_eq (tgt := 119) 111 dX5_act_111 (by decide) (fun c_4_ => absurd c_4_ (by decide)) (fun _ => ?_)
  refine J_bipush (v := (-15)) 114 dX5_act_114 rfl ?_
  refine J_goto (tgt := 121) 116 dX5_act_116 (by decide) ?_
  exact J_iret 121 dX5_act_121 rfl (cg1 (fun (x0_ : Nat) => (wF [wMe o (An 0) (Ak 0) (At 0) (Ad 0) kk tp rw rc sh sf de, wCt G An la ns sd to he sw nh ki te mi ar z, wDe de bo x0_ 1 5 (nI j) (te j), wI G bo 30 (pF [61, 12] dbo 0), wQ G sf 4 4 sff, wSf Fa 1 (nI j) fso fsz])) (0 + 2) 2 rfl)
set_option maxRecDepth 100000 in
set_option maxHeartbeats 4000000 in
theorem c_X5_act_5_3 (l : Launch) (G : Gd) (s : Nat) (x : Int32) (Fa : Nat) (j : Nat) (o : Nat) (An : Nat → Nat) (Ak : Nat → Nat) (At : Nat → Nat) (Ad : Nat → Nat) (kk : Int32) (tp : Nat) (rw : Nat) (rc : Nat) (sh : Nat) (sf : Nat) (de : Nat) (la : Nat → Int32) (ns : Nat) (sd : Nat) (to : Nat → Int32) (he : Nat → Int32) (sw : Nat → Int32) (nh : Nat) (ki : Nat → Int32) (te : Nat → Int32) (mi : Nat → Int32) (ar : Nat → Int32) (z : Int32) (bo : Nat) (ct : Nat) (pz : Int32) (dk : Int32) (nu : Int32) (dt : Int32) (dbo : Nat → Int32) (sff : Nat → Option Nat) (fso : Int32) (fsz : Int32) (hs : s ≤ 3) (hy : sff s = some Fa) (hj : j < nh) (hnh : nh ≤ 8) (hk : ki j = 5) : Ct l G yX5_act cX5_act 6 (some (FieldType.int)) 8 [.ref o, .int (nI s), .int 3, .int x] (wF [wMe o (An 0) (Ak 0) (At 0) (Ad 0) kk tp rw rc sh sf de, wCt G An la ns sd to he sw nh ki te mi ar z, wDe de bo ct pz dk nu dt, wI G bo 30 dbo, wQ G sf 4 4 sff, wSf Fa 1 (nI j) fso fsz]) (some (.int ((((x * 5 + (nI j)) - (te j)) ^^^ 150) * 2))) (wF [wMe o (An 0) (Ak 0) (At 0) (Ad 0) kk tp rw rc sh sf de, wCt G An la ns sd to he sw nh ki te mi ar z, wDe de bo 4 0 5 (nI j) (te j), wI G bo 30 (pF [60, 13, 11, 10] dbo 0), wQ G sf 4 4 sff, wSf Fa 1 (nI j) fso fsz]) := by
  refine Ct.of "GooseArms" [some (.ref o), some (.int (nI s)), some (.int 3), some (.int x), none, none] (by decide +kernel) rfl (Nat.le_of_ble_eq_true rfl) rfl ?_
  refine J_aload_n 0 0 dX5_act_0 rfl rfl ?_
  refine g_206 (v := .ref de) 1 0 rfl rfl dX5_act_1 ?_
  refine J_iconst (v := 0) 4 dX5_act_4 rfl ?_
  refine p_177 (ws' := (wF [wMe o (An 0) (Ak 0) (At 0) (Ad 0) kk tp rw rc sh sf de, wCt G An la ns sd to he sw nh ki te mi ar z, wDe de bo 0 pz dk nu dt, wI G bo 30 dbo, wQ G sf 4 4 sff, wSf Fa 1 (nI j) fso fsz])) 5 10 rfl rfl rfl (Nat.le_of_ble_eq_true rfl) rfl dX5_act_5 ?_
  refine J_iload_n 8 1 dX5_act_8 rfl rfl ?_
  refine kb_RX5_219 (bs' := [wMe o (An 0) (Ak 0) (At 0) (Ad 0) kk tp rw rc sh sf de, wCt G An la ns sd to he sw nh ki te mi ar z, wDe de bo 0 pz dk nu dt, wI G bo 30 dbo, wQ G sf 4 4 sff, wSf Fa 1 (nI j) fso fsz]) (rest := []) (st' := [.int 1]) 9 (c_X5_isPlace_t l G s (by first | omega | assumption)) [] rfl rfl [] rfl rfl rfl rfl rfl rfl (Nat.le_of_ble_eq_true rfl) rfl dX5_act_9 ?_
  refine J_if_eq (tgt := 37) 12 dX5_act_12 (by decide) (fun c_1_ => absurd c_1_ (by decide)) (fun _ => ?_)
  refine J_iload_n 15 2 dX5_act_15 rfl rfl ?_
  refine J_iconst (v := 0) 16 dX5_act_16 rfl ?_
  refine J_iconst (v := 3) 17 dX5_act_17 rfl ?_
  refine kb_RX5_65 (bs' := [wMe o (An 0) (Ak 0) (At 0) (Ad 0) kk tp rw rc sh sf de, wCt G An la ns sd to he sw nh ki te mi ar z, wDe de bo 0 pz dk nu dt, wI G bo 30 dbo, wQ G sf 4 4 sff, wSf Fa 1 (nI j) fso fsz]) (rest := []) (st' := [.int 1]) 18 (c_X5_within_t l G 3 0 3 (by decide)) [] rfl rfl [] rfl rfl rfl rfl rfl rfl (Nat.le_of_ble_eq_true rfl) rfl dX5_act_18 ?_
  refine J_if_eq (tgt := 37) 21 dX5_act_21 (by decide) (fun c_2_ => absurd c_2_ (by decide)) (fun _ => ?_)
  refine J_aload_n 24 0 dX5_act_24 rfl rfl ?_
  refine J_aload_n 25 0 dX5_act_25 rfl rfl ?_
  refine g_205 (v := .ref sf) 26 0 rfl rfl dX5_act_26 ?_
  refine J_iload_n 29 1 dX5_act_29 rfl rfl ?_
  refine J_aldq (b := Fa) 30 12 4 s rfl rfl rfl (by omega) (by decide) hy dX5_act_30 ?_
  refine kb_RX5_292 (bs' := [wMe o (An 0) (Ak 0) (At 0) (Ad 0) kk tp rw rc sh sf de, wCt G An la ns sd to he sw nh ki te mi ar z, wDe de bo 0 pz dk nu dt, wI G bo 30 dbo, wQ G sf 4 4 sff, wSf Fa 1 (nI j) fso fsz]) (rest := []) (st' := [.int 1]) 31 (c_X5_holdsHearer_t l G j o An Ak At Ad kk tp rw rc sh sf de la ns sd to he sw nh ki te mi ar z Fa fso fsz (by first | omega | assumption) (by first | omega | assumption)) [0, 1, 5] 0 rfl rfl rfl [[o], [An 0, An 1, An 2, An 3, An 4, An 5, An 6, An 7, An 8], [Fa]] rfl rfl rfl rfl rfl rfl (Nat.le_of_ble_eq_true rfl) rfl dX5_act_31 ?_
  refine J_if_ne (tgt := 39) 34 dX5_act_34 (by decide) (fun _ => ?_) (fun c_3_ => absurd c_3_ (by decide))
  refine J_aload_n 39 0 dX5_act_39 rfl rfl ?_
  refine g_205 (v := .ref sf) 40 0 rfl rfl dX5_act_40 ?_
  refine J_iload_n 43 1 dX5_act_43 rfl rfl ?_
  refine J_aldq (b := Fa) 44 12 4 s rfl rfl rfl (by omega) (by decide) hy dX5_act_44 ?_
  refine g_154 (v := .int (nI j)) 45 13 rfl rfl dX5_act_45 ?_
  refine J_istore (lv' := [some (.ref o), some (.int (nI s)), some (.int 3), some (.int x), some (.int (nI j)), none]) 48 dX5_act_48 (by decide) rfl ?_
  refine J_aload_n 50 0 dX5_act_50 rfl rfl ?_
  refine g_206 (v := .ref de) 51 0 rfl rfl dX5_act_51 ?_
  refine J_aload_n 54 0 dX5_act_54 rfl rfl ?_
  refine g_196 (v := .ref (An 0)) 55 0 rfl rfl dX5_act_55 ?_
  refine g_56 (v := .ref (An 5)) 58 1 rfl rfl dX5_act_58 ?_
  refine J_iload 61 dX5_act_61 rfl ?_
  refine J_iald 63 6 j rfl rfl (by omega) (by decide) dX5_act_63 ?_
  refine J_topi (y := 5) 64 hk ?_
  refine J_iload 64 dX5_act_64 rfl ?_
  refine J_aload_n 66 0 dX5_act_66 rfl rfl ?_
  refine g_196 (v := .ref (An 0)) 67 0 rfl rfl dX5_act_67 ?_
  refine g_58 (v := .ref (An 6)) 70 1 rfl rfl dX5_act_70 ?_
  refine J_iload 73 dX5_act_73 rfl ?_
  refine J_iald 75 7 j rfl rfl (by omega) (by decide) dX5_act_75 ?_
  refine kb_RX5_305 (bs' := [wMe o (An 0) (Ak 0) (At 0) (Ad 0) kk tp rw rc sh sf de, wCt G An la ns sd to he sw nh ki te mi ar z, wDe de bo 0 0 5 (nI j) (te j), wI G bo 30 dbo, wQ G sf 4 4 sff, wSf Fa 1 (nI j) fso fsz]) (rest := []) (st' := []) 76 (c_X1_begin l G 5 (nI j) (te j) de bo 0 pz dk nu dt ) [2] 10 rfl rfl rfl [[de]] rfl rfl rfl rfl rfl rfl (Nat.le_of_ble_eq_true rfl) rfl dX5_act_76 ?_
  refine J_aload_n 79 0 dX5_act_79 rfl rfl ?_
  refine g_206 (v := .ref de) 80 0 rfl rfl dX5_act_80 ?_
  refine J_aload_n 83 0 dX5_act_83 rfl rfl ?_
  refine g_196 (v := .ref (An 0)) 84 0 rfl rfl dX5_act_84 ?_
  refine g_56 (v := .ref (An 5)) 87 1 rfl rfl dX5_act_87 ?_
  refine J_iload 90 dX5_act_90 rfl ?_
  refine J_iald 92 6 j rfl rfl (by omega) (by decide) dX5_act_92 ?_
  refine J_topi (y := 5) 93 hk ?_
  refine J_iload_n 93 2 dX5_act_93 rfl rfl ?_
  refine kb_RX5_308 (bs' := [wMe o (An 0) (Ak 0) (At 0) (Ad 0) kk tp rw rc sh sf de, wCt G An la ns sd to he sw nh ki te mi ar z, wDe de bo 0 0 5 (nI j) (te j), wI G bo 30 dbo, wQ G sf 4 4 sff, wSf Fa 1 (nI j) fso fsz]) (rest := [.ref de]) (st' := [.int 60, .ref de]) 94 (c_X1_bodyOf_5_3 l G  ) [] rfl rfl [] rfl rfl rfl rfl rfl rfl (Nat.le_of_ble_eq_true rfl) rfl dX5_act_94 ?_
  refine J_iload_n 97 3 dX5_act_97 rfl rfl ?_
  refine J_iconst (v := 0) 98 dX5_act_98 rfl ?_
  refine kb_RX5_311 (bs' := [wMe o (An 0) (Ak 0) (At 0) (Ad 0) kk tp rw rc sh sf de, wCt G An la ns sd to he sw nh ki te mi ar z, wDe de bo (0 + 4) 0 5 (nI j) (te j), wI G bo 30 (pF [60, 13, 11, 10] dbo 0), wQ G sf 4 4 sff, wSf Fa 1 (nI j) fso fsz]) (rest := []) (st' := [.int ((((x * 5 + (nI j)) - (te j)) ^^^ 150) * 2)]) 99 (c_runs_5_60 l G x 0 de bo 0 (nI j) (te j) dbo (by decide) (by decide)) [2, 3] rfl rfl [[de], [bo]] rfl rfl rfl rfl rfl rfl (Nat.le_of_ble_eq_true rfl) rfl dX5_act_99 ?_
  refine J_istore (lv' := [some (.ref o), some (.int (nI s)), some (.int 3), some (.int x), some (.int (nI j)), some (.int ((((x * 5 + (nI j)) - (te j)) ^^^ 150) * 2))]) 102 dX5_act_102 (by decide) rfl ?_
  refine J_aload_n 104 0 dX5_act_104 rfl rfl ?_
  refine g_206 (v := .ref de) 105 0 rfl rfl dX5_act_105 ?_
  refine g_179 (v := .int 0) 108 10 rfl rfl dX5_act_108 ?_
  refine J_if_eq (tgt := 119) 111 dX5_act_111 (by decide) (fun _ => ?_) (fun c_4_ => absurd c_4_ (by decide))
  refine J_iload 119 dX5_act_119 rfl ?_
  exact J_iret 121 dX5_act_121 rfl (cg1 (fun (x0_ : Nat) => (wF [wMe o (An 0) (Ak 0) (At 0) (Ad 0) kk tp rw rc sh sf de, wCt G An la ns sd to he sw nh ki te mi ar z, wDe de bo x0_ 0 5 (nI j) (te j), wI G bo 30 (pF [60, 13, 11, 10] dbo 0), wQ G sf 4 4 sff, wSf Fa 1 (nI j) fso fsz])) (0 + 4) 4 rfl)
set_option maxRecDepth 100000 in
set_option maxHeartbeats 4000000 in
theorem c_X5_trace_ok (l : Launch) (G : Gd) (i : Nat) (o : Nat) (An : Nat → Nat) (Ak : Nat → Nat) (At : Nat → Nat) (Ad : Nat → Nat) (kk : Int32) (tp : Nat) (rw : Nat) (rc : Nat) (sh : Nat) (sf : Nat) (de : Nat) (bo : Nat) (ct : Nat) (pz : Int32) (dk : Int32) (nu : Int32) (dt : Int32) (dbo : Nat → Int32) (hi : i < ct) (hc : ct ≤ 30) : Ct l G yX5_trace cX5_trace 2 (some (FieldType.int)) 1 [.ref o, .int (nI i)] (wF [wMe o (An 0) (Ak 0) (At 0) (Ad 0) kk tp rw rc sh sf de, wDe de bo ct pz dk nu dt, wI G bo 30 dbo]) (some (.int (dbo i))) (wF [wMe o (An 0) (Ak 0) (At 0) (Ad 0) kk tp rw rc sh sf de, wDe de bo ct pz dk nu dt, wI G bo 30 dbo]) := by
  refine Ct.of "GooseArms" [some (.ref o), some (.int (nI i))] (by decide +kernel) rfl (Nat.le_of_ble_eq_true rfl) rfl ?_
  refine J_iload_n 0 1 dX5_trace_0 rfl rfl ?_
  refine J_iconst (v := 0) 1 dX5_trace_1 rfl ?_
  refine J_aload_n 2 0 dX5_trace_2 rfl rfl ?_
  refine g_206 (v := .ref de) 3 0 rfl rfl dX5_trace_3 ?_
  refine g_177 (v := .int (nI ct)) 6 1 rfl rfl dX5_trace_6 ?_
  refine J_iconst (v := 1) 9 dX5_trace_9 rfl ?_
  refine J_isub 10 dX5_trace_10 ?_
  refine kb_RX5_65 (bs' := [wMe o (An 0) (Ak 0) (At 0) (Ad 0) kk tp rw rc sh sf de, wDe de bo ct pz dk nu dt, wI G bo 30 dbo]) (rest := []) (st' := [.int 1]) 11 (c_X5_within_t l G (nI i) 0 ((nI ct) - 1) (inR_t hi (by omega))) [] rfl rfl [] rfl rfl rfl rfl rfl rfl (Nat.le_of_ble_eq_true rfl) rfl dX5_trace_11 ?_
  refine J_if_eq (tgt := 29) 14 dX5_trace_14 (by decide) (fun c_1_ => absurd c_1_ (by decide)) (fun _ => ?_)
  refine J_aload_n 17 0 dX5_trace_17 rfl rfl ?_
  refine g_206 (v := .ref de) 18 0 rfl rfl dX5_trace_18 ?_
  refine g_175 (v := .ref bo) 21 1 rfl rfl dX5_trace_21 ?_
  refine J_iload_n 24 1 dX5_trace_24 rfl rfl ?_
  refine J_iald 25 2 i rfl rfl (by omega) (by decide) dX5_trace_25 ?_
  refine J_goto (tgt := 31) 26 dX5_trace_26 (by decide) ?_
  exact J_iret 31 dX5_trace_31 rfl rfl
set_option maxRecDepth 100000 in
set_option maxHeartbeats 4000000 in
theorem c_X5_trace_bad (l : Launch) (G : Gd) (i : Int32) (o : Nat) (An : Nat → Nat) (Ak : Nat → Nat) (At : Nat → Nat) (Ad : Nat → Nat) (kk : Int32) (tp : Nat) (rw : Nat) (rc : Nat) (sh : Nat) (sf : Nat) (de : Nat) (bo : Nat) (ct : Nat) (pz : Int32) (dk : Int32) (nu : Int32) (dt : Int32) (hw : ¬ (0 ≤ i ∧ i ≤ nI ct - 1)) : Ct l G yX5_trace cX5_trace 2 (some (FieldType.int)) 1 [.ref o, .int i] (wF [wMe o (An 0) (Ak 0) (At 0) (Ad 0) kk tp rw rc sh sf de, wDe de bo ct pz dk nu dt]) (some (.int (-3))) (wF [wMe o (An 0) (Ak 0) (At 0) (Ad 0) kk tp rw rc sh sf de, wDe de bo ct pz dk nu dt]) := by
  refine Ct.of "GooseArms" [some (.ref o), some (.int i)] (by decide +kernel) rfl (Nat.le_of_ble_eq_true rfl) rfl ?_
  refine J_iload_n 0 1 dX5_trace_0 rfl rfl ?_
  refine J_iconst (v := 0) 1 dX5_trace_1 rfl ?_
  refine J_aload_n 2 0 dX5_trace_2 rfl rfl ?_
  refine g_206 (v := .ref de) 3 0 rfl rfl dX5_trace_3 ?_
  refine g_177 (v := .int (nI ct)) 6 1 rfl rfl dX5_trace_6 ?_
  refine J_iconst (v := 1) 9 dX5_trace_9 rfl ?_
  refine J_isub 10 dX5_trace_10 ?_
  refine kb_RX5_65 (bs' := [wMe o (An 0) (Ak 0) (At 0) (Ad 0) kk tp rw rc sh sf de, wDe de bo ct pz dk nu dt]) (rest := []) (st' := [.int 0]) 11 (c_X5_within_f l G i 0 ((nI ct) - 1) hw) [] rfl rfl [] rfl rfl rfl rfl rfl rfl (Nat.le_of_ble_eq_true rfl) rfl dX5_trace_11 ?_
  refine J_if_eq (tgt := 29) 14 dX5_trace_14 (by decide) (fun _ => ?_) (fun c_1_ => absurd c_1_ (by decide))
  refine J_bipush (v := (-3)) 29 dX5_trace_29 rfl ?_
  exact J_iret 31 dX5_trace_31 rfl rfl
set_option maxRecDepth 100000 in
set_option maxHeartbeats 4000000 in
theorem c_X5_many_0 (l : Launch) (G : Gd) (o : Nat) (An : Nat → Nat) (Ak : Nat → Nat) (At : Nat → Nat) (Ad : Nat → Nat) (kk : Int32) (tp : Nat) (rw : Nat) (rc : Nat) (sh : Nat) (sf : Nat) (de : Nat) (la : Nat → Int32) (ns : Nat) (sd : Nat) (to : Nat → Int32) (he : Nat → Int32) (sw : Nat → Int32) (nh : Nat) (ki : Nat → Int32) (te : Nat → Int32) (mi : Nat → Int32) (ar : Nat → Int32) (z : Int32)  : Ct l G yX5_many cX5_many 2 (some (FieldType.int)) 2 [.ref o, .int 0] (wF [wMe o (An 0) (Ak 0) (At 0) (Ad 0) kk tp rw rc sh sf de, wCt G An la ns sd to he sw nh ki te mi ar z]) (some (.int (nI nh))) (wF [wMe o (An 0) (Ak 0) (At 0) (Ad 0) kk tp rw rc sh sf de, wCt G An la ns sd to he sw nh ki te mi ar z]) := by
  refine Ct.of "GooseArms" [some (.ref o), some (.int 0)] (by decide +kernel) rfl (Nat.le_of_ble_eq_true rfl) rfl ?_
  refine J_iload_n 0 1 dX5_many_0 rfl rfl ?_
  refine J_tableIn (tgt := 44) (off := 43) 1 0 dX5_many_1 rfl (by decide +kernel) (by decide) ?_
  refine J_aload_n 44 0 dX5_many_44 rfl rfl ?_
  refine g_196 (v := .ref (An 0)) 45 0 rfl rfl dX5_many_45 ?_
  refine g_53 (v := .int (nI nh)) 48 1 rfl rfl dX5_many_48 ?_
  exact J_iret 51 dX5_many_51 rfl rfl
set_option maxRecDepth 100000 in
set_option maxHeartbeats 4000000 in
theorem c_X5_many_1 (l : Launch) (G : Gd) (o : Nat) (An : Nat → Nat) (Ak : Nat → Nat) (At : Nat → Nat) (Ad : Nat → Nat) (kk : Int32) (tp : Nat) (rw : Nat) (rc : Nat) (sh : Nat) (sf : Nat) (de : Nat) (la : Nat → Int32) (ns : Nat) (sd : Nat) (to : Nat → Int32) (he : Nat → Int32) (sw : Nat → Int32) (nh : Nat) (ki : Nat → Int32) (te : Nat → Int32) (mi : Nat → Int32) (ar : Nat → Int32) (z : Int32) (hsd : sd ≤ ns) : Ct l G yX5_many cX5_many 2 (some (FieldType.int)) 2 [.ref o, .int 1] (wF [wMe o (An 0) (Ak 0) (At 0) (Ad 0) kk tp rw rc sh sf de, wCt G An la ns sd to he sw nh ki te mi ar z]) (some (.int (nI (ns - sd)))) (wF [wMe o (An 0) (Ak 0) (At 0) (Ad 0) kk tp rw rc sh sf de, wCt G An la ns sd to he sw nh ki te mi ar z]) := by
  refine Ct.of "GooseArms" [some (.ref o), some (.int 1)] (by decide +kernel) rfl (Nat.le_of_ble_eq_true rfl) rfl ?_
  refine J_iload_n 0 1 dX5_many_0 rfl rfl ?_
  refine J_tableIn (tgt := 52) (off := 51) 1 1 dX5_many_1 rfl (by decide +kernel) (by decide) ?_
  refine J_aload_n 52 0 dX5_many_52 rfl rfl ?_
  refine g_196 (v := .ref (An 0)) 53 0 rfl rfl dX5_many_53 ?_
  refine kb_RX5_150 (bs' := [wMe o (An 0) (Ak 0) (At 0) (Ad 0) kk tp rw rc sh sf de, wCt G An la ns sd to he sw nh ki te mi ar z]) (rest := []) (st' := [.int (nI (ns - sd))]) 56 (c_X0_left l G An la ns sd to he sw nh ki te mi ar z (by first | omega | assumption)) [1] 1 rfl rfl rfl [[An 0, An 1, An 2, An 3, An 4, An 5, An 6, An 7, An 8]] rfl rfl rfl rfl rfl rfl (Nat.le_of_ble_eq_true rfl) rfl dX5_many_56 ?_
  exact J_iret 59 dX5_many_59 rfl rfl
set_option maxRecDepth 100000 in
set_option maxHeartbeats 4000000 in
theorem c_X5_many_2 (l : Launch) (G : Gd) (o : Nat) (An : Nat → Nat) (Ak : Nat → Nat) (At : Nat → Nat) (Ad : Nat → Nat) (kk : Int32) (tp : Nat) (rw : Nat) (rc : Nat) (sh : Nat) (sf : Nat) (de : Nat) (la : Nat → Int32) (ns : Nat) (sd : Nat) (to : Nat → Int32) (he : Nat → Int32) (sw : Nat → Int32) (nh : Nat) (ki : Nat → Int32) (te : Nat → Int32) (mi : Nat → Int32) (ar : Nat → Int32) (z : Int32) (hns : ns ≤ 12) : Ct l G yX5_many cX5_many 2 (some (FieldType.int)) 2 [.ref o, .int 2] (wF [wMe o (An 0) (Ak 0) (At 0) (Ad 0) kk tp rw rc sh sf de, wCt G An la ns sd to he sw nh ki te mi ar z]) (some (.int (fBC (fMask (fun s_ => sw s_ = 1) ns)))) (wF [wMe o (An 0) (Ak 0) (At 0) (Ad 0) kk tp rw rc sh sf de, wCt G An la ns sd to he sw nh ki te mi ar z]) := by
  refine Ct.of "GooseArms" [some (.ref o), some (.int 2)] (by decide +kernel) rfl (Nat.le_of_ble_eq_true rfl) rfl ?_
  refine J_iload_n 0 1 dX5_many_0 rfl rfl ?_
  refine J_tableIn (tgt := 60) (off := 59) 1 2 dX5_many_1 rfl (by decide +kernel) (by decide) ?_
  refine J_aload_n 60 0 dX5_many_60 rfl rfl ?_
  refine g_196 (v := .ref (An 0)) 61 0 rfl rfl dX5_many_61 ?_
  refine kb_RX5_184 (bs' := [wMe o (An 0) (Ak 0) (At 0) (Ad 0) kk tp rw rc sh sf de, wCt G An la ns sd to he sw nh ki te mi ar z]) (rest := []) (st' := [.int (fMask (fun s_ => sw s_ = 1) ns)]) 64 (c_X0_swornSet l G An la ns sd to he sw nh ki te mi ar z (by first | omega | assumption)) [1] 1 rfl rfl rfl [[An 0, An 1, An 2, An 3, An 4, An 5, An 6, An 7, An 8]] rfl rfl rfl rfl rfl rfl (Nat.le_of_ble_eq_true rfl) rfl dX5_many_64 ?_
  refine kb_RX5_203 (bs' := [wMe o (An 0) (Ak 0) (At 0) (Ad 0) kk tp rw rc sh sf de, wCt G An la ns sd to he sw nh ki te mi ar z]) (rest := []) (st' := [.int (fBC (fMask (fun s_ => sw s_ = 1) ns))]) 67 (c_bitCount l G (fMask (fun s_ => sw s_ = 1) ns) ) [] rfl rfl [] rfl rfl rfl rfl rfl rfl (Nat.le_of_ble_eq_true rfl) rfl dX5_many_67 ?_
  exact J_iret 70 dX5_many_70 rfl rfl
set_option maxRecDepth 100000 in
set_option maxHeartbeats 4000000 in
theorem c_X5_many_3 (l : Launch) (G : Gd) (o : Nat) (An : Nat → Nat) (Ak : Nat → Nat) (At : Nat → Nat) (Ad : Nat → Nat) (kk : Int32) (tp : Nat) (rw : Nat) (rc : Nat) (sh : Nat) (sf : Nat) (de : Nat) (la : Nat → Int32) (ns : Nat) (sd : Nat) (to : Nat → Int32) (he : Nat → Int32) (sw : Nat → Int32) (nh : Nat) (ki : Nat → Int32) (te : Nat → Int32) (mi : Nat → Int32) (ar : Nat → Int32) (z : Int32) (hnh : nh ≤ 8) : Ct l G yX5_many cX5_many 2 (some (FieldType.int)) 2 [.ref o, .int 3] (wF [wMe o (An 0) (Ak 0) (At 0) (Ad 0) kk tp rw rc sh sf de, wCt G An la ns sd to he sw nh ki te mi ar z]) (some (.int (fBC (fMask (fun h_ => ¬ ar h_ = 0) nh)))) (wF [wMe o (An 0) (Ak 0) (At 0) (Ad 0) kk tp rw rc sh sf de, wCt G An la ns sd to he sw nh ki te mi ar z]) := by
  refine Ct.of "GooseArms" [some (.ref o), some (.int 3)] (by decide +kernel) rfl (Nat.le_of_ble_eq_true rfl) rfl ?_
  refine J_iload_n 0 1 dX5_many_0 rfl rfl ?_
  refine J_tableIn (tgt := 71) (off := 70) 1 3 dX5_many_1 rfl (by decide +kernel) (by decide) ?_
  refine J_aload_n 71 0 dX5_many_71 rfl rfl ?_
  refine g_196 (v := .ref (An 0)) 72 0 rfl rfl dX5_many_72 ?_
  refine kb_RX5_190 (bs' := [wMe o (An 0) (Ak 0) (At 0) (Ad 0) kk tp rw rc sh sf de, wCt G An la ns sd to he sw nh ki te mi ar z]) (rest := []) (st' := [.int (fMask (fun h_ => ¬ ar h_ = 0) nh)]) 75 (c_X0_marked l G An la ns sd to he sw nh ki te mi ar z (by first | omega | assumption)) [1] 1 rfl rfl rfl [[An 0, An 1, An 2, An 3, An 4, An 5, An 6, An 7, An 8]] rfl rfl rfl rfl rfl rfl (Nat.le_of_ble_eq_true rfl) rfl dX5_many_75 ?_
  refine kb_RX5_203 (bs' := [wMe o (An 0) (Ak 0) (At 0) (Ad 0) kk tp rw rc sh sf de, wCt G An la ns sd to he sw nh ki te mi ar z]) (rest := []) (st' := [.int (fBC (fMask (fun h_ => ¬ ar h_ = 0) nh))]) 78 (c_bitCount l G (fMask (fun h_ => ¬ ar h_ = 0) nh) ) [] rfl rfl [] rfl rfl rfl rfl rfl rfl (Nat.le_of_ble_eq_true rfl) rfl dX5_many_78 ?_
  exact J_iret 81 dX5_many_81 rfl rfl
set_option maxRecDepth 100000 in
set_option maxHeartbeats 4000000 in
theorem c_X5_many_4 (l : Launch) (G : Gd) (o : Nat) (An : Nat → Nat) (Ak : Nat → Nat) (At : Nat → Nat) (Ad : Nat → Nat) (kk : Int32) (tp : Nat) (rw : Nat) (rc : Nat) (sh : Nat) (sf : Nat) (de : Nat)  : Ct l G yX5_many cX5_many 2 (some (FieldType.int)) 2 [.ref o, .int 4] (wF [wMe o (An 0) (Ak 0) (At 0) (Ad 0) kk tp rw rc sh sf de]) (some (.int (nI rc))) (wF [wMe o (An 0) (Ak 0) (At 0) (Ad 0) kk tp rw rc sh sf de]) := by
  refine Ct.of "GooseArms" [some (.ref o), some (.int 4)] (by decide +kernel) rfl (Nat.le_of_ble_eq_true rfl) rfl ?_
  refine J_iload_n 0 1 dX5_many_0 rfl rfl ?_
  refine J_tableIn (tgt := 82) (off := 81) 1 4 dX5_many_1 rfl (by decide +kernel) (by decide) ?_
  refine J_aload_n 82 0 dX5_many_82 rfl rfl ?_
  refine g_203 (v := .int (nI rc)) 83 0 rfl rfl dX5_many_83 ?_
  exact J_iret 86 dX5_many_86 rfl rfl
set_option maxRecDepth 100000 in
set_option maxHeartbeats 4000000 in
theorem c_X5_many_5 (l : Launch) (G : Gd) (o : Nat) (An : Nat → Nat) (Ak : Nat → Nat) (At : Nat → Nat) (Ad : Nat → Nat) (kk : Int32) (tp : Nat) (rw : Nat) (rc : Nat) (sh : Nat) (sf : Nat) (de : Nat) (by_ : Nat) (ln : Nat) (st : Nat) (en : Nat) (so : Int32) (va : Int32) (fa : Int32)  : Ct l G yX5_many cX5_many 2 (some (FieldType.int)) 2 [.ref o, .int 5] (wF [wMe o (An 0) (Ak 0) (At 0) (Ad 0) kk tp rw rc sh sf de, wTp tp by_ ln st en so va fa]) (some (.int (nI ln))) (wF [wMe o (An 0) (Ak 0) (At 0) (Ad 0) kk tp rw rc sh sf de, wTp tp by_ ln st en so va fa]) := by
  refine Ct.of "GooseArms" [some (.ref o), some (.int 5)] (by decide +kernel) rfl (Nat.le_of_ble_eq_true rfl) rfl ?_
  refine J_iload_n 0 1 dX5_many_0 rfl rfl ?_
  refine J_tableIn (tgt := 87) (off := 86) 1 5 dX5_many_1 rfl (by decide +kernel) (by decide) ?_
  refine J_aload_n 87 0 dX5_many_87 rfl rfl ?_
  refine g_201 (v := .ref tp) 88 0 rfl rfl dX5_many_88 ?_
  refine g_99 (v := .int (nI ln)) 91 1 rfl rfl dX5_many_91 ?_
  exact J_iret 94 dX5_many_94 rfl rfl
set_option maxRecDepth 100000 in
set_option maxHeartbeats 4000000 in
theorem c_X5_many_6 (l : Launch) (G : Gd) (o : Nat) (An : Nat → Nat) (Ak : Nat → Nat) (At : Nat → Nat) (Ad : Nat → Nat) (kk : Int32) (tp : Nat) (rw : Nat) (rc : Nat) (sh : Nat) (sf : Nat) (de : Nat) (bo : Nat) (ct : Nat) (pz : Int32) (dk : Int32) (nu : Int32) (dt : Int32)  : Ct l G yX5_many cX5_many 2 (some (FieldType.int)) 2 [.ref o, .int 6] (wF [wMe o (An 0) (Ak 0) (At 0) (Ad 0) kk tp rw rc sh sf de, wDe de bo ct pz dk nu dt]) (some (.int (nI ct))) (wF [wMe o (An 0) (Ak 0) (At 0) (Ad 0) kk tp rw rc sh sf de, wDe de bo ct pz dk nu dt]) := by
  refine Ct.of "GooseArms" [some (.ref o), some (.int 6)] (by decide +kernel) rfl (Nat.le_of_ble_eq_true rfl) rfl ?_
  refine J_iload_n 0 1 dX5_many_0 rfl rfl ?_
  refine J_tableIn (tgt := 95) (off := 94) 1 6 dX5_many_1 rfl (by decide +kernel) (by decide) ?_
  refine J_aload_n 95 0 dX5_many_95 rfl rfl ?_
  refine g_206 (v := .ref de) 96 0 rfl rfl dX5_many_96 ?_
  refine g_177 (v := .int (nI ct)) 99 1 rfl rfl dX5_many_99 ?_
  exact J_iret 102 dX5_many_102 rfl rfl
set_option maxRecDepth 100000 in
set_option maxHeartbeats 4000000 in
theorem c_X5_many_badw (l : Launch) (G : Gd) (w : Int32) (o : Nat) (An : Nat → Nat) (Ak : Nat → Nat) (At : Nat → Nat) (Ad : Nat → Nat) (kk : Int32) (tp : Nat) (rw : Nat) (rc : Nat) (sh : Nat) (sf : Nat) (de : Nat) (hw : ¬ (0 ≤ w ∧ w ≤ 6)) : Ct l G yX5_many cX5_many 2 (some (FieldType.int)) 2 [.ref o, .int w] (wF [wMe o (An 0) (Ak 0) (At 0) (Ad 0) kk tp rw rc sh sf de]) (some (.int (-1))) (wF [wMe o (An 0) (Ak 0) (At 0) (Ad 0) kk tp rw rc sh sf de]) := by
  refine Ct.of "GooseArms" [some (.ref o), some (.int w)] (by decide +kernel) rfl (Nat.le_of_ble_eq_true rfl) rfl ?_
  refine J_iload_n 0 1 dX5_many_0 rfl rfl ?_
  by_cases e_1_ : w = 0
  · skip
    exact (hw (by rw [e_1_]; decide)).elim
  by_cases e_2_ : w = 1
  · skip
    exact (hw (by rw [e_2_]; decide)).elim
  by_cases e_3_ : w = 2
  · skip
    exact (hw (by rw [e_3_]; decide)).elim
  by_cases e_4_ : w = 3
  · skip
    exact (hw (by rw [e_4_]; decide)).elim
  by_cases e_5_ : w = 4
  · skip
    exact (hw (by rw [e_5_]; decide)).elim
  by_cases e_6_ : w = 5
  · skip
    exact (hw (by rw [e_6_]; decide)).elim
  by_cases e_7_ : w = 6
  · skip
    exact (hw (by rw [e_7_]; decide)).elim
  refine J_tableOut (tgt := 103) 1 dX5_many_1 (by have q0_ := lv_neT (a := 0) e_1_ (by decide); have q1_ := lv_neT (a := 1) e_2_ (by decide); have q2_ := lv_neT (a := 2) e_3_ (by decide); have q3_ := lv_neT (a := 3) e_4_ (by decide); have q4_ := lv_neT (a := 4) e_5_ (by decide); have q5_ := lv_neT (a := 5) e_6_ (by decide); have q6_ := lv_neT (a := 6) e_7_ (by decide); omega) (by decide) ?_
  refine J_iconst (v := (-1)) 103 dX5_many_103 rfl ?_
  exact J_iret 104 dX5_many_104 rfl rfl
set_option maxRecDepth 100000 in
set_option maxHeartbeats 4000000 in
theorem c_X5_keep (l : Launch) (G : Gd) (o : Nat) (An : Nat → Nat) (Ak : Nat → Nat) (At : Nat → Nat) (Ad : Nat → Nat) (kk : Int32) (tp : Nat) (rw : Nat) (rc : Nat) (sh : Nat) (sf : Nat) (de : Nat) (la : Nat → Int32) (ns : Nat) (sd : Nat) (to : Nat → Int32) (he : Nat → Int32) (sw : Nat → Int32) (nh : Nat) (ki : Nat → Int32) (te : Nat → Int32) (mi : Nat → Int32) (ar : Nat → Int32) (z : Int32) (k_la : Nat → Int32) (k_ns : Nat) (k_sd : Nat) (k_to : Nat → Int32) (k_he : Nat → Int32) (k_sw : Nat → Int32) (k_nh : Nat) (k_ki : Nat → Int32) (k_te : Nat → Int32) (k_mi : Nat → Int32) (k_ar : Nat → Int32) (k_z : Int32)  : Ct l G yX5_keep cX5_keep 1 (some (FieldType.int)) 2 [.ref o] (wF [wMe o (An 0) (Ak 0) (At 0) (Ad 0) kk tp rw rc sh sf de, wCt G An la ns sd to he sw nh ki te mi ar z, wCt G Ak k_la k_ns k_sd k_to k_he k_sw k_nh k_ki k_te k_mi k_ar k_z]) (some (.int 1)) (wF [wMe o (An 0) (Ak 0) (At 0) (Ad 0) 1 tp rw rc sh sf de, wCt G An la ns sd to he sw nh ki te mi ar z, wCt G Ak la ns sd to he sw nh ki te mi ar z]) := by
  refine Ct.of "GooseArms" [some (.ref o)] (by decide +kernel) rfl (Nat.le_of_ble_eq_true rfl) rfl ?_
  refine J_aload_n 0 0 dX5_keep_0 rfl rfl ?_
  refine g_197 (v := .ref (Ak 0)) 1 0 rfl rfl dX5_keep_1 ?_
  refine J_aload_n 4 0 dX5_keep_4 rfl rfl ?_
  refine g_196 (v := .ref (An 0)) 5 0 rfl rfl dX5_keep_5 ?_
  refine kb_RX5_86 (bs' := [wMe o (An 0) (Ak 0) (At 0) (Ad 0) kk tp rw rc sh sf de, wCt G An la ns sd to he sw nh ki te mi ar z, wCt G Ak la ns sd to he sw nh ki te mi ar z]) (rest := []) (st' := []) 8 (c_X0_become l G Ak k_la k_ns k_sd k_to k_he k_sw k_nh k_ki k_te k_mi k_ar k_z An la ns sd to he sw nh ki te mi ar z ) [2, 1] 10 rfl rfl rfl [[Ak 0, Ak 1, Ak 2, Ak 3, Ak 4, Ak 5, Ak 6, Ak 7, Ak 8], [An 0, An 1, An 2, An 3, An 4, An 5, An 6, An 7, An 8]] rfl rfl rfl rfl rfl rfl (Nat.le_of_ble_eq_true rfl) rfl dX5_keep_8 ?_
  refine J_aload_n 11 0 dX5_keep_11 rfl rfl ?_
  refine J_iconst (v := 1) 12 dX5_keep_12 rfl ?_
  refine p_200 (ws' := (wF [wMe o (An 0) (Ak 0) (At 0) (Ad 0) 1 tp rw rc sh sf de, wCt G An la ns sd to he sw nh ki te mi ar z, wCt G Ak la ns sd to he sw nh ki te mi ar z])) 13 0 rfl rfl rfl (Nat.le_of_ble_eq_true rfl) rfl dX5_keep_13 ?_
  refine J_iconst (v := 1) 16 dX5_keep_16 rfl ?_
  exact J_iret 17 dX5_keep_17 rfl rfl
set_option maxRecDepth 100000 in
set_option maxHeartbeats 4000000 in
theorem c_X5_again_none (l : Launch) (G : Gd) (o : Nat) (An : Nat → Nat) (Ak : Nat → Nat) (At : Nat → Nat) (Ad : Nat → Nat) (tp : Nat) (rw : Nat) (rc : Nat) (sh : Nat) (sf : Nat) (de : Nat)  : Ct l G yX5_again cX5_again 1 (some (FieldType.int)) 2 [.ref o] (wF [wMe o (An 0) (Ak 0) (At 0) (Ad 0) 0 tp rw rc sh sf de]) (some (.int (-3))) (wF [wMe o (An 0) (Ak 0) (At 0) (Ad 0) 0 tp rw rc sh sf de]) := by
  refine Ct.of "GooseArms" [some (.ref o)] (by decide +kernel) rfl (Nat.le_of_ble_eq_true rfl) rfl ?_
  refine J_aload_n 0 0 dX5_again_0 rfl rfl ?_
  refine g_200 (v := .int 0) 1 0 rfl rfl dX5_again_1 ?_
  refine J_if_ne (tgt := 10) 4 dX5_again_4 (by decide) (fun c_1_ => absurd c_1_ (by decide)) (fun _ => ?_)
  refine J_bipush (v := (-3)) 7 dX5_again_7 rfl ?_
  exact J_iret 9 dX5_again_9 rfl rfl
set_option maxRecDepth 100000 in
set_option maxHeartbeats 4000000 in
theorem c_X5_again_ok (l : Launch) (G : Gd) (o : Nat) (An : Nat → Nat) (Ak : Nat → Nat) (At : Nat → Nat) (Ad : Nat → Nat) (tp : Nat) (rw : Nat) (rc : Nat) (sh : Nat) (sf : Nat) (de : Nat) (la : Nat → Int32) (ns : Nat) (sd : Nat) (to : Nat → Int32) (he : Nat → Int32) (sw : Nat → Int32) (nh : Nat) (ki : Nat → Int32) (te : Nat → Int32) (mi : Nat → Int32) (ar : Nat → Int32) (z : Int32) (k_la : Nat → Int32) (k_ns : Nat) (k_sd : Nat) (k_to : Nat → Int32) (k_he : Nat → Int32) (k_sw : Nat → Int32) (k_nh : Nat) (k_ki : Nat → Int32) (k_te : Nat → Int32) (k_mi : Nat → Int32) (k_ar : Nat → Int32) (k_z : Int32)  : Ct l G yX5_again cX5_again 1 (some (FieldType.int)) 2 [.ref o] (wF [wMe o (An 0) (Ak 0) (At 0) (Ad 0) 1 tp rw rc sh sf de, wCt G An la ns sd to he sw nh ki te mi ar z, wCt G Ak k_la k_ns k_sd k_to k_he k_sw k_nh k_ki k_te k_mi k_ar k_z]) (some (.int (nI k_nh))) (wF [wMe o (An 0) (Ak 0) (At 0) (Ad 0) 1 tp rw rc sh sf de, wCt G An k_la k_ns k_sd k_to k_he k_sw k_nh k_ki k_te k_mi k_ar k_z, wCt G Ak k_la k_ns k_sd k_to k_he k_sw k_nh k_ki k_te k_mi k_ar k_z]) := by
  refine Ct.of "GooseArms" [some (.ref o)] (by decide +kernel) rfl (Nat.le_of_ble_eq_true rfl) rfl ?_
  refine J_aload_n 0 0 dX5_again_0 rfl rfl ?_
  refine g_200 (v := .int 1) 1 0 rfl rfl dX5_again_1 ?_
  refine J_if_ne (tgt := 10) 4 dX5_again_4 (by decide) (fun _ => ?_) (fun c_1_ => absurd c_1_ (by decide))
  refine J_aload_n 10 0 dX5_again_10 rfl rfl ?_
  refine g_196 (v := .ref (An 0)) 11 0 rfl rfl dX5_again_11 ?_
  refine J_aload_n 14 0 dX5_again_14 rfl rfl ?_
  refine g_197 (v := .ref (Ak 0)) 15 0 rfl rfl dX5_again_15 ?_
  refine kb_RX5_86 (bs' := [wMe o (An 0) (Ak 0) (At 0) (Ad 0) 1 tp rw rc sh sf de, wCt G An k_la k_ns k_sd k_to k_he k_sw k_nh k_ki k_te k_mi k_ar k_z, wCt G Ak k_la k_ns k_sd k_to k_he k_sw k_nh k_ki k_te k_mi k_ar k_z]) (rest := []) (st' := []) 18 (c_X0_become l G An la ns sd to he sw nh ki te mi ar z Ak k_la k_ns k_sd k_to k_he k_sw k_nh k_ki k_te k_mi k_ar k_z ) [1, 2] 1 rfl rfl rfl [[An 0, An 1, An 2, An 3, An 4, An 5, An 6, An 7, An 8], [Ak 0, Ak 1, Ak 2, Ak 3, Ak 4, Ak 5, Ak 6, Ak 7, Ak 8]] rfl rfl rfl rfl rfl rfl (Nat.le_of_ble_eq_true rfl) rfl dX5_again_18 ?_
  refine J_aload_n 21 0 dX5_again_21 rfl rfl ?_
  refine g_196 (v := .ref (An 0)) 22 0 rfl rfl dX5_again_22 ?_
  refine g_53 (v := .int (nI k_nh)) 25 1 rfl rfl dX5_again_25 ?_
  exact J_iret 28 dX5_again_28 rfl rfl
