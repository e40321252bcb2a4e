set_option maxRecDepth 100000 in
set_option maxHeartbeats 4000000 in
theorem c_X5_within_t (l : Launch) (G : Gd) (v : Int32) (lo : Int32) (hi : Int32) (hw : lo ≤ v ∧ v ≤ hi) : Ct l G yX5_within cX5_within 3 (some (FieldType.boolean)) 0 [.int v, .int lo, .int hi] (wF []) (some (.int 1)) (wF []) := by
  refine Ct.of "GooseArms" [some (.int v), some (.int lo), some (.int hi)] (by decide +kernel) rfl (Nat.le_of_ble_eq_true rfl) rfl ?_
  refine J_iload_n 0 0 dX5_within_0 rfl rfl ?_
  refine J_iload_n 1 1 dX5_within_1 rfl rfl ?_
  refine J_icmp_lt (tgt := 14) 2 dX5_within_2 (by decide) (fun c_1_ => ?_) (fun c_1_ => ?_)
  · skip
    exact absurd c_1_ (Int32.not_lt.mpr hw.1)
  · skip
    refine J_iload_n 5 0 dX5_within_5 rfl rfl ?_
    refine J_iload_n 6 2 dX5_within_6 rfl rfl ?_
    refine J_icmp_gt (tgt := 14) 7 dX5_within_7 (by decide) (fun c_2_ => ?_) (fun c_2_ => ?_)
    · skip
      exact absurd c_2_ (Int32.not_lt.mpr hw.2)
    · skip
      refine J_iconst (v := 1) 10 dX5_within_10 rfl ?_
      refine J_goto (tgt := 15) 11 dX5_within_11 (by decide) ?_
      exact J_zret 15 rfl dX5_within_15 rfl rfl
set_option maxRecDepth 100000 in
set_option maxHeartbeats 4000000 in
theorem c_X5_within_f (l : Launch) (G : Gd) (v : Int32) (lo : Int32) (hi : Int32) (hw : ¬ (lo ≤ v ∧ v ≤ hi)) : Ct l G yX5_within cX5_within 3 (some (FieldType.boolean)) 0 [.int v, .int lo, .int hi] (wF []) (some (.int 0)) (wF []) := by
  refine Ct.of "GooseArms" [some (.int v), some (.int lo), some (.int hi)] (by decide +kernel) rfl (Nat.le_of_ble_eq_true rfl) rfl ?_
  refine J_iload_n 0 0 dX5_within_0 rfl rfl ?_
  refine J_iload_n 1 1 dX5_within_1 rfl rfl ?_
  refine J_icmp_lt (tgt := 14) 2 dX5_within_2 (by decide) (fun c_1_ => ?_) (fun c_1_ => ?_)
  · skip
    refine J_iconst (v := 0) 14 dX5_within_14 rfl ?_
    exact J_zret 15 rfl dX5_within_15 rfl rfl
  · skip
    refine J_iload_n 5 0 dX5_within_5 rfl rfl ?_
    refine J_iload_n 6 2 dX5_within_6 rfl rfl ?_
    refine J_icmp_gt (tgt := 14) 7 dX5_within_7 (by decide) (fun c_2_ => ?_) (fun c_2_ => ?_)
    · skip
      refine J_iconst (v := 0) 14 dX5_within_14 rfl ?_
      exact J_zret 15 rfl dX5_within_15 rfl rfl
    · skip
      exact absurd ⟨Int32.not_lt.mp c_1_, Int32.not_lt.mp c_2_⟩ hw
set_option maxRecDepth 100000 in
set_option maxHeartbeats 4000000 in
theorem c_X5_isLaw_t (l : Launch) (G : Gd) (j : Nat) (hj : j ≤ 3) : Ct l G yX5_isLaw cX5_isLaw 1 (some (FieldType.boolean)) 1 [.int (nI j)] (wF []) (some (.int 1)) (wF []) := by
  refine Ct.of "GooseArms" [some (.int (nI j))] (by decide +kernel) rfl (Nat.le_of_ble_eq_true rfl) rfl ?_
  refine J_iload_n 0 0 dX5_isLaw_0 rfl rfl ?_
  refine J_iconst (v := 0) 1 dX5_isLaw_1 rfl ?_
  refine J_iconst (v := 3) 2 dX5_isLaw_2 rfl ?_
  refine kb_RX5_65 (bs' := []) (rest := []) (st' := [.int (bI (0 ≤ (nI j) ∧ (nI j) ≤ 3))]) 3 (c_X5_within l G (nI j) 0 3 ) [] rfl rfl [] rfl rfl rfl rfl rfl rfl (Nat.le_of_ble_eq_true rfl) rfl dX5_isLaw_3 ?_
  exact J_zret 6 (bI_nar _) dX5_isLaw_6 (congrArg (fun x_ => some (Value.int x_)) (bI_t (inL_t hj (by decide)))) rfl
set_option maxRecDepth 100000 in
set_option maxHeartbeats 4000000 in
theorem c_X5_isLaw_f (l : Launch) (G : Gd) (v : Int32) (hw : ¬ (0 ≤ v ∧ v ≤ 3)) : Ct l G yX5_isLaw cX5_isLaw 1 (some (FieldType.boolean)) 1 [.int v] (wF []) (some (.int 0)) (wF []) := by
  refine Ct.of "GooseArms" [some (.int v)] (by decide +kernel) rfl (Nat.le_of_ble_eq_true rfl) rfl ?_
  refine J_iload_n 0 0 dX5_isLaw_0 rfl rfl ?_
  refine J_iconst (v := 0) 1 dX5_isLaw_1 rfl ?_
  refine J_iconst (v := 3) 2 dX5_isLaw_2 rfl ?_
  refine kb_RX5_65 (bs' := []) (rest := []) (st' := [.int (bI (0 ≤ v ∧ v ≤ 3))]) 3 (c_X5_within l G v 0 3 ) [] rfl rfl [] rfl rfl rfl rfl rfl rfl (Nat.le_of_ble_eq_true rfl) rfl dX5_isLaw_3 ?_
  exact J_zret 6 (bI_nar _) dX5_isLaw_6 (congrArg (fun x_ => some (Value.int x_)) (bI_f hw)) rfl
set_option maxRecDepth 100000 in
set_option maxHeartbeats 4000000 in
theorem c_X5_isKind_t (l : Launch) (G : Gd) (j : Nat) (hj : j ≤ 5) : Ct l G yX5_isKind cX5_isKind 1 (some (FieldType.boolean)) 1 [.int (nI j)] (wF []) (some (.int 1)) (wF []) := by
  refine Ct.of "GooseArms" [some (.int (nI j))] (by decide +kernel) rfl (Nat.le_of_ble_eq_true rfl) rfl ?_
  refine J_iload_n 0 0 dX5_isKind_0 rfl rfl ?_
  refine J_iconst (v := 0) 1 dX5_isKind_1 rfl ?_
  refine J_iconst (v := 5) 2 dX5_isKind_2 rfl ?_
  refine kb_RX5_65 (bs' := []) (rest := []) (st' := [.int (bI (0 ≤ (nI j) ∧ (nI j) ≤ 5))]) 3 (c_X5_within l G (nI j) 0 5 ) [] rfl rfl [] rfl rfl rfl rfl rfl rfl (Nat.le_of_ble_eq_true rfl) rfl dX5_isKind_3 ?_
  exact J_zret 6 (bI_nar _) dX5_isKind_6 (congrArg (fun x_ => some (Value.int x_)) (bI_t (inL_t hj (by decide)))) rfl
set_option maxRecDepth 100000 in
set_option maxHeartbeats 4000000 in
theorem c_X5_isKind_f (l : Launch) (G : Gd) (v : Int32) (hw : ¬ (0 ≤ v ∧ v ≤ 5)) : Ct l G yX5_isKind cX5_isKind 1 (some (FieldType.boolean)) 1 [.int v] (wF []) (some (.int 0)) (wF []) := by
  refine Ct.of "GooseArms" [some (.int v)] (by decide +kernel) rfl (Nat.le_of_ble_eq_true rfl) rfl ?_
  refine J_iload_n 0 0 dX5_isKind_0 rfl rfl ?_
  refine J_iconst (v := 0) 1 dX5_isKind_1 rfl ?_
  refine J_iconst (v := 5) 2 dX5_isKind_2 rfl ?_
  refine kb_RX5_65 (bs' := []) (rest := []) (st' := [.int (bI (0 ≤ v ∧ v ≤ 5))]) 3 (c_X5_within l G v 0 5 ) [] rfl rfl [] rfl rfl rfl rfl rfl rfl (Nat.le_of_ble_eq_true rfl) rfl dX5_isKind_3 ?_
  exact J_zret 6 (bI_nar _) dX5_isKind_6 (congrArg (fun x_ => some (Value.int x_)) (bI_f hw)) rfl
set_option maxRecDepth 100000 in
set_option maxHeartbeats 4000000 in
theorem c_X5_isPlace_t (l : Launch) (G : Gd) (j : Nat) (hj : j ≤ 3) : Ct l G yX5_isPlace cX5_isPlace 1 (some (FieldType.boolean)) 1 [.int (nI j)] (wF []) (some (.int 1)) (wF []) := by
  refine Ct.of "GooseArms" [some (.int (nI j))] (by decide +kernel) rfl (Nat.le_of_ble_eq_true rfl) rfl ?_
  refine J_iload_n 0 0 dX5_isPlace_0 rfl rfl ?_
  refine J_iconst (v := 0) 1 dX5_isPlace_1 rfl ?_
  refine J_iconst (v := 3) 2 dX5_isPlace_2 rfl ?_
  refine kb_RX5_65 (bs' := []) (rest := []) (st' := [.int (bI (0 ≤ (nI j) ∧ (nI j) ≤ 3))]) 3 (c_X5_within l G (nI j) 0 3 ) [] rfl rfl [] rfl rfl rfl rfl rfl rfl (Nat.le_of_ble_eq_true rfl) rfl dX5_isPlace_3 ?_
  exact J_zret 6 (bI_nar _) dX5_isPlace_6 (congrArg (fun x_ => some (Value.int x_)) (bI_t (inL_t hj (by decide)))) rfl
set_option maxRecDepth 100000 in
set_option maxHeartbeats 4000000 in
theorem c_X5_isPlace_f (l : Launch) (G : Gd) (v : Int32) (hw : ¬ (0 ≤ v ∧ v ≤ 3)) : Ct l G yX5_isPlace cX5_isPlace 1 (some (FieldType.boolean)) 1 [.int v] (wF []) (some (.int 0)) (wF []) := by
  refine Ct.of "GooseArms" [some (.int v)] (by decide +kernel) rfl (Nat.le_of_ble_eq_true rfl) rfl ?_
  refine J_iload_n 0 0 dX5_isPlace_0 rfl rfl ?_
  refine J_iconst (v := 0) 1 dX5_isPlace_1 rfl ?_
  refine J_iconst (v := 3) 2 dX5_isPlace_2 rfl ?_
  refine kb_RX5_65 (bs' := []) (rest := []) (st' := [.int (bI (0 ≤ v ∧ v ≤ 3))]) 3 (c_X5_within l G v 0 3 ) [] rfl rfl [] rfl rfl rfl rfl rfl rfl (Nat.le_of_ble_eq_true rfl) rfl dX5_isPlace_3 ?_
  exact J_zret 6 (bI_nar _) dX5_isPlace_6 (congrArg (fun x_ => some (Value.int x_)) (bI_f hw)) rfl
set_option maxRecDepth 100000 in
set_option maxHeartbeats 4000000 in
theorem c_X5_isSaying (l : Launch) (G : Gd) (v : Int32) (o : Nat) (An : Nat → Nat) (Ak : Nat → Nat) (At : Nat → Nat) (Ad : Nat → Nat) (kk : Int32) (tp : Nat) (rw : Nat) (rc : Nat) (sh : Nat) (sf : Nat) (de : Nat) (la : Nat → Int32) (ns : Nat) (sd : Nat) (to : Nat → Int32) (he : Nat → Int32) (sw : Nat → Int32) (nh : Nat) (ki : Nat → Int32) (te : Nat → Int32) (mi : Nat → Int32) (ar : Nat → Int32) (z : Int32)  : Ct l G yX5_isSaying cX5_isSaying 2 (some (FieldType.boolean)) 1 [.ref o, .int v] (wF [wMe o (An 0) (Ak 0) (At 0) (Ad 0) kk tp rw rc sh sf de, wCt G An la ns sd to he sw nh ki te mi ar z]) (some (.int (bI (0 ≤ v ∧ v ≤ nI ns - 1)))) (wF [wMe o (An 0) (Ak 0) (At 0) (Ad 0) kk tp rw rc sh sf de, wCt G An la ns sd to he sw nh ki te mi ar z]) := by
  refine Ct.of "GooseArms" [some (.ref o), some (.int v)] (by decide +kernel) rfl (Nat.le_of_ble_eq_true rfl) rfl ?_
  refine J_iload_n 0 1 dX5_isSaying_0 rfl rfl ?_
  refine J_iconst (v := 0) 1 dX5_isSaying_1 rfl ?_
  refine J_aload_n 2 0 dX5_isSaying_2 rfl rfl ?_
  refine g_196 (v := .ref (An 0)) 3 0 rfl rfl dX5_isSaying_3 ?_
  refine g_43 (v := .int (nI ns)) 6 1 rfl rfl dX5_isSaying_6 ?_
  refine J_iconst (v := 1) 9 dX5_isSaying_9 rfl ?_
  refine J_isub 10 dX5_isSaying_10 ?_
  refine kb_RX5_65 (bs' := [wMe o (An 0) (Ak 0) (At 0) (Ad 0) kk tp rw rc sh sf de, wCt G An la ns sd to he sw nh ki te mi ar z]) (rest := []) (st' := [.int (bI (0 ≤ v ∧ v ≤ ((nI ns) - 1)))]) 11 (c_X5_within l G v 0 ((nI ns) - 1) ) [] rfl rfl [] rfl rfl rfl rfl rfl rfl (Nat.le_of_ble_eq_true rfl) rfl dX5_isSaying_11 ?_
  exact J_zret 14 (bI_nar _) dX5_isSaying_14 (congrArg (fun x_ => some (Value.int x_)) (bI_c (by grind))) rfl
set_option maxRecDepth 100000 in
set_option maxHeartbeats 4000000 in
theorem c_X5_isSaying_t (l : Launch) (G : Gd) (j : Nat) (o : Nat) (An : Nat → Nat) (Ak : Nat → Nat) (At : Nat → Nat) (Ad : Nat → Nat) (kk : Int32) (tp : Nat) (rw : Nat) (rc : Nat) (sh : Nat) (sf : Nat) (de : Nat) (la : Nat → Int32) (ns : Nat) (sd : Nat) (to : Nat → Int32) (he : Nat → Int32) (sw : Nat → Int32) (nh : Nat) (ki : Nat → Int32) (te : Nat → Int32) (mi : Nat → Int32) (ar : Nat → Int32) (z : Int32) (hj : j < ns) (hb : ns < 2147483648) : Ct l G yX5_isSaying cX5_isSaying 2 (some (FieldType.boolean)) 1 [.ref o, .int (nI j)] (wF [wMe o (An 0) (Ak 0) (At 0) (Ad 0) kk tp rw rc sh sf de, wCt G An la ns sd to he sw nh ki te mi ar z]) (some (.int 1)) (wF [wMe o (An 0) (Ak 0) (At 0) (Ad 0) kk tp rw rc sh sf de, wCt G An la ns sd to he sw nh ki te mi ar z]) := by
  refine Ct.of "GooseArms" [some (.ref o), some (.int (nI j))] (by decide +kernel) rfl (Nat.le_of_ble_eq_true rfl) rfl ?_
  refine J_iload_n 0 1 dX5_isSaying_0 rfl rfl ?_
  refine J_iconst (v := 0) 1 dX5_isSaying_1 rfl ?_
  refine J_aload_n 2 0 dX5_isSaying_2 rfl rfl ?_
  refine g_196 (v := .ref (An 0)) 3 0 rfl rfl dX5_isSaying_3 ?_
  refine g_43 (v := .int (nI ns)) 6 1 rfl rfl dX5_isSaying_6 ?_
  refine J_iconst (v := 1) 9 dX5_isSaying_9 rfl ?_
  refine J_isub 10 dX5_isSaying_10 ?_
  refine kb_RX5_65 (bs' := [wMe o (An 0) (Ak 0) (At 0) (Ad 0) kk tp rw rc sh sf de, wCt G An la ns sd to he sw nh ki te mi ar z]) (rest := []) (st' := [.int (bI (0 ≤ (nI j) ∧ (nI j) ≤ ((nI ns) - 1)))]) 11 (c_X5_within l G (nI j) 0 ((nI ns) - 1) ) [] rfl rfl [] rfl rfl rfl rfl rfl rfl (Nat.le_of_ble_eq_true rfl) rfl dX5_isSaying_11 ?_
  exact J_zret 14 (bI_nar _) dX5_isSaying_14 (congrArg (fun x_ => some (Value.int x_)) (bI_t (inR_t hj hb))) rfl
set_option maxRecDepth 100000 in
set_option maxHeartbeats 4000000 in
theorem c_X5_isSaying_f (l : Launch) (G : Gd) (v : Int32) (o : Nat) (An : Nat → Nat) (Ak : Nat → Nat) (At : Nat → Nat) (Ad : Nat → Nat) (kk : Int32) (tp : Nat) (rw : Nat) (rc : Nat) (sh : Nat) (sf : Nat) (de : Nat) (la : Nat → Int32) (ns : Nat) (sd : Nat) (to : Nat → Int32) (he : Nat → Int32) (sw : Nat → Int32) (nh : Nat) (ki : Nat → Int32) (te : Nat → Int32) (mi : Nat → Int32) (ar : Nat → Int32) (z : Int32) (hw : ¬ (0 ≤ v ∧ v ≤ nI ns - 1)) : Ct l G yX5_isSaying cX5_isSaying 2 (some (FieldType.boolean)) 1 [.ref o, .int v] (wF [wMe o (An 0) (Ak 0) (At 0) (Ad 0) kk tp rw rc sh sf de, wCt G An la ns sd to he sw nh ki te mi ar z]) (some (.int 0)) (wF [wMe o (An 0) (Ak 0) (At 0) (Ad 0) kk tp rw rc sh sf de, wCt G An la ns sd to he sw nh ki te mi ar z]) := by
  refine Ct.of "GooseArms" [some (.ref o), some (.int v)] (by decide +kernel) rfl (Nat.le_of_ble_eq_true rfl) rfl ?_
  refine J_iload_n 0 1 dX5_isSaying_0 rfl rfl ?_
  refine J_iconst (v := 0) 1 dX5_isSaying_1 rfl ?_
  refine J_aload_n 2 0 dX5_isSaying_2 rfl rfl ?_
  refine g_196 (v := .ref (An 0)) 3 0 rfl rfl dX5_isSaying_3 ?_
  refine g_43 (v := .int (nI ns)) 6 1 rfl rfl dX5_isSaying_6 ?_
  refine J_iconst (v := 1) 9 dX5_isSaying_9 rfl ?_
  refine J_isub 10 dX5_isSaying_10 ?_
  refine kb_RX5_65 (bs' := [wMe o (An 0) (Ak 0) (At 0) (Ad 0) kk tp rw rc sh sf de, wCt G An la ns sd to he sw nh ki te mi ar z]) (rest := []) (st' := [.int (bI (0 ≤ v ∧ v ≤ ((nI ns) - 1)))]) 11 (c_X5_within l G v 0 ((nI ns) - 1) ) [] rfl rfl [] rfl rfl rfl rfl rfl rfl (Nat.le_of_ble_eq_true rfl) rfl dX5_isSaying_11 ?_
  exact J_zret 14 (bI_nar _) dX5_isSaying_14 (congrArg (fun x_ => some (Value.int x_)) (bI_f hw)) rfl
set_option maxRecDepth 100000 in
set_option maxHeartbeats 4000000 in
theorem c_X5_isHearer (l : Launch) (G : Gd) (v : Int32) (o : Nat) (An : Nat → Nat) (Ak : Nat → Nat) (At : Nat → Nat) (Ad : Nat → Nat) (kk : Int32) (tp : Nat) (rw : Nat) (rc : Nat) (sh : Nat) (sf : Nat) (de : Nat) (la : Nat → Int32) (ns : Nat) (sd : Nat) (to : Nat → Int32) (he : Nat → Int32) (sw : Nat → Int32) (nh : Nat) (ki : Nat → Int32) (te : Nat → Int32) (mi : Nat → Int32) (ar : Nat → Int32) (z : Int32)  : Ct l G yX5_isHearer cX5_isHearer 2 (some (FieldType.boolean)) 1 [.ref o, .int v] (wF [wMe o (An 0) (Ak 0) (At 0) (Ad 0) kk tp rw rc sh sf de, wCt G An la ns sd to he sw nh ki te mi ar z]) (some (.int (bI (0 ≤ v ∧ v ≤ nI nh - 1)))) (wF [wMe o (An 0) (Ak 0) (At 0) (Ad 0) kk tp rw rc sh sf de, wCt G An la ns sd to he sw nh ki te mi ar z]) := by
  refine Ct.of "GooseArms" [some (.ref o), some (.int v)] (by decide +kernel) rfl (Nat.le_of_ble_eq_true rfl) rfl ?_
  refine J_iload_n 0 1 dX5_isHearer_0 rfl rfl ?_
  refine J_iconst (v := 0) 1 dX5_isHearer_1 rfl ?_
  refine J_aload_n 2 0 dX5_isHearer_2 rfl rfl ?_
  refine g_196 (v := .ref (An 0)) 3 0 rfl rfl dX5_isHearer_3 ?_
  refine g_53 (v := .int (nI nh)) 6 1 rfl rfl dX5_isHearer_6 ?_
  refine J_iconst (v := 1) 9 dX5_isHearer_9 rfl ?_
  refine J_isub 10 dX5_isHearer_10 ?_
  refine kb_RX5_65 (bs' := [wMe o (An 0) (Ak 0) (At 0) (Ad 0) kk tp rw rc sh sf de, wCt G An la ns sd to he sw nh ki te mi ar z]) (rest := []) (st' := [.int (bI (0 ≤ v ∧ v ≤ ((nI nh) - 1)))]) 11 (c_X5_within l G v 0 ((nI nh) - 1) ) [] rfl rfl [] rfl rfl rfl rfl rfl rfl (Nat.le_of_ble_eq_true rfl) rfl dX5_isHearer_11 ?_
  exact J_zret 14 (bI_nar _) dX5_isHearer_14 (congrArg (fun x_ => some (Value.int x_)) (bI_c (by grind))) rfl
set_option maxRecDepth 100000 in
set_option maxHeartbeats 4000000 in
theorem c_X5_isHearer_t (l : Launch) (G : Gd) (j : Nat) (o : Nat) (An : Nat → Nat) (Ak : Nat → Nat) (At : Nat → Nat) (Ad : Nat → Nat) (kk : Int32) (tp : Nat) (rw : Nat) (rc : Nat) (sh : Nat) (sf : Nat) (de : Nat) (la : Nat → Int32) (ns : Nat) (sd : Nat) (to : Nat → Int32) (he : Nat → Int32) (sw : Nat → Int32) (nh : Nat) (ki : Nat → Int32) (te : Nat → Int32) (mi : Nat → Int32) (ar : Nat → Int32) (z : Int32) (hj : j < nh) (hb : nh < 2147483648) : Ct l G yX5_isHearer cX5_isHearer 2 (some (FieldType.boolean)) 1 [.ref o, .int (nI j)] (wF [wMe o (An 0) (Ak 0) (At 0) (Ad 0) kk tp rw rc sh sf de, wCt G An la ns sd to he sw nh ki te mi ar z]) (some (.int 1)) (wF [wMe o (An 0) (Ak 0) (At 0) (Ad 0) kk tp rw rc sh sf de, wCt G An la ns sd to he sw nh ki te mi ar z]) := by
  refine Ct.of "GooseArms" [some (.ref o), some (.int (nI j))] (by decide +kernel) rfl (Nat.le_of_ble_eq_true rfl) rfl ?_
  refine J_iload_n 0 1 dX5_isHearer_0 rfl rfl ?_
  refine J_iconst (v := 0) 1 dX5_isHearer_1 rfl ?_
  refine J_aload_n 2 0 dX5_isHearer_2 rfl rfl ?_
  refine g_196 (v := .ref (An 0)) 3 0 rfl rfl dX5_isHearer_3 ?_
  refine g_53 (v := .int (nI nh)) 6 1 rfl rfl dX5_isHearer_6 ?_
  refine J_iconst (v := 1) 9 dX5_isHearer_9 rfl ?_
  refine J_isub 10 dX5_isHearer_10 ?_
  refine kb_RX5_65 (bs' := [wMe o (An 0) (Ak 0) (At 0) (Ad 0) kk tp rw rc sh sf de, wCt G An la ns sd to he sw nh ki te mi ar z]) (rest := []) (st' := [.int (bI (0 ≤ (nI j) ∧ (nI j) ≤ ((nI nh) - 1)))]) 11 (c_X5_within l G (nI j) 0 ((nI nh) - 1) ) [] rfl rfl [] rfl rfl rfl rfl rfl rfl (Nat.le_of_ble_eq_true rfl) rfl dX5_isHearer_11 ?_
  exact J_zret 14 (bI_nar _) dX5_isHearer_14 (congrArg (fun x_ => some (Value.int x_)) (bI_t (inR_t hj hb))) rfl
set_option maxRecDepth 100000 in
set_option maxHeartbeats 4000000 in
theorem c_X5_isHearer_f (l : Launch) (G : Gd) (v : Int32) (o : Nat) (An : Nat → Nat) (Ak : Nat → Nat) (At : Nat → Nat) (Ad : Nat → Nat) (kk : Int32) (tp : Nat) (rw : Nat) (rc : Nat) (sh : Nat) (sf : Nat) (de : Nat) (la : Nat → Int32) (ns : Nat) (sd : Nat) (to : Nat → Int32) (he : Nat → Int32) (sw : Nat → Int32) (nh : Nat) (ki : Nat → Int32) (te : Nat → Int32) (mi : Nat → Int32) (ar : Nat → Int32) (z : Int32) (hw : ¬ (0 ≤ v ∧ v ≤ nI nh - 1)) : Ct l G yX5_isHearer cX5_isHearer 2 (some (FieldType.boolean)) 1 [.ref o, .int v] (wF [wMe o (An 0) (Ak 0) (At 0) (Ad 0) kk tp rw rc sh sf de, wCt G An la ns sd to he sw nh ki te mi ar z]) (some (.int 0)) (wF [wMe o (An 0) (Ak 0) (At 0) (Ad 0) kk tp rw rc sh sf de, wCt G An la ns sd to he sw nh ki te mi ar z]) := by
  refine Ct.of "GooseArms" [some (.ref o), some (.int v)] (by decide +kernel) rfl (Nat.le_of_ble_eq_true rfl) rfl ?_
  refine J_iload_n 0 1 dX5_isHearer_0 rfl rfl ?_
  refine J_iconst (v := 0) 1 dX5_isHearer_1 rfl ?_
  refine J_aload_n 2 0 dX5_isHearer_2 rfl rfl ?_
  refine g_196 (v := .ref (An 0)) 3 0 rfl rfl dX5_isHearer_3 ?_
  refine g_53 (v := .int (nI nh)) 6 1 rfl rfl dX5_isHearer_6 ?_
  refine J_iconst (v := 1) 9 dX5_isHearer_9 rfl ?_
  refine J_isub 10 dX5_isHearer_10 ?_
  refine kb_RX5_65 (bs' := [wMe o (An 0) (Ak 0) (At 0) (Ad 0) kk tp rw rc sh sf de, wCt G An la ns sd to he sw nh ki te mi ar z]) (rest := []) (st' := [.int (bI (0 ≤ v ∧ v ≤ ((nI nh) - 1)))]) 11 (c_X5_within l G v 0 ((nI nh) - 1) ) [] rfl rfl [] rfl rfl rfl rfl rfl rfl (Nat.le_of_ble_eq_true rfl) rfl dX5_isHearer_11 ?_
  exact J_zret 14 (bI_nar _) dX5_isHearer_14 (congrArg (fun x_ => some (Value.int x_)) (bI_f hw)) rfl
set_option maxRecDepth 100000 in
set_option maxHeartbeats 4000000 in
theorem c_X5_isCell_t (l : Launch) (G : Gd) (i : Nat) (w : Nat) (o : Nat) (An : Nat → Nat) (Ak : Nat → Nat) (At : Nat → Nat) (Ad : Nat → Nat) (kk : Int32) (tp : Nat) (rw : Nat) (rc : Nat) (sh : Nat) (sf : Nat) (de : Nat) (hi : i < rc) (hb : rc ≤ 10) (hw : w ≤ 2) : Ct l G yX5_isCell cX5_isCell 3 (some (FieldType.boolean)) 1 [.ref o, .int (nI i), .int (nI w)] (wF [wMe o (An 0) (Ak 0) (At 0) (Ad 0) kk tp rw rc sh sf de]) (some (.int 1)) (wF [wMe o (An 0) (Ak 0) (At 0) (Ad 0) kk tp rw rc sh sf de]) := by
  refine Ct.of "GooseArms" [some (.ref o), some (.int (nI i)), some (.int (nI w))] (by decide +kernel) rfl (Nat.le_of_ble_eq_true rfl) rfl ?_
  refine J_iload_n 0 1 dX5_isCell_0 rfl rfl ?_
  refine J_iconst (v := 0) 1 dX5_isCell_1 rfl ?_
  refine J_aload_n 2 0 dX5_isCell_2 rfl rfl ?_
  refine g_203 (v := .int (nI rc)) 3 0 rfl rfl dX5_isCell_3 ?_
  refine J_iconst (v := 1) 6 dX5_isCell_6 rfl ?_
  refine J_isub 7 dX5_isCell_7 ?_
  refine kb_RX5_65 (bs' := [wMe o (An 0) (Ak 0) (At 0) (Ad 0) kk tp rw rc sh sf de]) (rest := []) (st' := [.int 1]) 8 (c_X5_within_t l G (nI i) 0 ((nI rc) - 1) (inR_t hi (by omega))) [] rfl rfl [] rfl rfl rfl rfl rfl rfl (Nat.le_of_ble_eq_true rfl) rfl dX5_isCell_8 ?_
  refine J_if_eq (tgt := 27) 11 dX5_isCell_11 (by decide) (fun c_1_ => absurd c_1_ (by decide)) (fun _ => ?_)
  refine J_iload_n 14 2 dX5_isCell_14 rfl rfl ?_
  refine J_iconst (v := 0) 15 dX5_isCell_15 rfl ?_
  refine J_iconst (v := 2) 16 dX5_isCell_16 rfl ?_
  refine kb_RX5_65 (bs' := [wMe o (An 0) (Ak 0) (At 0) (Ad 0) kk tp rw rc sh sf de]) (rest := []) (st' := [.int 1]) 17 (c_X5_within_t l G (nI w) 0 2 (inL_t (m := 2) hw (by decide))) [] rfl rfl [] rfl rfl rfl rfl rfl rfl (Nat.le_of_ble_eq_true rfl) rfl dX5_isCell_17 ?_
  refine J_if_eq (tgt := 27) 20 dX5_isCell_20 (by decide) (fun c_2_ => absurd c_2_ (by decide)) (fun _ => ?_)
  refine J_iconst (v := 1) 23 dX5_isCell_23 rfl ?_
  refine J_goto (tgt := 28) 24 dX5_isCell_24 (by decide) ?_
  exact J_zret 28 rfl dX5_isCell_28 rfl rfl
set_option maxRecDepth 100000 in
set_option maxHeartbeats 4000000 in
theorem c_X5_isCell_f (l : Launch) (G : Gd) (v : Int32) (w : Int32) (o : Nat) (An : Nat → Nat) (Ak : Nat → Nat) (At : Nat → Nat) (Ad : Nat → Nat) (kk : Int32) (tp : Nat) (rw : Nat) (rc : Nat) (sh : Nat) (sf : Nat) (de : Nat) (hw : ¬ ((0 ≤ v ∧ v ≤ nI rc - 1) ∧ 0 ≤ w ∧ w ≤ 2)) : Ct l G yX5_isCell cX5_isCell 3 (some (FieldType.boolean)) 1 [.ref o, .int v, .int w] (wF [wMe o (An 0) (Ak 0) (At 0) (Ad 0) kk tp rw rc sh sf de]) (some (.int 0)) (wF [wMe o (An 0) (Ak 0) (At 0) (Ad 0) kk tp rw rc sh sf de]) := by
  refine Ct.of "GooseArms" [some (.ref o), some (.int v), some (.int w)] (by decide +kernel) rfl (Nat.le_of_ble_eq_true rfl) rfl ?_
  refine J_iload_n 0 1 dX5_isCell_0 rfl rfl ?_
  refine J_iconst (v := 0) 1 dX5_isCell_1 rfl ?_
  refine J_aload_n 2 0 dX5_isCell_2 rfl rfl ?_
  refine g_203 (v := .int (nI rc)) 3 0 rfl rfl dX5_isCell_3 ?_
  refine J_iconst (v := 1) 6 dX5_isCell_6 rfl ?_
  refine J_isub 7 dX5_isCell_7 ?_
  refine kb_RX5_65 (bs' := [wMe o (An 0) (Ak 0) (At 0) (Ad 0) kk tp rw rc sh sf de]) (rest := []) (st' := [.int (bI (0 ≤ v ∧ v ≤ ((nI rc) - 1)))]) 8 (c_X5_within l G v 0 ((nI rc) - 1) ) [] rfl rfl [] rfl rfl rfl rfl rfl rfl (Nat.le_of_ble_eq_true rfl) rfl dX5_isCell_8 ?_
  refine J_ifB_eq (tgt := 27) 11 dX5_isCell_11 (by decide) (fun c_1_ => ?_) (fun c_1_ => ?_)
  · skip
    refine J_iconst (v := 0) 27 dX5_isCell_27 rfl ?_
    exact J_zret 28 rfl dX5_isCell_28 rfl rfl
  · skip
    refine J_iload_n 14 2 dX5_isCell_14 rfl rfl ?_
    refine J_iconst (v := 0) 15 dX5_isCell_15 rfl ?_
    refine J_iconst (v := 2) 16 dX5_isCell_16 rfl ?_
    refine kb_RX5_65 (bs' := [wMe o (An 0) (Ak 0) (At 0) (Ad 0) kk tp rw rc sh sf de]) (rest := []) (st' := [.int (bI (0 ≤ w ∧ w ≤ 2))]) 17 (c_X5_within l G w 0 2 ) [] rfl rfl [] rfl rfl rfl rfl rfl rfl (Nat.le_of_ble_eq_true rfl) rfl dX5_isCell_17 ?_
    refine J_ifB_eq (tgt := 27) 20 dX5_isCell_20 (by decide) (fun c_2_ => ?_) (fun c_2_ => ?_)
    · skip
      refine J_iconst (v := 0) 27 dX5_isCell_27 rfl ?_
      exact J_zret 28 rfl dX5_isCell_28 rfl rfl
    · skip
      exact absurd ⟨c_1_, c_2_⟩ hw
set_option maxRecDepth 100000 in
set_option maxHeartbeats 4000000 in
theorem c_X5_holdsHearer_t (l : Launch) (G : Gd) (j : Nat) (o : Nat) (An : Nat → Nat) (Ak : Nat → Nat) (At : Nat → Nat) (Ad : Nat → Nat) (kk : Int32) (tp : Nat) (rw : Nat) (rc : Nat) (sh : Nat) (sf : Nat) (de : Nat) (la : Nat → Int32) (ns : Nat) (sd : Nat) (to : Nat → Int32) (he : Nat → Int32) (sw : Nat → Int32) (nh : Nat) (ki : Nat → Int32) (te : Nat → Int32) (mi : Nat → Int32) (ar : Nat → Int32) (z : Int32) (s : Nat) (s_so : Int32) (s_sz : Int32) (hj : j < nh) (hb : nh ≤ 8) : Ct l G yX5_holdsHearer cX5_holdsHearer 2 (some (FieldType.boolean)) 2 [.ref o, .ref s] (wF [wMe o (An 0) (Ak 0) (At 0) (Ad 0) kk tp rw rc sh sf de, wCt G An la ns sd to he sw nh ki te mi ar z, wSf s 1 (nI j) s_so s_sz]) (some (.int 1)) (wF [wMe o (An 0) (Ak 0) (At 0) (Ad 0) kk tp rw rc sh sf de, wCt G An la ns sd to he sw nh ki te mi ar z, wSf s 1 (nI j) s_so s_sz]) := by
  refine Ct.of "GooseArms" [some (.ref o), some (.ref s)] (by decide +kernel) rfl (Nat.le_of_ble_eq_true rfl) rfl ?_
  refine J_aload_n 0 1 dX5_holdsHearer_0 rfl rfl ?_
  refine g_152 (v := .int 1) 1 10 rfl rfl dX5_holdsHearer_1 ?_
  refine J_iconst (v := 1) 4 dX5_holdsHearer_4 rfl ?_
  refine J_icmp_ne (tgt := 23) 5 dX5_holdsHearer_5 (by decide) (fun c_1_ => absurd c_1_ (by decide)) (fun _ => ?_)
  refine J_aload_n 8 0 dX5_holdsHearer_8 rfl rfl ?_
  refine J_aload_n 9 1 dX5_holdsHearer_9 rfl rfl ?_
  refine g_154 (v := .int (nI j)) 10 10 rfl rfl dX5_holdsHearer_10 ?_
  refine kb_RX5_135 (bs' := [wMe o (An 0) (Ak 0) (At 0) (Ad 0) kk tp rw rc sh sf de, wCt G An la ns sd to he sw nh ki te mi ar z, wSf s 1 (nI j) s_so s_sz]) (rest := []) (st' := [.int 1]) 13 (c_X5_isHearer_t l G j o An Ak At Ad kk tp rw rc sh sf de la ns sd to he sw nh ki te mi ar z (by omega) (by omega)) [0, 1] 0 rfl rfl rfl [[o], [An 0, An 1, An 2, An 3, An 4, An 5, An 6, An 7, An 8]] rfl rfl rfl rfl rfl rfl (Nat.le_of_ble_eq_true rfl) rfl dX5_holdsHearer_13 ?_
  refine J_if_eq (tgt := 23) 16 dX5_holdsHearer_16 (by decide) (fun c_2_ => absurd c_2_ (by decide)) (fun _ => ?_)
  refine J_iconst (v := 1) 19 dX5_holdsHearer_19 rfl ?_
  refine J_goto (tgt := 24) 20 dX5_holdsHearer_20 (by decide) ?_
  exact J_zret 24 rfl dX5_holdsHearer_24 rfl rfl
set_option maxRecDepth 100000 in
set_option maxHeartbeats 4000000 in
theorem c_X5_holdsHearer_n (l : Launch) (G : Gd) (o : Nat) (An : Nat → Nat) (Ak : Nat → Nat) (At : Nat → Nat) (Ad : Nat → Nat) (kk : Int32) (tp : Nat) (rw : Nat) (rc : Nat) (sh : Nat) (sf : Nat) (de : Nat) (la : Nat → Int32) (ns : Nat) (sd : Nat) (to : Nat → Int32) (he : Nat → Int32) (sw : Nat → Int32) (nh : Nat) (ki : Nat → Int32) (te : Nat → Int32) (mi : Nat → Int32) (ar : Nat → Int32) (z : Int32) (s : Nat) (ho : Int32) (hr : Int32) (s_so : Int32) (s_sz : Int32) (hw : ¬ ho = 1) : Ct l G yX5_holdsHearer cX5_holdsHearer 2 (some (FieldType.boolean)) 2 [.ref o, .ref s] (wF [wMe o (An 0) (Ak 0) (At 0) (Ad 0) kk tp rw rc sh sf de, wCt G An la ns sd to he sw nh ki te mi ar z, wSf s ho hr s_so s_sz]) (some (.int 0)) (wF [wMe o (An 0) (Ak 0) (At 0) (Ad 0) kk tp rw rc sh sf de, wCt G An la ns sd to he sw nh ki te mi ar z, wSf s ho hr s_so s_sz]) := by
  refine Ct.of "GooseArms" [some (.ref o), some (.ref s)] (by decide +kernel) rfl (Nat.le_of_ble_eq_true rfl) rfl ?_
  refine J_aload_n 0 1 dX5_holdsHearer_0 rfl rfl ?_
  refine g_152 (v := .int ho) 1 10 rfl rfl dX5_holdsHearer_1 ?_
  refine J_iconst (v := 1) 4 dX5_holdsHearer_4 rfl ?_
  refine J_icmp_ne (tgt := 23) 5 dX5_holdsHearer_5 (by decide) (fun c_1_ => ?_) (fun c_1_ => ?_)
  · skip
    refine J_iconst (v := 0) 23 dX5_holdsHearer_23 rfl ?_
    exact J_zret 24 rfl dX5_holdsHearer_24 rfl rfl
  · skip
    exact absurd c_1_ hw
set_option maxRecDepth 100000 in
set_option maxHeartbeats 4000000 in
theorem c_X5_holdsHearer_f (l : Launch) (G : Gd) (o : Nat) (An : Nat → Nat) (Ak : Nat → Nat) (At : Nat → Nat) (Ad : Nat → Nat) (kk : Int32) (tp : Nat) (rw : Nat) (rc : Nat) (sh : Nat) (sf : Nat) (de : Nat) (la : Nat → Int32) (ns : Nat) (sd : Nat) (to : Nat → Int32) (he : Nat → Int32) (sw : Nat → Int32) (nh : Nat) (ki : Nat → Int32) (te : Nat → Int32) (mi : Nat → Int32) (ar : Nat → Int32) (z : Int32) (s : Nat) (hr : Int32) (s_so : Int32) (s_sz : Int32) (hw : ¬ (0 ≤ hr ∧ hr ≤ nI nh - 1)) : Ct l G yX5_holdsHearer cX5_holdsHearer 2 (some (FieldType.boolean)) 2 [.ref o, .ref s] (wF [wMe o (An 0) (Ak 0) (At 0) (Ad 0) kk tp rw rc sh sf de, wCt G An la ns sd to he sw nh ki te mi ar z, wSf s 1 hr s_so s_sz]) (some (.int 0)) (wF [wMe o (An 0) (Ak 0) (At 0) (Ad 0) kk tp rw rc sh sf de, wCt G An la ns sd to he sw nh ki te mi ar z, wSf s 1 hr s_so s_sz]) := by
  refine Ct.of "GooseArms" [some (.ref o), some (.ref s)] (by decide +kernel) rfl (Nat.le_of_ble_eq_true rfl) rfl ?_
  refine J_aload_n 0 1 dX5_holdsHearer_0 rfl rfl ?_
  refine g_152 (v := .int 1) 1 10 rfl rfl dX5_holdsHearer_1 ?_
  refine J_iconst (v := 1) 4 dX5_holdsHearer_4 rfl ?_
  refine J_icmp_ne (tgt := 23) 5 dX5_holdsHearer_5 (by decide) (fun c_1_ => absurd c_1_ (by decide)) (fun _ => ?_)
  refine J_aload_n 8 0 dX5_holdsHearer_8 rfl rfl ?_
  refine J_aload_n 9 1 dX5_holdsHearer_9 rfl rfl ?_
  refine g_154 (v := .int hr) 10 10 rfl rfl dX5_holdsHearer_10 ?_
  refine kb_RX5_135 (bs' := [wMe o (An 0) (Ak 0) (At 0) (Ad 0) kk tp rw rc sh sf de, wCt G An la ns sd to he sw nh ki te mi ar z, wSf s 1 hr s_so s_sz]) (rest := []) (st' := [.int 0]) 13 (c_X5_isHearer_f l G hr o An Ak At Ad kk tp rw rc sh sf de la ns sd to he sw nh ki te mi ar z (by omega)) [0, 1] 0 rfl rfl rfl [[o], [An 0, An 1, An 2, An 3, An 4, An 5, An 6, An 7, An 8]] rfl rfl rfl rfl rfl rfl (Nat.le_of_ble_eq_true rfl) rfl dX5_holdsHearer_13 ?_
  refine J_if_eq (tgt := 23) 16 dX5_holdsHearer_16 (by decide) (fun _ => ?_) (fun c_2_ => absurd c_2_ (by decide))
  refine J_iconst (v := 0) 23 dX5_holdsHearer_23 rfl ?_
  exact J_zret 24 rfl dX5_holdsHearer_24 rfl rfl
set_option maxRecDepth 100000 in
set_option maxHeartbeats 4000000 in
theorem c_X5_isUnder (l : Launch) (G : Gd) (k1 : Int32) (as : Int32)  : Ct l G yX5_isUnder cX5_isUnder 2 (some (FieldType.boolean)) 0 [.int k1, .int as] (wF []) (some (.int (bI (fUnd k1 as)))) (wF []) := by
  refine Ct.of "GooseArms" [some (.int k1), some (.int as)] (by decide +kernel) rfl (Nat.le_of_ble_eq_true rfl) rfl ?_
  refine J_iload_n 0 0 dX5_isUnder_0 rfl rfl ?_
  by_cases e_1_ : k1 = 3
  · skip
    refine J_lookup (tgt := 28) (off := 27) 1 dX5_isUnder_1 (by decide +kernel) (by rw [e_1_]; decide +kernel) (by decide) ?_
    refine J_iload_n 28 1 dX5_isUnder_28 rfl rfl ?_
    refine J_iconst (v := 3) 29 dX5_isUnder_29 rfl ?_
    refine J_icmp_eq (tgt := 42) 30 dX5_isUnder_30 (by decide) (fun c_2_ => ?_) (fun c_2_ => ?_)
    · skip
      refine J_iconst (v := 1) 42 dX5_isUnder_42 rfl ?_
      refine J_goto (tgt := 47) 43 dX5_isUnder_43 (by decide) ?_
      exact J_zret 47 rfl dX5_isUnder_47 (congrArg (fun x_ => some (Value.int x_)) (bI_t (by simp [fUnd, *])).symm) rfl
    · skip
      refine J_iload_n 33 1 dX5_isUnder_33 rfl rfl ?_
      refine J_iconst (v := 1) 34 dX5_isUnder_34 rfl ?_
      refine J_icmp_eq (tgt := 42) 35 dX5_isUnder_35 (by decide) (fun c_3_ => ?_) (fun c_3_ => ?_)
      · skip
        refine J_iconst (v := 1) 42 dX5_isUnder_42 rfl ?_
        refine J_goto (tgt := 47) 43 dX5_isUnder_43 (by decide) ?_
        exact J_zret 47 rfl dX5_isUnder_47 (congrArg (fun x_ => some (Value.int x_)) (bI_t (by simp [fUnd, *])).symm) rfl
      · skip
        refine J_iload_n 38 1 dX5_isUnder_38 rfl rfl ?_
        refine J_if_ne (tgt := 46) 39 dX5_isUnder_39 (by decide) (fun c_4_ => ?_) (fun c_4_ => ?_)
        · skip
          refine J_iconst (v := 0) 46 dX5_isUnder_46 rfl ?_
          exact J_zret 47 rfl dX5_isUnder_47 (congrArg (fun x_ => some (Value.int x_)) (bI_f (by simp [fUnd, *])).symm) rfl
        · skip
          refine J_iconst (v := 1) 42 dX5_isUnder_42 rfl ?_
          refine J_goto (tgt := 47) 43 dX5_isUnder_43 (by decide) ?_
          exact J_zret 47 rfl dX5_isUnder_47 (congrArg (fun x_ => some (Value.int x_)) (bI_t (by simp [fUnd, *])).symm) rfl
  by_cases e_5_ : k1 = 4
  · skip
    refine J_lookup (tgt := 48) (off := 47) 1 dX5_isUnder_1 (by decide +kernel) (by rw [e_5_]; decide +kernel) (by decide) ?_
    refine J_iload_n 48 1 dX5_isUnder_48 rfl rfl ?_
    refine J_iconst (v := 4) 49 dX5_isUnder_49 rfl ?_
    refine J_icmp_eq (tgt := 62) 50 dX5_isUnder_50 (by decide) (fun c_6_ => ?_) (fun c_6_ => ?_)
    · skip
      refine J_iconst (v := 1) 62 dX5_isUnder_62 rfl ?_
      refine J_goto (tgt := 67) 63 dX5_isUnder_63 (by decide) ?_
      exact J_zret 67 rfl dX5_isUnder_67 (congrArg (fun x_ => some (Value.int x_)) (bI_t (by simp [fUnd, *])).symm) rfl
    · skip
      refine J_iload_n 53 1 dX5_isUnder_53 rfl rfl ?_
      refine J_iconst (v := 2) 54 dX5_isUnder_54 rfl ?_
      refine J_icmp_eq (tgt := 62) 55 dX5_isUnder_55 (by decide) (fun c_7_ => ?_) (fun c_7_ => ?_)
      · skip
        refine J_iconst (v := 1) 62 dX5_isUnder_62 rfl ?_
        refine J_goto (tgt := 67) 63 dX5_isUnder_63 (by decide) ?_
        exact J_zret 67 rfl dX5_isUnder_67 (congrArg (fun x_ => some (Value.int x_)) (bI_t (by simp [fUnd, *])).symm) rfl
      · skip
        refine J_iload_n 58 1 dX5_isUnder_58 rfl rfl ?_
        refine J_if_ne (tgt := 66) 59 dX5_isUnder_59 (by decide) (fun c_8_ => ?_) (fun c_8_ => ?_)
        · skip
          refine J_iconst (v := 0) 66 dX5_isUnder_66 rfl ?_
          exact J_zret 67 rfl dX5_isUnder_67 (congrArg (fun x_ => some (Value.int x_)) (bI_f (by simp [fUnd, *])).symm) rfl
        · skip
          refine J_iconst (v := 1) 62 dX5_isUnder_62 rfl ?_
          refine J_goto (tgt := 67) 63 dX5_isUnder_63 (by decide) ?_
          exact J_zret 67 rfl dX5_isUnder_67 (congrArg (fun x_ => some (Value.int x_)) (bI_t (by simp [fUnd, *])).symm) rfl
  refine J_lookup (tgt := 68) (off := 67) 1 dX5_isUnder_1 (by decide +kernel) (by show Op.lookupswitch.offset [(3, 27), (4, 47)] 67 _ = 67; rw [lv_osw e_1_ (by decide)]; rw [lv_osw e_5_ (by decide)]; rfl) (by decide) ?_
  refine J_iload_n 68 1 dX5_isUnder_68 rfl rfl ?_
  refine J_iload_n 69 0 dX5_isUnder_69 rfl rfl ?_
  refine J_icmp_eq (tgt := 77) 70 dX5_isUnder_70 (by decide) (fun c_9_ => ?_) (fun c_9_ => ?_)
  · skip
    refine J_iconst (v := 1) 77 dX5_isUnder_77 rfl ?_
    refine J_goto (tgt := 82) 78 dX5_isUnder_78 (by decide) ?_
    exact J_zret 82 rfl dX5_isUnder_82 (congrArg (fun x_ => some (Value.int x_)) (bI_t (by simp [fUnd, *])).symm) rfl
  · skip
    refine J_iload_n 73 1 dX5_isUnder_73 rfl rfl ?_
    refine J_if_ne (tgt := 81) 74 dX5_isUnder_74 (by decide) (fun c_10_ => ?_) (fun c_10_ => ?_)
    · skip
      refine J_iconst (v := 0) 81 dX5_isUnder_81 rfl ?_
      exact J_zret 82 rfl dX5_isUnder_82 (congrArg (fun x_ => some (Value.int x_)) (bI_f (by simp [fUnd, *])).symm) rfl
    · skip
      refine J_iconst (v := 1) 77 dX5_isUnder_77 rfl ?_
      refine J_goto (tgt := 82) 78 dX5_isUnder_78 (by decide) ?_
      exact J_zret 82 rfl dX5_isUnder_82 (congrArg (fun x_ => some (Value.int x_)) (bI_t (by simp [fUnd, *])).symm) rfl
set_option maxRecDepth 100000 in
set_option maxHeartbeats 4000000 in
theorem c_X5_replaced_t (l : Launch) (G : Gd) (i : Nat) (L : Nat) (v : Int32) (m : Int32) (a : Nat) (f : Nat → Int32) (hi : i < L) (hL : L < 2147483648) (hw : 0 ≤ v ∧ v ≤ m) : Ct l G yX5_replaced cX5_replaced 5 (some (FieldType.int)) 1 [.ref a, .int (nI i), .int v, .int m] (wF [wI G a L f]) (some (.int (f i))) (wF [wI G a L (upd f i v)]) := by
  refine Ct.of "GooseArms" [some (.ref a), some (.int (nI i)), some (.int v), some (.int m), none] (by decide +kernel) rfl (Nat.le_of_ble_eq_true rfl) rfl ?_
  refine J_iload_n 0 2 dX5_replaced_0 rfl rfl ?_
  refine J_iconst (v := 0) 1 dX5_replaced_1 rfl ?_
  refine J_iload_n 2 3 dX5_replaced_2 rfl rfl ?_
  refine kb_RX5_65 (bs' := [wI G a L f]) (rest := []) (st' := [.int 1]) 3 (c_X5_within_t l G v 0 m (by omega)) [] rfl rfl [] rfl rfl rfl rfl rfl rfl (Nat.le_of_ble_eq_true rfl) rfl dX5_replaced_3 ?_
  refine J_if_ne (tgt := 11) 6 dX5_replaced_6 (by decide) (fun _ => ?_) (fun c_1_ => absurd c_1_ (by decide))
  refine J_aload_n 11 0 dX5_replaced_11 rfl rfl ?_
  refine J_iload_n 12 1 dX5_replaced_12 rfl rfl ?_
  refine J_iald 13 0 i rfl rfl (by omega) (by omega) dX5_replaced_13 ?_
  refine J_istore (lv' := [some (.ref a), some (.int (nI i)), some (.int v), some (.int m), some (.int (f i))]) 14 dX5_replaced_14 (by decide) rfl ?_
  refine J_aload_n 16 0 dX5_replaced_16 rfl rfl ?_
  refine J_iload_n 17 1 dX5_replaced_17 rfl rfl ?_
  refine J_iload_n 18 2 dX5_replaced_18 rfl rfl ?_
  refine J_iast (ws' := (wF [wI G a L (upd f i v)])) 19 0 i rfl rfl (by omega) (by omega) rfl dX5_replaced_19 ?_
  refine J_iload 20 dX5_replaced_20 rfl ?_
  exact J_iret 22 dX5_replaced_22 rfl rfl
set_option maxRecDepth 100000 in
set_option maxHeartbeats 4000000 in
theorem c_X5_replaced_f (l : Launch) (G : Gd) (L : Nat) (i : Int32) (v : Int32) (m : Int32) (a : Nat) (f : Nat → Int32) (hw : ¬ (0 ≤ v ∧ v ≤ m)) : Ct l G yX5_replaced cX5_replaced 5 (some (FieldType.int)) 1 [.ref a, .int i, .int v, .int m] (wF [wI G a L f]) (some (.int (-1))) (wF [wI G a L f]) := by
  refine Ct.of "GooseArms" [some (.ref a), some (.int i), some (.int v), some (.int m), none] (by decide +kernel) rfl (Nat.le_of_ble_eq_true rfl) rfl ?_
  refine J_iload_n 0 2 dX5_replaced_0 rfl rfl ?_
  refine J_iconst (v := 0) 1 dX5_replaced_1 rfl ?_
  refine J_iload_n 2 3 dX5_replaced_2 rfl rfl ?_
  refine kb_RX5_65 (bs' := [wI G a L f]) (rest := []) (st' := [.int 0]) 3 (c_X5_within_f l G v 0 m (by omega)) [] rfl rfl [] rfl rfl rfl rfl rfl rfl (Nat.le_of_ble_eq_true rfl) rfl dX5_replaced_3 ?_
  refine J_if_ne (tgt := 11) 6 dX5_replaced_6 (by decide) (fun c_1_ => absurd c_1_ (by decide)) (fun _ => ?_)
  refine J_iconst (v := (-1)) 9 dX5_replaced_9 rfl ?_
  exact J_iret 10 dX5_replaced_10 rfl rfl
set_option maxRecDepth 100000 in
set_option maxHeartbeats 4000000 in
theorem c_X5_tried (l : Launch) (G : Gd) (o : Nat) (An : Nat → Nat) (Ak : Nat → Nat) (At : Nat → Nat) (Ad : Nat → Nat) (kk : Int32) (tp : Nat) (rw : Nat) (rc : Nat) (sh : Nat) (sf : Nat) (de : Nat) (la : Nat → Int32) (ns : Nat) (sd : Nat) (to : Nat → Int32) (he : Nat → Int32) (sw : Nat → Int32) (nh : Nat) (ki : Nat → Int32) (te : Nat → Int32) (mi : Nat → Int32) (ar : Nat → Int32) (z : Int32) (t_la : Nat → Int32) (t_ns : Nat) (t_sd : Nat) (t_to : Nat → Int32) (t_he : Nat → Int32) (t_sw : Nat → Int32) (t_nh : Nat) (t_ki : Nat → Int32) (t_te : Nat → Int32) (t_mi : Nat → Int32) (t_ar : Nat → Int32) (t_z : Int32)  : Ct l G yX5_tried cX5_tried 1 (some (FieldType.object "GooseArms$Court")) 2 [.ref o] (wF [wMe o (An 0) (Ak 0) (At 0) (Ad 0) kk tp rw rc sh sf de, wCt G An la ns sd to he sw nh ki te mi ar z, wCt G At t_la t_ns t_sd t_to t_he t_sw t_nh t_ki t_te t_mi t_ar t_z]) (some (.ref (At 0))) (wF [wMe o (An 0) (Ak 0) (At 0) (Ad 0) kk tp rw rc sh sf de, wCt G An la ns sd to he sw nh ki te mi ar z, wCt G At la ns sd to he sw nh ki te mi ar z]) := by
  refine Ct.of "GooseArms" [some (.ref o)] (by decide +kernel) rfl (Nat.le_of_ble_eq_true rfl) rfl ?_
  refine J_aload_n 0 0 dX5_tried_0 rfl rfl ?_
  refine g_198 (v := .ref (At 0)) 1 0 rfl rfl dX5_tried_1 ?_
  refine J_aload_n 4 0 dX5_tried_4 rfl rfl ?_
  refine g_196 (v := .ref (An 0)) 5 0 rfl rfl dX5_tried_5 ?_
  refine kb_RX5_86 (bs' := [wMe o (An 0) (Ak 0) (At 0) (Ad 0) kk tp rw rc sh sf de, wCt G An la ns sd to he sw nh ki te mi ar z, wCt G At la ns sd to he sw nh ki te mi ar z]) (rest := []) (st' := []) 8 (c_X0_become l G At t_la t_ns t_sd t_to t_he t_sw t_nh t_ki t_te t_mi t_ar t_z An la ns sd to he sw nh ki te mi ar z ) [2, 1] 10 rfl rfl rfl [[At 0, At 1, At 2, At 3, At 4, At 5, At 6, At 7, At 8], [An 0, An 1, An 2, An 3, An 4, An 5, An 6, An 7, An 8]] rfl rfl rfl rfl rfl rfl (Nat.le_of_ble_eq_true rfl) rfl dX5_tried_8 ?_
  refine J_aload_n 11 0 dX5_tried_11 rfl rfl ?_
  refine g_198 (v := .ref (At 0)) 12 0 rfl rfl dX5_tried_12 ?_
  exact J_aret 15 dX5_tried_15 rfl rfl
set_option maxRecDepth 100000 in
set_option maxHeartbeats 4000000 in
theorem c_X5_rightInTheEnd (l : Launch) (G : Gd) (h : Nat) (a : Nat → Nat) (la : Nat → Int32) (ns : Nat) (sd : Nat) (to : Nat → Int32) (he : Nat → Int32) (sw : Nat → Int32) (nh : Nat) (ki : Nat → Int32) (te : Nat → Int32) (mi : Nat → Int32) (ar : Nat → Int32) (z : Int32) (hnh : nh ≤ 8) (hns : ns ≤ 12) (hsd : sd ≤ ns) (hh : h < nh) : Ct l G yX5_rightInTheEnd cX5_rightInTheEnd 2 (some (FieldType.int)) 4 [.ref (a 0), .int (nI h)] (wF [wCt G a la ns sd to he sw nh ki te mi ar z]) (some (.int (nI (fRt la ki mi te ar to he sw ns sd h)))) (wF [wCt G a la ns (sd + min 12 (ns - sd)) to he sw nh ki (fTe (fun h_ => h_ < nh ∧ hasP (onlyI (nI h)) (nI h_)) la ki mi te ar to he sw sd (min 12 (ns - sd))) mi (fAr (fun h_ => h_ < nh ∧ hasP (onlyI (nI h)) (nI h_)) la ki mi te ar to he sw sd (min 12 (ns - sd))) z]) := by
  refine Ct.of "GooseArms" [some (.ref (a 0)), some (.int (nI h))] (by decide +kernel) rfl (Nat.le_of_ble_eq_true rfl) rfl ?_
  refine J_aload_n 0 0 dX5_rightInTheEnd_0 rfl rfl ?_
  refine J_bipush (v := 12) 1 dX5_rightInTheEnd_1 rfl ?_
  refine J_iload_n 3 1 dX5_rightInTheEnd_3 rfl rfl ?_
  refine kb_RX5_196 (bs' := [wCt G a la ns sd to he sw nh ki te mi ar z]) (rest := [.int 12, .ref (a 0)]) (st' := [.int (onlyI (nI h)), .int 12, .ref (a 0)]) 4 (c_X5_only l G (nI h) ) [] rfl rfl [] rfl rfl rfl rfl rfl rfl (Nat.le_of_ble_eq_true rfl) rfl dX5_rightInTheEnd_4 ?_
  refine kb_RX5_167 (bs' := [wCt G a la ns (sd + min 12 (ns - sd)) to he sw nh ki (fTe (fun h_ => h_ < nh ∧ hasP (onlyI (nI h)) (nI h_)) la ki mi te ar to he sw sd (min 12 (ns - sd))) mi (fAr (fun h_ => h_ < nh ∧ hasP (onlyI (nI h)) (nI h_)) la ki mi te ar to he sw sd (min 12 (ns - sd))) z]) (rest := []) (st' := [.int (nI (min 12 (ns - sd)))]) 7 (c_X0_sayMore l G 12 (onlyI (nI h)) a la ns sd to he sw nh ki te mi ar z (by omega) (by omega) (by omega) (by omega)) [0] 0 rfl rfl rfl [[a 0, a 1, a 2, a 3, a 4, a 5, a 6, a 7, a 8]] rfl rfl rfl rfl rfl rfl (Nat.le_of_ble_eq_true rfl) rfl dX5_rightInTheEnd_7 ?_
  refine J_pop 10 dX5_rightInTheEnd_10 rfl ?_
  refine J_aload_n 11 0 dX5_rightInTheEnd_11 rfl rfl ?_
  refine J_iload_n 12 1 dX5_rightInTheEnd_12 rfl rfl ?_
  refine kb_RX5_324 (bs' := [wCt G a la ns (sd + min 12 (ns - sd)) to he sw nh ki (fTe (fun h_ => h_ < nh ∧ hasP (onlyI (nI h)) (nI h_)) la ki mi te ar to he sw sd (min 12 (ns - sd))) mi (fAr (fun h_ => h_ < nh ∧ hasP (onlyI (nI h)) (nI h_)) la ki mi te ar to he sw sd (min 12 (ns - sd))) z]) (rest := []) (st' := [.int (nI (fCnt (fun s_ => hasP ((fAr (fun h_ => h_ < nh ∧ hasP (onlyI (nI h)) (nI h_)) la ki mi te ar to he sw sd (min 12 (ns - sd))) h) (nI s_) ↔ sw s_ = 1) ns))]) 13 (c_X0_rightOf l G h a la ns (sd + min 12 (ns - sd)) to he sw nh ki (fTe (fun h_ => h_ < nh ∧ hasP (onlyI (nI h)) (nI h_)) la ki mi te ar to he sw sd (min 12 (ns - sd))) mi (fAr (fun h_ => h_ < nh ∧ hasP (onlyI (nI h)) (nI h_)) la ki mi te ar to he sw sd (min 12 (ns - sd))) z (by omega) (by omega)) [0] 0 rfl rfl rfl [[a 0, a 1, a 2, a 3, a 4, a 5, a 6, a 7, a 8]] rfl rfl rfl rfl rfl rfl (Nat.le_of_ble_eq_true rfl) rfl dX5_rightInTheEnd_13 ?_
  exact J_iret 16 dX5_rightInTheEnd_16 (congrArg (fun x_ => some (Value.int x_)) (by rw [fRt_of hh hnh hns])) rfl
set_option maxRecDepth 100000 in
set_option maxHeartbeats 4000000 in
theorem c_X5_sayNextTried (l : Launch) (G : Gd) (a : Nat → Nat) (la : Nat → Int32) (ns : Nat) (sd : Nat) (to : Nat → Int32) (he : Nat → Int32) (sw : Nat → Int32) (nh : Nat) (ki : Nat → Int32) (te : Nat → Int32) (mi : Nat → Int32) (ar : Nat → Int32) (z : Int32) (hnh : nh ≤ 8) (hns : ns ≤ 12) (hsd : sd < ns) : Ct l G yX5_sayNextTried cX5_sayNextTried 2 (some (FieldType.int)) 3 [.ref (a 0)] (wF [wCt G a la ns sd to he sw nh ki te mi ar z]) (some (.int (fMask (fun h_ => hasP 255 (nI h_) ∧ fUp la ki mi te to he sw sd h_) nh))) (wF [wCt G a la ns (sd + 1) to he sw nh ki (fSel (fun h_ => h_ < nh ∧ hasP (fMask (fun h_ => hasP 255 (nI h_) ∧ fUp la ki mi te to he sw sd h_) nh) (nI h_)) (fun h_ => heldI (te h_ - fWears (ki h_) (la 2))) te) mi (fSel (fun h_ => h_ < nh ∧ hasP (fMask (fun h_ => hasP 255 (nI h_) ∧ fUp la ki mi te to he sw sd h_) nh) (nI h_)) (fun h_ => ar h_ ||| onlyI (nI sd)) ar) z]) := by
  refine Ct.of "GooseArms" [some (.ref (a 0)), none] (by decide +kernel) rfl (Nat.le_of_ble_eq_true rfl) rfl ?_
  refine J_aload_n 0 0 dX5_sayNextTried_0 rfl rfl ?_
  refine J_sipush (v := 255) 1 dX5_sayNextTried_1 rfl ?_
  refine kb_RX5_170 (bs' := [wCt G a la ns sd to he sw nh ki te mi ar z]) (rest := []) (st' := [.int (fMask (fun h_ => hasP 255 (nI h_) ∧ fUp la ki mi te to he sw sd h_) nh)]) 4 (c_X0_raisedNext l G 255 a la ns sd to he sw nh ki te mi ar z (by omega) (by omega) (by omega)) [0] 0 rfl rfl rfl [[a 0, a 1, a 2, a 3, a 4, a 5, a 6, a 7, a 8]] rfl rfl rfl rfl rfl rfl (Nat.le_of_ble_eq_true rfl) rfl dX5_sayNextTried_4 ?_
  refine J_istore_n (lv' := [some (.ref (a 0)), some (.int (fMask (fun h_ => hasP 255 (nI h_) ∧ fUp la ki mi te to he sw sd h_) nh))]) 7 1 dX5_sayNextTried_7 rfl (by decide) rfl ?_
  refine J_aload_n 8 0 dX5_sayNextTried_8 rfl rfl ?_
  refine J_iload_n 9 1 dX5_sayNextTried_9 rfl rfl ?_
  refine kb_RX5_176 (bs' := [wCt G a la ns (sd + 1) to he sw nh ki (fSel (fun h_ => h_ < nh ∧ hasP (fMask (fun h_ => hasP 255 (nI h_) ∧ fUp la ki mi te to he sw sd h_) nh) (nI h_)) (fun h_ => heldI (te h_ - fWears (ki h_) (la 2))) te) mi (fSel (fun h_ => h_ < nh ∧ hasP (fMask (fun h_ => hasP 255 (nI h_) ∧ fUp la ki mi te to he sw sd h_) nh) (nI h_)) (fun h_ => ar h_ ||| onlyI (nI sd)) ar) z]) (rest := []) (st' := []) 10 (c_X0_sayNext l G (fMask (fun h_ => hasP 255 (nI h_) ∧ fUp la ki mi te to he sw sd h_) nh) a la ns sd to he sw nh ki te mi ar z (by omega)) [0] 0 rfl rfl rfl [[a 0, a 1, a 2, a 3, a 4, a 5, a 6, a 7, a 8]] rfl rfl rfl rfl rfl rfl (Nat.le_of_ble_eq_true rfl) rfl dX5_sayNextTried_10 ?_
  refine J_iload_n 13 1 dX5_sayNextTried_13 rfl rfl ?_
  exact J_iret 14 dX5_sayNextTried_14 rfl rfl
set_option maxRecDepth 100000 in
set_option maxHeartbeats 4000000 in
theorem c_X5_alike (l : Launch) (G : Gd) (o : Nat) (An : Nat → Nat) (Ak : Nat → Nat) (At : Nat → Nat) (Ad : Nat → Nat) (kk : Int32) (tp : Nat) (rw : Nat) (rc : Nat) (sh : Nat) (sf : Nat) (de : Nat) (la : Nat → Int32) (ns : Nat) (sd : Nat) (to : Nat → Int32) (he : Nat → Int32) (sw : Nat → Int32) (nh : Nat) (ki : Nat → Int32) (te : Nat → Int32) (mi : Nat → Int32) (ar : Nat → Int32) (z : Int32) (t_la : Nat → Int32) (t_ns : Nat) (t_sd : Nat) (t_to : Nat → Int32) (t_he : Nat → Int32) (t_sw : Nat → Int32) (t_nh : Nat) (t_ki : Nat → Int32) (t_te : Nat → Int32) (t_mi : Nat → Int32) (t_ar : Nat → Int32) (t_z : Int32) (hnh : nh ≤ 8) (hns : ns ≤ 12) (hsd : sd ≤ ns) : Ct l G yX5_alike cX5_alike 4 (some (FieldType.int)) 4 [.ref o] (wF [wMe o (An 0) (Ak 0) (At 0) (Ad 0) kk tp rw rc sh sf de, wCt G An la ns sd to he sw nh ki te mi ar z, wCt G At t_la t_ns t_sd t_to t_he t_sw t_nh t_ki t_te t_mi t_ar t_z]) (some (.int (nI (fAl (fAr (fun h_ => h_ < nh ∧ hasP 255 (nI h_)) la ki mi te ar to he sw sd (min 12 (ns - sd))) nh)))) (wF [wMe o (An 0) (Ak 0) (At 0) (Ad 0) kk tp rw rc sh sf de, wCt G An la ns sd to he sw nh ki te mi ar z, wCt G At la ns (sd + min 12 (ns - sd)) to he sw nh ki (fTe (fun h_ => h_ < nh ∧ hasP 255 (nI h_)) la ki mi te ar to he sw sd (min 12 (ns - sd))) mi (fAr (fun h_ => h_ < nh ∧ hasP 255 (nI h_)) la ki mi te ar to he sw sd (min 12 (ns - sd))) z]) := by
  refine Ct.of "GooseArms" [some (.ref o), none, none, none] (by decide +kernel) rfl (Nat.le_of_ble_eq_true rfl) rfl ?_
  have cut_19_ : ∀ (n_19_ : Nat) (i : Nat) (x : Nat) (ar1 : Nat → Int32), (nh - i < n_19_) → (hk : i ≤ nh) → (hx : x = fMax (fun h_ => fCnt (fun j_ => ar1 j_ = ar1 h_) nh) i) → (har : ar1 = (fAr (fun h_ => h_ < nh ∧ hasP 255 (nI h_)) la ki mi te ar to he sw sd (min 12 (ns - sd)))) → J l G (bd G 4 (some (FieldType.int)) (some (.int (nI (fAl (fAr (fun h_ => h_ < nh ∧ hasP 255 (nI h_)) la ki mi te ar to he sw sd (min 12 (ns - sd))) nh)))) (wF [wMe o (An 0) (Ak 0) (At 0) (Ad 0) kk tp rw rc sh sf de, wCt G An la ns sd to he sw nh ki te mi ar z, wCt G At la ns (sd + min 12 (ns - sd)) to he sw nh ki (fTe (fun h_ => h_ < nh ∧ hasP 255 (nI h_)) la ki mi te ar to he sw sd (min 12 (ns - sd))) mi (fAr (fun h_ => h_ < nh ∧ hasP 255 (nI h_)) la ki mi te ar to he sw sd (min 12 (ns - sd))) z])) cX5_alike 4 "GooseArms" 19 [some (.ref o), some (.ref (At 0)), some (.int (nI x)), some (.int (nI i))] [] (wF [wMe o (An 0) (Ak 0) (At 0) (Ad 0) kk tp rw rc sh sf de, wCt G An la ns sd to he sw nh ki te mi ar z, wCt G At la ns (sd + min 12 (ns - sd)) to he sw nh ki (fTe (fun h_ => h_ < nh ∧ hasP 255 (nI h_)) la ki mi te ar to he sw sd (min 12 (ns - sd))) mi ar1 z]) := by
    intro n_19_
    induction n_19_ with
    | zero => intro i x ar1 m_19_; exact absurd m_19_ (Nat.not_lt_zero _)
    | succ n_19_ ih_19_ =>
      intro i x ar1 m_19_ hk hx har
      refine J_iload_n 19 3 dX5_alike_19 rfl rfl ?_
      refine J_aload_n 20 1 dX5_alike_20 rfl rfl ?_
      refine g_53 (v := .int (nI nh)) 21 10 rfl rfl dX5_alike_21 ?_
      refine J_icmp_ge (tgt := 48) 24 dX5_alike_24 (by decide) (fun c_1_ => ?_) (fun c_1_ => ?_)
      · skip
        have c_1_ : nh ≤ i := (nI_leI (a := nh) (b := i) (by omega) (by omega)).mp c_1_
        refine J_iload_n 48 2 dX5_alike_48 rfl rfl ?_
        exact J_iret 49 dX5_alike_49 (congrArg (fun x_ => some (Value.int x_)) (by rw [hx, show i = nh by omega, ← har]; rfl)) (cg1 (fun (x0_ : Nat → Int32) => (wF [wMe o (An 0) (Ak 0) (At 0) (Ad 0) kk tp rw rc sh sf de, wCt G An la ns sd to he sw nh ki te mi ar z, wCt G At la ns (sd + min 12 (ns - sd)) to he sw nh ki (fTe (fun h_ => h_ < nh ∧ hasP 255 (nI h_)) la ki mi te ar to he sw sd (min 12 (ns - sd))) mi x0_ z])) ar1 (fAr (fun h_ => h_ < nh ∧ hasP 255 (nI h_)) la ki mi te ar to he sw sd (min 12 (ns - sd))) har)
      · skip
        have c_1_ : ¬ nh ≤ i := fun z_ => c_1_ ((nI_leI (a := nh) (b := i) (by omega) (by omega)).mpr z_)
        refine J_iload_n 27 2 dX5_alike_27 rfl rfl ?_
        refine J_aload_n 28 1 dX5_alike_28 rfl rfl ?_
        refine J_aload_n 29 1 dX5_alike_29 rfl rfl ?_
        refine g_62 (v := .ref (At 8)) 30 10 rfl rfl dX5_alike_30 ?_
        refine J_iload_n 33 3 dX5_alike_33 rfl rfl ?_
        refine J_iald 34 18 i rfl rfl (by omega) (by decide) dX5_alike_34 ?_
        refine kb_RX5_327 (bs' := [wMe o (An 0) (Ak 0) (At 0) (Ad 0) kk tp rw rc sh sf de, wCt G An la ns sd to he sw nh ki te mi ar z, wCt G At la ns (sd + min 12 (ns - sd)) to he sw nh ki (fTe (fun h_ => h_ < nh ∧ hasP 255 (nI h_)) la ki mi te ar to he sw sd (min 12 (ns - sd))) mi ar1 z]) (rest := [.int (nI x)]) (st' := [.int (nI (fCnt (fun h_ => ar1 h_ = (ar1 i)) nh)), .int (nI x)]) 35 (c_X0_sameArms l G (ar1 i) At la ns (sd + min 12 (ns - sd)) to he sw nh ki (fTe (fun h_ => h_ < nh ∧ hasP 255 (nI h_)) la ki mi te ar to he sw sd (min 12 (ns - sd))) mi ar1 z (by omega)) [2] 10 rfl rfl rfl [[At 0, At 1, At 2, At 3, At 4, At 5, At 6, At 7, At 8]] rfl rfl rfl rfl rfl rfl (Nat.le_of_ble_eq_true rfl) rfl dX5_alike_35 ?_
        refine J_max 38 w_496 w_497 w_13 w_498 rfl (Nat.le_of_ble_eq_true rfl) dX5_alike_38 ?_
        refine J_topi (y := nI (max x (fCnt (fun h_ => ar1 h_ = ar1 i) nh))) 41 (al_max hx hnh) ?_
        refine J_istore_n (lv' := [some (.ref o), some (.ref (At 0)), some (.int (nI (max x (fCnt (fun h_ => ar1 h_ = ar1 i) nh)))), some (.int (nI i))]) 41 2 dX5_alike_41 rfl (by decide) rfl ?_
        refine J_iinc (v := nI (i + 1)) (lv' := [some (.ref o), some (.ref (At 0)), some (.int (nI (max x (fCnt (fun h_ => ar1 h_ = ar1 i) nh)))), some (.int (nI (i + 1)))]) 42 dX5_alike_42 rfl (nI_add _ 1) (by decide) rfl ?_
        refine J_goto (tgt := 19) 45 dX5_alike_45 (by decide) ?_
        exact ih_19_ (i + 1) (max x (fCnt (fun h_ => ar1 h_ = ar1 i) nh)) ar1 (by omega) (by first | assumption | omega | rfl) (by first | rfl | exact al_st hx) (by first | rfl | exact har)
  refine J_aload_n 0 0 dX5_alike_0 rfl rfl ?_
  refine kb_RX5_180 (bs' := [wMe o (An 0) (Ak 0) (At 0) (Ad 0) kk tp rw rc sh sf de, wCt G An la ns sd to he sw nh ki te mi ar z, wCt G At la ns sd to he sw nh ki te mi ar z]) (rest := []) (st' := [.ref (At 0)]) 1 (c_X5_tried l G o An Ak At Ad kk tp rw rc sh sf de la ns sd to he sw nh ki te mi ar z t_la t_ns t_sd t_to t_he t_sw t_nh t_ki t_te t_mi t_ar t_z ) [0, 1, 2] 0 rfl rfl rfl [[o], [An 0, An 1, An 2, An 3, An 4, An 5, An 6, An 7, An 8], [At 0, At 1, At 2, At 3, At 4, At 5, At 6, At 7, At 8]] rfl rfl rfl rfl rfl rfl (Nat.le_of_ble_eq_true rfl) rfl dX5_alike_1 ?_
  refine J_astore_n (lv' := [some (.ref o), some (.ref (At 0)), none, none]) 4 1 dX5_alike_4 rfl (by decide) rfl ?_
  refine J_aload_n 5 1 dX5_alike_5 rfl rfl ?_
  refine J_bipush (v := 12) 6 dX5_alike_6 rfl ?_
  refine J_sipush (v := 255) 8 dX5_alike_8 rfl ?_
  refine kb_RX5_167 (bs' := [wMe o (An 0) (Ak 0) (At 0) (Ad 0) kk tp rw rc sh sf de, wCt G An la ns sd to he sw nh ki te mi ar z, wCt G At la ns (sd + min 12 (ns - sd)) to he sw nh ki (fTe (fun h_ => h_ < nh ∧ hasP 255 (nI h_)) la ki mi te ar to he sw sd (min 12 (ns - sd))) mi (fAr (fun h_ => h_ < nh ∧ hasP 255 (nI h_)) la ki mi te ar to he sw sd (min 12 (ns - sd))) z]) (rest := []) (st' := [.int (nI (min 12 (ns - sd)))]) 11 (c_X0_sayMore l G 12 255 At la ns sd to he sw nh ki te mi ar z (by omega) (by omega) (by omega) (by omega)) [2] 10 rfl rfl rfl [[At 0, At 1, At 2, At 3, At 4, At 5, At 6, At 7, At 8]] rfl rfl rfl rfl rfl rfl (Nat.le_of_ble_eq_true rfl) rfl dX5_alike_11 ?_
  refine J_pop 14 dX5_alike_14 rfl ?_
  refine J_iconst (v := 0) 15 dX5_alike_15 rfl ?_
  refine J_istore_n (lv' := [some (.ref o), some (.ref (At 0)), some (.int 0), none]) 16 2 dX5_alike_16 rfl (by decide) rfl ?_
  refine J_iconst (v := 0) 17 dX5_alike_17 rfl ?_
  refine J_istore_n (lv' := [some (.ref o), some (.ref (At 0)), some (.int 0), some (.int 0)]) 18 3 dX5_alike_18 rfl (by decide) rfl ?_
  exact cut_19_ ((nh - 0) + 1) 0 0 (fAr (fun h_ => h_ < nh ∧ hasP 255 (nI h_)) la ki mi te ar to he sw sd (min 12 (ns - sd))) (Nat.lt_succ_self _) (by first | assumption | omega | rfl) (by first | rfl | exact al_st hx) (by first | rfl | exact har)
set_option maxRecDepth 100000 in
set_option maxHeartbeats 4000000 in
theorem c_bitCount (l : Launch) (G : Gd) (x : Int32)  : Ct l G yJ6_bitCount_0f7a4 cJ6_bitCount_0f7a4 1 (some (FieldType.int)) 0 [.int x] (wF []) (some (.int (fBC x))) (wF []) := by
  refine Ct.of "java/lang/Integer" [some (.int x)] (by decide +kernel) rfl (Nat.le_of_ble_eq_true rfl) rfl ?_
  refine J_iload_n 0 0 dJ6_bitCount_0f7a4_0 rfl rfl ?_
  refine J_iload_n 1 0 dJ6_bitCount_0f7a4_1 rfl rfl ?_
  refine J_iconst (v := 1) 2 dJ6_bitCount_0f7a4_2 rfl ?_
  refine J_iushr 3 dJ6_bitCount_0f7a4_3 ?_
  refine J_ldcw (v := 1431655765) 4 w_581 dJ6_bitCount_0f7a4_4 ?_
  refine J_iand 7 dJ6_bitCount_0f7a4_7 ?_
  refine J_isub 8 dJ6_bitCount_0f7a4_8 ?_
  refine J_topi (y := bcA x) 9 rfl ?_
  refine J_istore_n (lv' := [some (.int (bcA x))]) 9 0 dJ6_bitCount_0f7a4_9 rfl (by decide) rfl ?_
  refine J_iload_n 10 0 dJ6_bitCount_0f7a4_10 rfl rfl ?_
  refine J_ldcw (v := 858993459) 11 w_582 dJ6_bitCount_0f7a4_11 ?_
  refine J_iand 14 dJ6_bitCount_0f7a4_14 ?_
  refine J_iload_n 15 0 dJ6_bitCount_0f7a4_15 rfl rfl ?_
  refine J_iconst (v := 2) 16 dJ6_bitCount_0f7a4_16 rfl ?_
  refine J_iushr 17 dJ6_bitCount_0f7a4_17 ?_
  refine J_ldcw (v := 858993459) 18 w_582 dJ6_bitCount_0f7a4_18 ?_
  refine J_iand 21 dJ6_bitCount_0f7a4_21 ?_
  refine J_iadd 22 dJ6_bitCount_0f7a4_22 ?_
  refine J_topi (y := bcB (bcA x)) 23 rfl ?_
  refine J_istore_n (lv' := [some (.int (bcB (bcA x)))]) 23 0 dJ6_bitCount_0f7a4_23 rfl (by decide) rfl ?_
  refine J_iload_n 24 0 dJ6_bitCount_0f7a4_24 rfl rfl ?_
  refine J_iload_n 25 0 dJ6_bitCount_0f7a4_25 rfl rfl ?_
  refine J_iconst (v := 4) 26 dJ6_bitCount_0f7a4_26 rfl ?_
  refine J_iushr 27 dJ6_bitCount_0f7a4_27 ?_
  refine J_iadd 28 dJ6_bitCount_0f7a4_28 ?_
  refine J_ldcw (v := 252645135) 29 w_583 dJ6_bitCount_0f7a4_29 ?_
  refine J_iand 32 dJ6_bitCount_0f7a4_32 ?_
  refine J_topi (y := bcC (bcB (bcA x))) 33 rfl ?_
  refine J_istore_n (lv' := [some (.int (bcC (bcB (bcA x))))]) 33 0 dJ6_bitCount_0f7a4_33 rfl (by decide) rfl ?_
  refine J_iload_n 34 0 dJ6_bitCount_0f7a4_34 rfl rfl ?_
  refine J_iload_n 35 0 dJ6_bitCount_0f7a4_35 rfl rfl ?_
  refine J_bipush (v := 8) 36 dJ6_bitCount_0f7a4_36 rfl ?_
  refine J_iushr 38 dJ6_bitCount_0f7a4_38 ?_
  refine J_iadd 39 dJ6_bitCount_0f7a4_39 ?_
  refine J_topi (y := bcD (bcC (bcB (bcA x)))) 40 rfl ?_
  refine J_istore_n (lv' := [some (.int (bcD (bcC (bcB (bcA x)))))]) 40 0 dJ6_bitCount_0f7a4_40 rfl (by decide) rfl ?_
  refine J_iload_n 41 0 dJ6_bitCount_0f7a4_41 rfl rfl ?_
  refine J_iload_n 42 0 dJ6_bitCount_0f7a4_42 rfl rfl ?_
  refine J_bipush (v := 16) 43 dJ6_bitCount_0f7a4_43 rfl ?_
  refine J_iushr 45 dJ6_bitCount_0f7a4_45 ?_
  refine J_iadd 46 dJ6_bitCount_0f7a4_46 ?_
  refine J_topi (y := bcE (bcD (bcC (bcB (bcA x))))) 47 rfl ?_
  refine J_istore_n (lv' := [some (.int (bcE (bcD (bcC (bcB (bcA x))))))]) 47 0 dJ6_bitCount_0f7a4_47 rfl (by decide) rfl ?_
  refine J_iload_n 48 0 dJ6_bitCount_0f7a4_48 rfl rfl ?_
  refine J_bipush (v := 63) 49 dJ6_bitCount_0f7a4_49 rfl ?_
  refine J_iand 51 dJ6_bitCount_0f7a4_51 ?_
  exact J_iret 52 dJ6_bitCount_0f7a4_52 (congrArg (fun x_ => some (Value.int x_)) rfl) rfl
