theorem fZn_s {z z1 : Int32} {i : Nat} (h_ : z1 = fZn z i) : fZ (fZ z1) = fZn z (i + 1) := by subst h_; rw [fZn]
set_option maxRecDepth 100000 in
set_option maxHeartbeats 4000000 in
theorem c_X5_state_0 (l : Launch) (G : Gd) (o : Nat) (An : Nat → Nat) (Ak : Nat → Nat) (At : Nat → Nat) (Ad : Nat → Nat) (kk : Int32) (tp : Nat) (rw : Nat) (rc : Nat) (sh : Nat) (sf : Nat) (de : Nat) (la : Nat → Int32) (ns : Nat) (sd : Nat) (to : Nat → Int32) (he : Nat → Int32) (sw : Nat → Int32) (nh : Nat) (ki : Nat → Int32) (te : Nat → Int32) (mi : Nat → Int32) (ar : Nat → Int32) (z : Int32)  : Ct l G yX5_state cX5_state 2 (some (FieldType.int)) 5 [.ref o, .int 0] (wF [wMe o (An 0) (Ak 0) (At 0) (Ad 0) kk tp rw rc sh sf de, wCt G An la ns sd to he sw nh ki te mi ar z]) (some (.int (nI sd))) (wF [wMe o (An 0) (Ak 0) (At 0) (Ad 0) kk tp rw rc sh sf de, wCt G An la ns sd to he sw nh ki te mi ar z]) := by
  refine Ct.of "GooseArms" [some (.ref o), some (.int 0)] (by decide +kernel) rfl (Nat.le_of_ble_eq_true rfl) rfl ?_
  refine J_iload_n 0 1 dX5_state_0 rfl rfl ?_
  refine J_tableIn (tgt := 40) (off := 39) 1 0 dX5_state_1 rfl (by decide +kernel) (by decide) ?_
  refine J_aload_n 40 0 dX5_state_40 rfl rfl ?_
  refine g_196 (v := .ref (An 0)) 41 0 rfl rfl dX5_state_41 ?_
  refine g_45 (v := .int (nI sd)) 44 1 rfl rfl dX5_state_44 ?_
  exact J_iret 47 dX5_state_47 rfl rfl
set_option maxRecDepth 100000 in
set_option maxHeartbeats 4000000 in
theorem c_X5_state_1 (l : Launch) (G : Gd) (o : Nat) (An : Nat → Nat) (Ak : Nat → Nat) (At : Nat → Nat) (Ad : Nat → Nat) (kk : Int32) (tp : Nat) (rw : Nat) (rc : Nat) (sh : Nat) (sf : Nat) (de : Nat) (la : Nat → Int32) (ns : Nat) (sd : Nat) (to : Nat → Int32) (he : Nat → Int32) (sw : Nat → Int32) (nh : Nat) (ki : Nat → Int32) (te : Nat → Int32) (mi : Nat → Int32) (ar : Nat → Int32) (z : Int32)  : Ct l G yX5_state cX5_state 2 (some (FieldType.int)) 5 [.ref o, .int 1] (wF [wMe o (An 0) (Ak 0) (At 0) (Ad 0) kk tp rw rc sh sf de, wCt G An la ns sd to he sw nh ki te mi ar z]) (some (.int (nI ns))) (wF [wMe o (An 0) (Ak 0) (At 0) (Ad 0) kk tp rw rc sh sf de, wCt G An la ns sd to he sw nh ki te mi ar z]) := by
  refine Ct.of "GooseArms" [some (.ref o), some (.int 1)] (by decide +kernel) rfl (Nat.le_of_ble_eq_true rfl) rfl ?_
  refine J_iload_n 0 1 dX5_state_0 rfl rfl ?_
  refine J_tableIn (tgt := 48) (off := 47) 1 1 dX5_state_1 rfl (by decide +kernel) (by decide) ?_
  refine J_aload_n 48 0 dX5_state_48 rfl rfl ?_
  refine g_196 (v := .ref (An 0)) 49 0 rfl rfl dX5_state_49 ?_
  refine g_43 (v := .int (nI ns)) 52 1 rfl rfl dX5_state_52 ?_
  exact J_iret 55 dX5_state_55 rfl rfl
set_option maxRecDepth 100000 in
set_option maxHeartbeats 4000000 in
theorem c_X5_state_2 (l : Launch) (G : Gd) (o : Nat) (An : Nat → Nat) (Ak : Nat → Nat) (At : Nat → Nat) (Ad : Nat → Nat) (kk : Int32) (tp : Nat) (rw : Nat) (rc : Nat) (sh : Nat) (sf : Nat) (de : Nat) (la : Nat → Int32) (ns : Nat) (sd : Nat) (to : Nat → Int32) (he : Nat → Int32) (sw : Nat → Int32) (nh : Nat) (ki : Nat → Int32) (te : Nat → Int32) (mi : Nat → Int32) (ar : Nat → Int32) (z : Int32) (hns : ns ≤ 12) : Ct l G yX5_state cX5_state 2 (some (FieldType.int)) 5 [.ref o, .int 2] (wF [wMe o (An 0) (Ak 0) (At 0) (Ad 0) kk tp rw rc sh sf de, wCt G An la ns sd to he sw nh ki te mi ar z]) (some (.int (fMask (fun s_ => sw s_ = 1) ns))) (wF [wMe o (An 0) (Ak 0) (At 0) (Ad 0) kk tp rw rc sh sf de, wCt G An la ns sd to he sw nh ki te mi ar z]) := by
  refine Ct.of "GooseArms" [some (.ref o), some (.int 2)] (by decide +kernel) rfl (Nat.le_of_ble_eq_true rfl) rfl ?_
  refine J_iload_n 0 1 dX5_state_0 rfl rfl ?_
  refine J_tableIn (tgt := 56) (off := 55) 1 2 dX5_state_1 rfl (by decide +kernel) (by decide) ?_
  refine J_aload_n 56 0 dX5_state_56 rfl rfl ?_
  refine g_196 (v := .ref (An 0)) 57 0 rfl rfl dX5_state_57 ?_
  refine kb_RX5_184 (bs' := [wMe o (An 0) (Ak 0) (At 0) (Ad 0) kk tp rw rc sh sf de, wCt G An la ns sd to he sw nh ki te mi ar z]) (rest := []) (st' := [.int (fMask (fun s_ => sw s_ = 1) ns)]) 60 (c_X0_swornSet l G An la ns sd to he sw nh ki te mi ar z (by first | omega | assumption)) [1] 1 rfl rfl rfl [[An 0, An 1, An 2, An 3, An 4, An 5, An 6, An 7, An 8]] rfl rfl rfl rfl rfl rfl (Nat.le_of_ble_eq_true rfl) rfl dX5_state_60 ?_
  exact J_iret 63 dX5_state_63 rfl rfl
set_option maxRecDepth 100000 in
set_option maxHeartbeats 4000000 in
theorem c_X5_state_3 (l : Launch) (G : Gd) (o : Nat) (An : Nat → Nat) (Ak : Nat → Nat) (At : Nat → Nat) (Ad : Nat → Nat) (kk : Int32) (tp : Nat) (rw : Nat) (rc : Nat) (sh : Nat) (sf : Nat) (de : Nat) (la : Nat → Int32) (ns : Nat) (sd : Nat) (to : Nat → Int32) (he : Nat → Int32) (sw : Nat → Int32) (nh : Nat) (ki : Nat → Int32) (te : Nat → Int32) (mi : Nat → Int32) (ar : Nat → Int32) (z : Int32) (hnh : nh ≤ 8) : Ct l G yX5_state cX5_state 2 (some (FieldType.int)) 5 [.ref o, .int 3] (wF [wMe o (An 0) (Ak 0) (At 0) (Ad 0) kk tp rw rc sh sf de, wCt G An la ns sd to he sw nh ki te mi ar z]) (some (.int (fSum te nh))) (wF [wMe o (An 0) (Ak 0) (At 0) (Ad 0) kk tp rw rc sh sf de, wCt G An la ns sd to he sw nh ki te mi ar z]) := by
  refine Ct.of "GooseArms" [some (.ref o), some (.int 3)] (by decide +kernel) rfl (Nat.le_of_ble_eq_true rfl) rfl ?_
  refine J_iload_n 0 1 dX5_state_0 rfl rfl ?_
  refine J_tableIn (tgt := 64) (off := 63) 1 3 dX5_state_1 rfl (by decide +kernel) (by decide) ?_
  refine J_aload_n 64 0 dX5_state_64 rfl rfl ?_
  refine g_196 (v := .ref (An 0)) 65 0 rfl rfl dX5_state_65 ?_
  refine kb_RX5_187 (bs' := [wMe o (An 0) (Ak 0) (At 0) (Ad 0) kk tp rw rc sh sf de, wCt G An la ns sd to he sw nh ki te mi ar z]) (rest := []) (st' := [.int (fSum te nh)]) 68 (c_X0_tenderOfAll l G An la ns sd to he sw nh ki te mi ar z (by first | omega | assumption)) [1] 1 rfl rfl rfl [[An 0, An 1, An 2, An 3, An 4, An 5, An 6, An 7, An 8]] rfl rfl rfl rfl rfl rfl (Nat.le_of_ble_eq_true rfl) rfl dX5_state_68 ?_
  exact J_iret 71 dX5_state_71 rfl rfl
set_option maxRecDepth 100000 in
set_option maxHeartbeats 4000000 in
theorem c_X5_state_4 (l : Launch) (G : Gd) (o : Nat) (An : Nat → Nat) (Ak : Nat → Nat) (At : Nat → Nat) (Ad : Nat → Nat) (kk : Int32) (tp : Nat) (rw : Nat) (rc : Nat) (sh : Nat) (sf : Nat) (de : Nat) (la : Nat → Int32) (ns : Nat) (sd : Nat) (to : Nat → Int32) (he : Nat → Int32) (sw : Nat → Int32) (nh : Nat) (ki : Nat → Int32) (te : Nat → Int32) (mi : Nat → Int32) (ar : Nat → Int32) (z : Int32) (hnh : nh ≤ 8) : Ct l G yX5_state cX5_state 2 (some (FieldType.int)) 5 [.ref o, .int 4] (wF [wMe o (An 0) (Ak 0) (At 0) (Ad 0) kk tp rw rc sh sf de, wCt G An la ns sd to he sw nh ki te mi ar z]) (some (.int (fMask (fun h_ => ¬ ar h_ = 0) nh))) (wF [wMe o (An 0) (Ak 0) (At 0) (Ad 0) kk tp rw rc sh sf de, wCt G An la ns sd to he sw nh ki te mi ar z]) := by
  refine Ct.of "GooseArms" [some (.ref o), some (.int 4)] (by decide +kernel) rfl (Nat.le_of_ble_eq_true rfl) rfl ?_
  refine J_iload_n 0 1 dX5_state_0 rfl rfl ?_
  refine J_tableIn (tgt := 72) (off := 71) 1 4 dX5_state_1 rfl (by decide +kernel) (by decide) ?_
  refine J_aload_n 72 0 dX5_state_72 rfl rfl ?_
  refine g_196 (v := .ref (An 0)) 73 0 rfl rfl dX5_state_73 ?_
  refine kb_RX5_190 (bs' := [wMe o (An 0) (Ak 0) (At 0) (Ad 0) kk tp rw rc sh sf de, wCt G An la ns sd to he sw nh ki te mi ar z]) (rest := []) (st' := [.int (fMask (fun h_ => ¬ ar h_ = 0) nh)]) 76 (c_X0_marked l G An la ns sd to he sw nh ki te mi ar z (by first | omega | assumption)) [1] 1 rfl rfl rfl [[An 0, An 1, An 2, An 3, An 4, An 5, An 6, An 7, An 8]] rfl rfl rfl rfl rfl rfl (Nat.le_of_ble_eq_true rfl) rfl dX5_state_76 ?_
  exact J_iret 79 dX5_state_79 rfl rfl
set_option maxRecDepth 100000 in
set_option maxHeartbeats 4000000 in
theorem c_X5_state_5 (l : Launch) (G : Gd) (o : Nat) (An : Nat → Nat) (Ak : Nat → Nat) (At : Nat → Nat) (Ad : Nat → Nat) (kk : Int32) (tp : Nat) (rw : Nat) (rc : Nat) (sh : Nat) (sf : Nat) (de : Nat) (la : Nat → Int32) (ns : Nat) (sd : Nat) (to : Nat → Int32) (he : Nat → Int32) (sw : Nat → Int32) (nh : Nat) (ki : Nat → Int32) (te : Nat → Int32) (mi : Nat → Int32) (ar : Nat → Int32) (z : Int32) (t_la : Nat → Int32) (t_ns : Nat) (t_sd : Nat) (t_to : Nat → Int32) (t_he : Nat → Int32) (t_sw : Nat → Int32) (t_nh : Nat) (t_ki : Nat → Int32) (t_te : Nat → Int32) (t_mi : Nat → Int32) (t_ar : Nat → Int32) (t_z : Int32) (hnh : nh ≤ 8) (hns : ns ≤ 12) (hsd : sd ≤ ns) : CtP l G yX5_state cX5_state 2 (some (FieldType.int)) 5 [.ref o, .int 5] (wF [wMe o (An 0) (Ak 0) (At 0) (Ad 0) kk tp rw rc sh sf de, wCt G An la ns sd to he sw nh ki te mi ar z, wCt G At t_la t_ns t_sd t_to t_he t_sw t_nh t_ki t_te t_mi t_ar t_z]) (some (.int (nI (fAl (fAr (fun h_ => h_ < nh ∧ hasP 255 (nI h_)) la ki mi te ar to he sw sd (min 12 (ns - sd))) nh)))) (fun w_ => ∃ (j_2_la : Nat → Int32) (j_2_ns : Nat) (j_2_sd : Nat) (j_2_to : Nat → Int32) (j_2_he : Nat → Int32) (j_2_sw : Nat → Int32) (j_2_nh : Nat) (j_2_ki : Nat → Int32) (j_2_te : Nat → Int32) (j_2_mi : Nat → Int32) (j_2_ar : Nat → Int32) (j_2_z : Int32), w_ = (wF [wMe o (An 0) (Ak 0) (At 0) (Ad 0) kk tp rw rc sh sf de, wCt G An la ns sd to he sw nh ki te mi ar z, wCt G At j_2_la j_2_ns j_2_sd j_2_to j_2_he j_2_sw j_2_nh j_2_ki j_2_te j_2_mi j_2_ar j_2_z])) := by
  refine CtP.of "GooseArms" [some (.ref o), some (.int 5)] (by decide +kernel) rfl (Nat.le_of_ble_eq_true rfl) rfl ?_
  refine J_iload_n 0 1 dX5_state_0 rfl rfl ?_
  refine J_tableIn (tgt := 80) (off := 79) 1 5 dX5_state_1 rfl (by decide +kernel) (by decide) ?_
  refine J_aload_n 80 0 dX5_state_80 rfl rfl ?_
  refine kb_RX5_193 (bs' := [wMe o (An 0) (Ak 0) (At 0) (Ad 0) kk tp rw rc sh sf de, wCt G An la ns sd to he sw nh ki te mi ar z, wCt G At la ns (sd + min 12 (ns - sd)) to he sw nh ki (fTe (fun h_ => h_ < nh ∧ hasP 255 (nI h_)) la ki mi te ar to he sw sd (min 12 (ns - sd))) mi (fAr (fun h_ => h_ < nh ∧ hasP 255 (nI h_)) la ki mi te ar to he sw sd (min 12 (ns - sd))) z]) (rest := []) (st' := [.int (nI (fAl (fAr (fun h_ => h_ < nh ∧ hasP 255 (nI h_)) la ki mi te ar to he sw sd (min 12 (ns - sd))) nh))]) 81 (c_X5_alike l G o An Ak At Ad kk tp rw rc sh sf de la ns sd to he sw nh ki te mi ar z t_la t_ns t_sd t_to t_he t_sw t_nh t_ki t_te t_mi t_ar t_z (by first | omega | assumption) (by first | omega | assumption) (by first | omega | assumption)) [0, 1, 2] 0 rfl rfl rfl [[o], [An 0, An 1, An 2, An 3, An 4, An 5, An 6, An 7, An 8], [At 0, At 1, At 2, At 3, At 4, At 5, At 6, At 7, At 8]] rfl rfl rfl rfl rfl rfl (Nat.le_of_ble_eq_true rfl) rfl dX5_state_81 ?_
  exact J_iretP 84 dX5_state_84 rfl ⟨la, ns, (sd + min 12 (ns - sd)), to, he, sw, nh, ki, (fTe (fun h_ => h_ < nh ∧ hasP 255 (nI h_)) la ki mi te ar to he sw sd (min 12 (ns - sd))), mi, (fAr (fun h_ => h_ < nh ∧ hasP 255 (nI h_)) la ki mi te ar to he sw sd (min 12 (ns - sd))), z, rfl⟩
set_option maxRecDepth 100000 in
set_option maxHeartbeats 4000000 in
theorem c_X5_state_badw (l : Launch) (G : Gd) (w : Int32) (o : Nat) (An : Nat → Nat) (Ak : Nat → Nat) (At : Nat → Nat) (Ad : Nat → Nat) (kk : Int32) (tp : Nat) (rw : Nat) (rc : Nat) (sh : Nat) (sf : Nat) (de : Nat) (hw : ¬ (0 ≤ w ∧ w ≤ 5)) : Ct l G yX5_state cX5_state 2 (some (FieldType.int)) 5 [.ref o, .int w] (wF [wMe o (An 0) (Ak 0) (At 0) (Ad 0) kk tp rw rc sh sf de]) (some (.int (-1))) (wF [wMe o (An 0) (Ak 0) (At 0) (Ad 0) kk tp rw rc sh sf de]) := by
  refine Ct.of "GooseArms" [some (.ref o), some (.int w)] (by decide +kernel) rfl (Nat.le_of_ble_eq_true rfl) rfl ?_
  refine J_iload_n 0 1 dX5_state_0 rfl rfl ?_
  by_cases e_1_ : w = 0
  · skip
    exact (hw (by rw [e_1_]; decide)).elim
  by_cases e_2_ : w = 1
  · skip
    exact (hw (by rw [e_2_]; decide)).elim
  by_cases e_3_ : w = 2
  · skip
    exact (hw (by rw [e_3_]; decide)).elim
  by_cases e_4_ : w = 3
  · skip
    exact (hw (by rw [e_4_]; decide)).elim
  by_cases e_5_ : w = 4
  · skip
    exact (hw (by rw [e_5_]; decide)).elim
  by_cases e_6_ : w = 5
  · skip
    exact (hw (by rw [e_6_]; decide)).elim
  refine J_tableOut (tgt := 85) 1 dX5_state_1 (by have q0_ := lv_neT (a := 0) e_1_ (by decide); have q1_ := lv_neT (a := 1) e_2_ (by decide); have q2_ := lv_neT (a := 2) e_3_ (by decide); have q3_ := lv_neT (a := 3) e_4_ (by decide); have q4_ := lv_neT (a := 4) e_5_ (by decide); have q5_ := lv_neT (a := 5) e_6_ (by decide); omega) (by decide) ?_
  refine J_iconst (v := (-1)) 85 dX5_state_85 rfl ?_
  exact J_iret 86 dX5_state_86 rfl rfl
set_option maxRecDepth 100000 in
set_option maxHeartbeats 4000000 in
theorem c_X5_chills_bad (l : Launch) (G : Gd) (n : Int32) (o : Nat) (An : Nat → Nat) (Ak : Nat → Nat) (At : Nat → Nat) (Ad : Nat → Nat) (kk : Int32) (tp : Nat) (rw : Nat) (rc : Nat) (sh : Nat) (sf : Nat) (de : Nat) (hw : ¬ (1 ≤ n ∧ n ≤ 30)) : Ct l G yX5_chills cX5_chills 6 (some (FieldType.int)) 3 [.ref o, .int n] (wF [wMe o (An 0) (Ak 0) (At 0) (Ad 0) kk tp rw rc sh sf de]) (some (.int (-1))) (wF [wMe o (An 0) (Ak 0) (At 0) (Ad 0) kk tp rw rc sh sf de]) := by
  refine Ct.of "GooseArms" [some (.ref o), some (.int n), none, none, none, none] (by decide +kernel) rfl (Nat.le_of_ble_eq_true rfl) rfl ?_
  refine J_iload_n 0 1 dX5_chills_0 rfl rfl ?_
  refine J_iconst (v := 1) 1 dX5_chills_1 rfl ?_
  refine J_bipush (v := 30) 2 dX5_chills_2 rfl ?_
  refine kb_RX5_65 (bs' := [wMe o (An 0) (Ak 0) (At 0) (Ad 0) kk tp rw rc sh sf de]) (rest := []) (st' := [.int 0]) 4 (c_X5_within_f l G n 1 30 (by first | omega | assumption)) [] rfl rfl [] rfl rfl rfl rfl rfl rfl (Nat.le_of_ble_eq_true rfl) rfl dX5_chills_4 ?_
  refine J_if_ne (tgt := 12) 7 dX5_chills_7 (by decide) (fun c_1_ => absurd c_1_ (by decide)) (fun _ => ?_)
  refine J_iconst (v := (-1)) 10 dX5_chills_10 rfl ?_
  exact J_iret 11 dX5_chills_11 rfl rfl
set_option maxRecDepth 100000 in
set_option maxHeartbeats 4000000 in
theorem c_X5_chills_zero (l : Launch) (G : Gd) (n : Nat) (o : Nat) (An : Nat → Nat) (Ak : Nat → Nat) (At : Nat → Nat) (Ad : Nat → Nat) (kk : Int32) (tp : Nat) (rw : Nat) (rc : Nat) (sh : Nat) (sf : Nat) (de : Nat) (la : Nat → Int32) (ns : Nat) (sd : Nat) (to : Nat → Int32) (he : Nat → Int32) (sw : Nat → Int32) (nh : Nat) (ki : Nat → Int32) (te : Nat → Int32) (mi : Nat → Int32) (ar : Nat → Int32) (z : Int32) (hnh : nh ≤ 8) (hns : ns ≤ 12) (hsd : sd ≤ ns) (h1 : 1 ≤ n) (h30 : n ≤ 30) (hz : sd = ns) : Ct l G yX5_chills cX5_chills 6 (some (FieldType.int)) 3 [.ref o, .int (nI n)] (wF [wMe o (An 0) (Ak 0) (At 0) (Ad 0) kk tp rw rc sh sf de, wCt G An la ns sd to he sw nh ki te mi ar z]) (some (.int 0)) (wF [wMe o (An 0) (Ak 0) (At 0) (Ad 0) kk tp rw rc sh sf de, wCt G An la ns sd to he sw nh ki te mi ar z]) := by
  refine Ct.of "GooseArms" [some (.ref o), some (.int (nI n)), none, none, none, none] (by decide +kernel) rfl (Nat.le_of_ble_eq_true rfl) rfl ?_
  refine J_iload_n 0 1 dX5_chills_0 rfl rfl ?_
  refine J_iconst (v := 1) 1 dX5_chills_1 rfl ?_
  refine J_bipush (v := 30) 2 dX5_chills_2 rfl ?_
  refine kb_RX5_65 (bs' := [wMe o (An 0) (Ak 0) (At 0) (Ad 0) kk tp rw rc sh sf de, wCt G An la ns sd to he sw nh ki te mi ar z]) (rest := []) (st' := [.int 1]) 4 (c_X5_within_t l G (nI n) 1 30 (inM_t (a := 1) (m := 30) h1 h30 (by decide))) [] rfl rfl [] rfl rfl rfl rfl rfl rfl (Nat.le_of_ble_eq_true rfl) rfl dX5_chills_4 ?_
  refine J_if_ne (tgt := 12) 7 dX5_chills_7 (by decide) (fun _ => ?_) (fun c_1_ => absurd c_1_ (by decide))
  refine J_aload_n 12 0 dX5_chills_12 rfl rfl ?_
  refine g_196 (v := .ref (An 0)) 13 0 rfl rfl dX5_chills_13 ?_
  refine kb_RX5_150 (bs' := [wMe o (An 0) (Ak 0) (At 0) (Ad 0) kk tp rw rc sh sf de, wCt G An la ns sd to he sw nh ki te mi ar z]) (rest := []) (st' := [.int (nI (ns - sd))]) 16 (c_X0_left l G An la ns sd to he sw nh ki te mi ar z (by first | omega | assumption)) [1] 1 rfl rfl rfl [[An 0, An 1, An 2, An 3, An 4, An 5, An 6, An 7, An 8]] rfl rfl rfl rfl rfl rfl (Nat.le_of_ble_eq_true rfl) rfl dX5_chills_16 ?_
  refine J_if_ne (tgt := 24) 19 dX5_chills_19 (by decide) (fun c_2_ => ?_) (fun c_2_ => ?_)
  · skip
    have c_2_ : ¬ (ns - sd) = 0 := fun z_ => c_2_ ((nI_eq (a := (ns - sd)) (b := 0) (by omega) (by omega)).mpr z_)
    omega
  · skip
    have c_2_ : (ns - sd) = 0 := (nI_eq (a := (ns - sd)) (b := 0) (by omega) (by omega)).mp c_2_
    refine J_iconst (v := 0) 22 dX5_chills_22 rfl ?_
    exact J_iret 23 dX5_chills_23 rfl rfl
set_option maxRecDepth 100000 in
set_option maxHeartbeats 4000000 in
theorem c_X5_chills_ok (l : Launch) (G : Gd) (n : Nat) (o : Nat) (An : Nat → Nat) (Ak : Nat → Nat) (At : Nat → Nat) (Ad : Nat → Nat) (kk : Int32) (tp : Nat) (rw : Nat) (rc : Nat) (sh : Nat) (sf : Nat) (de : Nat) (la : Nat → Int32) (ns : Nat) (sd : Nat) (to : Nat → Int32) (he : Nat → Int32) (sw : Nat → Int32) (nh : Nat) (ki : Nat → Int32) (te : Nat → Int32) (mi : Nat → Int32) (ar : Nat → Int32) (z : Int32) (t_la : Nat → Int32) (t_ns : Nat) (t_sd : Nat) (t_to : Nat → Int32) (t_he : Nat → Int32) (t_sw : Nat → Int32) (t_nh : Nat) (t_ki : Nat → Int32) (t_te : Nat → Int32) (t_mi : Nat → Int32) (t_ar : Nat → Int32) (t_z : Int32) (hnh : nh ≤ 8) (hns : ns ≤ 12) (h1 : 1 ≤ n) (h30 : n ≤ 30) (hz : sd < ns) (h0 : 0 < nh) : CtP l G yX5_chills cX5_chills 6 (some (FieldType.int)) 3 [.ref o, .int (nI n)] (wF [wMe o (An 0) (Ak 0) (At 0) (Ad 0) kk tp rw rc sh sf de, wCt G An la ns sd to he sw nh ki te mi ar z, wCt G At t_la t_ns t_sd t_to t_he t_sw t_nh t_ki t_te t_mi t_ar t_z]) (some (.int (nI (fCnt (fun i_ => ¬ ((fMask (fun h_ => hasP 255 (nI h_) ∧ fUp la ki mi te to he sw sd h_) nh) ||| fDrawn (fZn z i_) (la 3) nh) = (fMask (fun h_ => hasP 255 (nI h_) ∧ fUp la ki mi te to he sw sd h_) nh)) n)))) (fun w_ => ∃ (j_2_la : Nat → Int32) (j_2_ns : Nat) (j_2_sd : Nat) (j_2_to : Nat → Int32) (j_2_he : Nat → Int32) (j_2_sw : Nat → Int32) (j_2_nh : Nat) (j_2_ki : Nat → Int32) (j_2_te : Nat → Int32) (j_2_mi : Nat → Int32) (j_2_ar : Nat → Int32) (j_2_z : Int32), w_ = (wF [wMe o (An 0) (Ak 0) (At 0) (Ad 0) kk tp rw rc sh sf de, wCt G An la ns sd to he sw nh ki te mi ar z, wCt G At j_2_la j_2_ns j_2_sd j_2_to j_2_he j_2_sw j_2_nh j_2_ki j_2_te j_2_mi j_2_ar j_2_z])) := by
  refine CtP.of "GooseArms" [some (.ref o), some (.int (nI n)), none, none, none, none] (by decide +kernel) rfl (Nat.le_of_ble_eq_true rfl) rfl ?_
  have cut_43_ : ∀ (n_43_ : Nat) (i : Nat) (x : Nat) (z1 : Int32), (n - i < n_43_) → (hi : i ≤ n) → (hx : x = fCnt (fun i_ => ¬ ((fMask (fun h_ => hasP 255 (nI h_) ∧ fUp la ki mi te to he sw sd h_) nh) ||| fDrawn (fZn z i_) (la 3) nh) = (fMask (fun h_ => hasP 255 (nI h_) ∧ fUp la ki mi te to he sw sd h_) nh)) i) → (hz1 : z1 = fZn z i) → J l G (bdP G 3 (some (FieldType.int)) (some (.int (nI (fCnt (fun i_ => ¬ ((fMask (fun h_ => hasP 255 (nI h_) ∧ fUp la ki mi te to he sw sd h_) nh) ||| fDrawn (fZn z i_) (la 3) nh) = (fMask (fun h_ => hasP 255 (nI h_) ∧ fUp la ki mi te to he sw sd h_) nh)) n)))) (fun w_ => ∃ (j_2_la : Nat → Int32) (j_2_ns : Nat) (j_2_sd : Nat) (j_2_to : Nat → Int32) (j_2_he : Nat → Int32) (j_2_sw : Nat → Int32) (j_2_nh : Nat) (j_2_ki : Nat → Int32) (j_2_te : Nat → Int32) (j_2_mi : Nat → Int32) (j_2_ar : Nat → Int32) (j_2_z : Int32), w_ = (wF [wMe o (An 0) (Ak 0) (At 0) (Ad 0) kk tp rw rc sh sf de, wCt G An la ns sd to he sw nh ki te mi ar z, wCt G At j_2_la j_2_ns j_2_sd j_2_to j_2_he j_2_sw j_2_nh j_2_ki j_2_te j_2_mi j_2_ar j_2_z]))) cX5_chills 6 "GooseArms" 43 [some (.ref o), some (.int (nI n)), some (.ref (At 0)), some (.int (fMask (fun h_ => hasP 255 (nI h_) ∧ fUp la ki mi te to he sw sd h_) nh)), some (.int (nI x)), some (.int (nI i))] [] (wF [wMe o (An 0) (Ak 0) (At 0) (Ad 0) kk tp rw rc sh sf de, wCt G An la ns sd to he sw nh ki te mi ar z, wCt G At la ns sd to he sw nh ki te mi ar z1]) := by
    intro n_43_
    induction n_43_ with
    | zero => intro i x z1 m_43_; exact absurd m_43_ (Nat.not_lt_zero _)
    | succ n_43_ ih_43_ =>
      intro i x z1 m_43_ hi hx hz1
      refine J_iload 43 dX5_chills_43 rfl ?_
      refine J_iload_n 45 1 dX5_chills_45 rfl rfl ?_
      refine J_icmp_ge (tgt := 68) 46 dX5_chills_46 (by decide) (fun c_1_ => ?_) (fun c_1_ => ?_)
      · skip
        have c_1_ : n ≤ i := (nI_leI (a := n) (b := i) (by omega) (by omega)).mp c_1_
        refine J_iload 68 dX5_chills_68 rfl ?_
        exact J_iretP 70 dX5_chills_70 (congrArg (fun x_ => some (Value.int x_)) (by rw [hx, show i = n by omega])) ⟨la, ns, sd, to, he, sw, nh, ki, te, mi, ar, z1, rfl⟩
      · skip
        have c_1_ : ¬ n ≤ i := fun z_ => c_1_ ((nI_leI (a := n) (b := i) (by omega) (by omega)).mpr z_)
        refine J_iload_n 49 3 dX5_chills_49 rfl rfl ?_
        refine J_aload_n 50 2 dX5_chills_50 rfl rfl ?_
        refine kb_RX5_173 (bs' := [wMe o (An 0) (Ak 0) (At 0) (Ad 0) kk tp rw rc sh sf de, wCt G An la ns sd to he sw nh ki te mi ar z, wCt G At la ns sd to he sw nh ki te mi ar (fZ (fZ z1))]) (rest := [.int (fMask (fun h_ => hasP 255 (nI h_) ∧ fUp la ki mi te to he sw sd h_) nh)]) (st' := [.int (fDrawn z1 (la 3) nh), .int (fMask (fun h_ => hasP 255 (nI h_) ∧ fUp la ki mi te to he sw sd h_) nh)]) 51 (c_X0_drawnSet l G At la ns sd to he sw nh ki te mi ar z1 (by first | omega | assumption) (by first | omega | assumption)) [2] 10 rfl rfl rfl [[At 0, At 1, At 2, At 3, At 4, At 5, At 6, At 7, At 8]] rfl rfl rfl rfl rfl rfl (Nat.le_of_ble_eq_true rfl) rfl dX5_chills_51 ?_
        refine J_ior 54 dX5_chills_54 ?_
        refine J_iload_n 55 3 dX5_chills_55 rfl rfl ?_
        refine J_icmp_eq (tgt := 62) 56 dX5_chills_56 (by decide) (fun c_2_ => ?_) (fun c_2_ => ?_)
        · skip
          refine J_iinc (v := nI (i + 1)) (lv' := [some (.ref o), some (.int (nI n)), some (.ref (At 0)), some (.int (fMask (fun h_ => hasP 255 (nI h_) ∧ fUp la ki mi te to he sw sd h_) nh)), some (.int (nI x)), some (.int (nI (i + 1)))]) 62 dX5_chills_62 rfl (nI_add _ 1) (by decide) rfl ?_
          refine J_goto (tgt := 43) 65 dX5_chills_65 (by decide) ?_
          exact ih_43_ (i + 1) x (fZ (fZ z1)) (by omega) (by first | assumption | omega | rfl) (by first | rfl | exact fCnt_st hx (by rw [← hz1]; assumption) | exact fCnt_sf hx (fun z_ => z_ (by rw [← hz1]; assumption))) (by first | exact fZn_s hz1 | rfl)
        · skip
          refine J_iinc (v := nI (x + 1)) (lv' := [some (.ref o), some (.int (nI n)), some (.ref (At 0)), some (.int (fMask (fun h_ => hasP 255 (nI h_) ∧ fUp la ki mi te to he sw sd h_) nh)), some (.int (nI (x + 1))), some (.int (nI i))]) 59 dX5_chills_59 rfl (nI_add _ 1) (by decide) rfl ?_
          refine J_iinc (v := nI (i + 1)) (lv' := [some (.ref o), some (.int (nI n)), some (.ref (At 0)), some (.int (fMask (fun h_ => hasP 255 (nI h_) ∧ fUp la ki mi te to he sw sd h_) nh)), some (.int (nI (x + 1))), some (.int (nI (i + 1)))]) 62 dX5_chills_62 rfl (nI_add _ 1) (by decide) rfl ?_
          refine J_goto (tgt := 43) 65 dX5_chills_65 (by decide) ?_
          exact ih_43_ (i + 1) (x + 1) (fZ (fZ z1)) (by omega) (by first | assumption | omega | rfl) (by first | rfl | exact fCnt_st hx (by rw [← hz1]; assumption) | exact fCnt_sf hx (fun z_ => z_ (by rw [← hz1]; assumption))) (by first | exact fZn_s hz1 | rfl)
  refine J_iload_n 0 1 dX5_chills_0 rfl rfl ?_
  refine J_iconst (v := 1) 1 dX5_chills_1 rfl ?_
  refine J_bipush (v := 30) 2 dX5_chills_2 rfl ?_
  refine kb_RX5_65 (bs' := [wMe o (An 0) (Ak 0) (At 0) (Ad 0) kk tp rw rc sh sf de, wCt G An la ns sd to he sw nh ki te mi ar z, wCt G At t_la t_ns t_sd t_to t_he t_sw t_nh t_ki t_te t_mi t_ar t_z]) (rest := []) (st' := [.int 1]) 4 (c_X5_within_t l G (nI n) 1 30 (inM_t (a := 1) (m := 30) h1 h30 (by decide))) [] rfl rfl [] rfl rfl rfl rfl rfl rfl (Nat.le_of_ble_eq_true rfl) rfl dX5_chills_4 ?_
  refine J_if_ne (tgt := 12) 7 dX5_chills_7 (by decide) (fun _ => ?_) (fun c_3_ => absurd c_3_ (by decide))
  refine J_aload_n 12 0 dX5_chills_12 rfl rfl ?_
  refine g_196 (v := .ref (An 0)) 13 0 rfl rfl dX5_chills_13 ?_
  refine kb_RX5_150 (bs' := [wMe o (An 0) (Ak 0) (At 0) (Ad 0) kk tp rw rc sh sf de, wCt G An la ns sd to he sw nh ki te mi ar z, wCt G At t_la t_ns t_sd t_to t_he t_sw t_nh t_ki t_te t_mi t_ar t_z]) (rest := []) (st' := [.int (nI (ns - sd))]) 16 (c_X0_left l G An la ns sd to he sw nh ki te mi ar z (by first | omega | assumption)) [1] 1 rfl rfl rfl [[An 0, An 1, An 2, An 3, An 4, An 5, An 6, An 7, An 8]] rfl rfl rfl rfl rfl rfl (Nat.le_of_ble_eq_true rfl) rfl dX5_chills_16 ?_
  refine J_if_ne (tgt := 24) 19 dX5_chills_19 (by decide) (fun c_4_ => ?_) (fun c_4_ => ?_)
  · skip
    have c_4_ : ¬ (ns - sd) = 0 := fun z_ => c_4_ ((nI_eq (a := (ns - sd)) (b := 0) (by omega) (by omega)).mpr z_)
    refine J_aload_n 24 0 dX5_chills_24 rfl rfl ?_
    refine kb_RX5_180 (bs' := [wMe o (An 0) (Ak 0) (At 0) (Ad 0) kk tp rw rc sh sf de, wCt G An la ns sd to he sw nh ki te mi ar z, wCt G At la ns sd to he sw nh ki te mi ar z]) (rest := []) (st' := [.ref (At 0)]) 25 (c_X5_tried l G o An Ak At Ad kk tp rw rc sh sf de la ns sd to he sw nh ki te mi ar z t_la t_ns t_sd t_to t_he t_sw t_nh t_ki t_te t_mi t_ar t_z ) [0, 1, 2] 0 rfl rfl rfl [[o], [An 0, An 1, An 2, An 3, An 4, An 5, An 6, An 7, An 8], [At 0, At 1, At 2, At 3, At 4, At 5, At 6, At 7, At 8]] rfl rfl rfl rfl rfl rfl (Nat.le_of_ble_eq_true rfl) rfl dX5_chills_25 ?_
    refine J_astore_n (lv' := [some (.ref o), some (.int (nI n)), some (.ref (At 0)), none, none, none]) 28 2 dX5_chills_28 rfl (by decide) rfl ?_
    refine J_aload_n 29 2 dX5_chills_29 rfl rfl ?_
    refine J_sipush (v := 255) 30 dX5_chills_30 rfl ?_
    refine kb_RX5_170 (bs' := [wMe o (An 0) (Ak 0) (At 0) (Ad 0) kk tp rw rc sh sf de, wCt G An la ns sd to he sw nh ki te mi ar z, wCt G At la ns sd to he sw nh ki te mi ar z]) (rest := []) (st' := [.int (fMask (fun h_ => hasP 255 (nI h_) ∧ fUp la ki mi te to he sw sd h_) nh)]) 33 (c_X0_raisedNext l G 255 At la ns sd to he sw nh ki te mi ar z (by first | omega | assumption) (by first | omega | assumption) (by first | omega | assumption)) [2] 10 rfl rfl rfl [[At 0, At 1, At 2, At 3, At 4, At 5, At 6, At 7, At 8]] rfl rfl rfl rfl rfl rfl (Nat.le_of_ble_eq_true rfl) rfl dX5_chills_33 ?_
    refine J_istore_n (lv' := [some (.ref o), some (.int (nI n)), some (.ref (At 0)), some (.int (fMask (fun h_ => hasP 255 (nI h_) ∧ fUp la ki mi te to he sw sd h_) nh)), none, none]) 36 3 dX5_chills_36 rfl (by decide) rfl ?_
    refine J_iconst (v := 0) 37 dX5_chills_37 rfl ?_
    refine J_istore (lv' := [some (.ref o), some (.int (nI n)), some (.ref (At 0)), some (.int (fMask (fun h_ => hasP 255 (nI h_) ∧ fUp la ki mi te to he sw sd h_) nh)), some (.int 0), none]) 38 dX5_chills_38 (by decide) rfl ?_
    refine J_iconst (v := 0) 40 dX5_chills_40 rfl ?_
    refine J_istore (lv' := [some (.ref o), some (.int (nI n)), some (.ref (At 0)), some (.int (fMask (fun h_ => hasP 255 (nI h_) ∧ fUp la ki mi te to he sw sd h_) nh)), some (.int 0), some (.int 0)]) 41 dX5_chills_41 (by decide) rfl ?_
    exact cut_43_ ((n - 0) + 1) 0 0 z (Nat.lt_succ_self _) (by first | assumption | omega | rfl) (by first | rfl | exact fCnt_st hx (by rw [← hz1]; assumption) | exact fCnt_sf hx (fun z_ => z_ (by rw [← hz1]; assumption))) (by first | exact fZn_s hz1 | rfl)
  · skip
    have c_4_ : (ns - sd) = 0 := (nI_eq (a := (ns - sd)) (b := 0) (by omega) (by omega)).mp c_4_
    omega
set_option maxRecDepth 100000 in
set_option maxHeartbeats 4000000 in
theorem c_X5_chills_0 (l : Launch) (G : Gd) (n : Nat) (o : Nat) (An : Nat → Nat) (Ak : Nat → Nat) (At : Nat → Nat) (Ad : Nat → Nat) (kk : Int32) (tp : Nat) (rw : Nat) (rc : Nat) (sh : Nat) (sf : Nat) (de : Nat) (la : Nat → Int32) (ns : Nat) (sd : Nat) (to : Nat → Int32) (he : Nat → Int32) (sw : Nat → Int32) (nh : Nat) (ki : Nat → Int32) (te : Nat → Int32) (mi : Nat → Int32) (ar : Nat → Int32) (z : Int32) (t_la : Nat → Int32) (t_ns : Nat) (t_sd : Nat) (t_to : Nat → Int32) (t_he : Nat → Int32) (t_sw : Nat → Int32) (t_nh : Nat) (t_ki : Nat → Int32) (t_te : Nat → Int32) (t_mi : Nat → Int32) (t_ar : Nat → Int32) (t_z : Int32) (hnh : nh ≤ 8) (hns : ns ≤ 12) (h1 : 1 ≤ n) (h30 : n ≤ 30) (hz : sd < ns) (h0 : nh = 0) : CtP l G yX5_chills cX5_chills 6 (some (FieldType.int)) 3 [.ref o, .int (nI n)] (wF [wMe o (An 0) (Ak 0) (At 0) (Ad 0) kk tp rw rc sh sf de, wCt G An la ns sd to he sw nh ki te mi ar z, wCt G At t_la t_ns t_sd t_to t_he t_sw t_nh t_ki t_te t_mi t_ar t_z]) (some (.int (nI (fCnt (fun i_ => ¬ ((fMask (fun h_ => hasP 255 (nI h_) ∧ fUp la ki mi te to he sw sd h_) nh) ||| 0) = (fMask (fun h_ => hasP 255 (nI h_) ∧ fUp la ki mi te to he sw sd h_) nh)) n)))) (fun w_ => ∃ (j_2_la : Nat → Int32) (j_2_ns : Nat) (j_2_sd : Nat) (j_2_to : Nat → Int32) (j_2_he : Nat → Int32) (j_2_sw : Nat → Int32) (j_2_nh : Nat) (j_2_ki : Nat → Int32) (j_2_te : Nat → Int32) (j_2_mi : Nat → Int32) (j_2_ar : Nat → Int32) (j_2_z : Int32), w_ = (wF [wMe o (An 0) (Ak 0) (At 0) (Ad 0) kk tp rw rc sh sf de, wCt G An la ns sd to he sw nh ki te mi ar z, wCt G At j_2_la j_2_ns j_2_sd j_2_to j_2_he j_2_sw j_2_nh j_2_ki j_2_te j_2_mi j_2_ar j_2_z])) := by
  refine CtP.of "GooseArms" [some (.ref o), some (.int (nI n)), none, none, none, none] (by decide +kernel) rfl (Nat.le_of_ble_eq_true rfl) rfl ?_
  have cut_43_ : ∀ (n_43_ : Nat) (i : Nat) (x : Nat), (n - i < n_43_) → (hi : i ≤ n) → (hx : x = fCnt (fun i_ => ¬ ((fMask (fun h_ => hasP 255 (nI h_) ∧ fUp la ki mi te to he sw sd h_) nh) ||| 0) = (fMask (fun h_ => hasP 255 (nI h_) ∧ fUp la ki mi te to he sw sd h_) nh)) i) → J l G (bdP G 3 (some (FieldType.int)) (some (.int (nI (fCnt (fun i_ => ¬ ((fMask (fun h_ => hasP 255 (nI h_) ∧ fUp la ki mi te to he sw sd h_) nh) ||| 0) = (fMask (fun h_ => hasP 255 (nI h_) ∧ fUp la ki mi te to he sw sd h_) nh)) n)))) (fun w_ => ∃ (j_2_la : Nat → Int32) (j_2_ns : Nat) (j_2_sd : Nat) (j_2_to : Nat → Int32) (j_2_he : Nat → Int32) (j_2_sw : Nat → Int32) (j_2_nh : Nat) (j_2_ki : Nat → Int32) (j_2_te : Nat → Int32) (j_2_mi : Nat → Int32) (j_2_ar : Nat → Int32) (j_2_z : Int32), w_ = (wF [wMe o (An 0) (Ak 0) (At 0) (Ad 0) kk tp rw rc sh sf de, wCt G An la ns sd to he sw nh ki te mi ar z, wCt G At j_2_la j_2_ns j_2_sd j_2_to j_2_he j_2_sw j_2_nh j_2_ki j_2_te j_2_mi j_2_ar j_2_z]))) cX5_chills 6 "GooseArms" 43 [some (.ref o), some (.int (nI n)), some (.ref (At 0)), some (.int (fMask (fun h_ => hasP 255 (nI h_) ∧ fUp la ki mi te to he sw sd h_) nh)), some (.int (nI x)), some (.int (nI i))] [] (wF [wMe o (An 0) (Ak 0) (At 0) (Ad 0) kk tp rw rc sh sf de, wCt G An la ns sd to he sw nh ki te mi ar z, wCt G At la ns sd to he sw nh ki te mi ar z]) := by
    intro n_43_
    induction n_43_ with
    | zero => intro i x m_43_; exact absurd m_43_ (Nat.not_lt_zero _)
    | succ n_43_ ih_43_ =>
      intro i x m_43_ hi hx
      refine J_iload 43 dX5_chills_43 rfl ?_
      refine J_iload_n 45 1 dX5_chills_45 rfl rfl ?_
      refine J_icmp_ge (tgt := 68) 46 dX5_chills_46 (by decide) (fun c_1_ => ?_) (fun c_1_ => ?_)
      · skip
        have c_1_ : n ≤ i := (nI_leI (a := n) (b := i) (by omega) (by omega)).mp c_1_
        refine J_iload 68 dX5_chills_68 rfl ?_
        exact J_iretP 70 dX5_chills_70 (congrArg (fun x_ => some (Value.int x_)) (by rw [hx, show i = n by omega])) ⟨la, ns, sd, to, he, sw, nh, ki, te, mi, ar, z, rfl⟩
      · skip
        have c_1_ : ¬ n ≤ i := fun z_ => c_1_ ((nI_leI (a := n) (b := i) (by omega) (by omega)).mpr z_)
        refine J_iload_n 49 3 dX5_chills_49 rfl rfl ?_
        refine J_aload_n 50 2 dX5_chills_50 rfl rfl ?_
        refine kb_RX5_173 (bs' := [wMe o (An 0) (Ak 0) (At 0) (Ad 0) kk tp rw rc sh sf de, wCt G An la ns sd to he sw nh ki te mi ar z, wCt G At la ns sd to he sw nh ki te mi ar z]) (rest := [.int (fMask (fun h_ => hasP 255 (nI h_) ∧ fUp la ki mi te to he sw sd h_) nh)]) (st' := [.int 0, .int (fMask (fun h_ => hasP 255 (nI h_) ∧ fUp la ki mi te to he sw sd h_) nh)]) 51 (c_X0_drawnSet_0 l G At la ns sd to he sw nh ki te mi ar z (by first | omega | assumption)) [2] 10 rfl rfl rfl [[At 0, At 1, At 2, At 3, At 4, At 5, At 6, At 7, At 8]] rfl rfl rfl rfl rfl rfl (Nat.le_of_ble_eq_true rfl) rfl dX5_chills_51 ?_
        refine J_ior 54 dX5_chills_54 ?_
        refine J_iload_n 55 3 dX5_chills_55 rfl rfl ?_
        refine J_icmp_eq (tgt := 62) 56 dX5_chills_56 (by decide) (fun c_2_ => ?_) (fun c_2_ => ?_)
        · skip
          refine J_iinc (v := nI (i + 1)) (lv' := [some (.ref o), some (.int (nI n)), some (.ref (At 0)), some (.int (fMask (fun h_ => hasP 255 (nI h_) ∧ fUp la ki mi te to he sw sd h_) nh)), some (.int (nI x)), some (.int (nI (i + 1)))]) 62 dX5_chills_62 rfl (nI_add _ 1) (by decide) rfl ?_
          refine J_goto (tgt := 43) 65 dX5_chills_65 (by decide) ?_
          exact ih_43_ (i + 1) x (by omega) (by first | assumption | omega | rfl) (by first | rfl | exact fCnt_st hx (by assumption) | exact fCnt_sf hx (fun z_ => z_ (by assumption)))
        · skip
          refine J_iinc (v := nI (x + 1)) (lv' := [some (.ref o), some (.int (nI n)), some (.ref (At 0)), some (.int (fMask (fun h_ => hasP 255 (nI h_) ∧ fUp la ki mi te to he sw sd h_) nh)), some (.int (nI (x + 1))), some (.int (nI i))]) 59 dX5_chills_59 rfl (nI_add _ 1) (by decide) rfl ?_
          refine J_iinc (v := nI (i + 1)) (lv' := [some (.ref o), some (.int (nI n)), some (.ref (At 0)), some (.int (fMask (fun h_ => hasP 255 (nI h_) ∧ fUp la ki mi te to he sw sd h_) nh)), some (.int (nI (x + 1))), some (.int (nI (i + 1)))]) 62 dX5_chills_62 rfl (nI_add _ 1) (by decide) rfl ?_
          refine J_goto (tgt := 43) 65 dX5_chills_65 (by decide) ?_
          exact ih_43_ (i + 1) (x + 1) (by omega) (by first | assumption | omega | rfl) (by first | rfl | exact fCnt_st hx (by assumption) | exact fCnt_sf hx (fun z_ => z_ (by assumption)))
  refine J_iload_n 0 1 dX5_chills_0 rfl rfl ?_
  refine J_iconst (v := 1) 1 dX5_chills_1 rfl ?_
  refine J_bipush (v := 30) 2 dX5_chills_2 rfl ?_
  refine kb_RX5_65 (bs' := [wMe o (An 0) (Ak 0) (At 0) (Ad 0) kk tp rw rc sh sf de, wCt G An la ns sd to he sw nh ki te mi ar z, wCt G At t_la t_ns t_sd t_to t_he t_sw t_nh t_ki t_te t_mi t_ar t_z]) (rest := []) (st' := [.int 1]) 4 (c_X5_within_t l G (nI n) 1 30 (inM_t (a := 1) (m := 30) h1 h30 (by decide))) [] rfl rfl [] rfl rfl rfl rfl rfl rfl (Nat.le_of_ble_eq_true rfl) rfl dX5_chills_4 ?_
  refine J_if_ne (tgt := 12) 7 dX5_chills_7 (by decide) (fun _ => ?_) (fun c_3_ => absurd c_3_ (by decide))
  refine J_aload_n 12 0 dX5_chills_12 rfl rfl ?_
  refine g_196 (v := .ref (An 0)) 13 0 rfl rfl dX5_chills_13 ?_
  refine kb_RX5_150 (bs' := [wMe o (An 0) (Ak 0) (At 0) (Ad 0) kk tp rw rc sh sf de, wCt G An la ns sd to he sw nh ki te mi ar z, wCt G At t_la t_ns t_sd t_to t_he t_sw t_nh t_ki t_te t_mi t_ar t_z]) (rest := []) (st' := [.int (nI (ns - sd))]) 16 (c_X0_left l G An la ns sd to he sw nh ki te mi ar z (by first | omega | assumption)) [1] 1 rfl rfl rfl [[An 0, An 1, An 2, An 3, An 4, An 5, An 6, An 7, An 8]] rfl rfl rfl rfl rfl rfl (Nat.le_of_ble_eq_true rfl) rfl dX5_chills_16 ?_
  refine J_if_ne (tgt := 24) 19 dX5_chills_19 (by decide) (fun c_4_ => ?_) (fun c_4_ => ?_)
  · skip
    have c_4_ : ¬ (ns - sd) = 0 := fun z_ => c_4_ ((nI_eq (a := (ns - sd)) (b := 0) (by omega) (by omega)).mpr z_)
    refine J_aload_n 24 0 dX5_chills_24 rfl rfl ?_
    refine kb_RX5_180 (bs' := [wMe o (An 0) (Ak 0) (At 0) (Ad 0) kk tp rw rc sh sf de, wCt G An la ns sd to he sw nh ki te mi ar z, wCt G At la ns sd to he sw nh ki te mi ar z]) (rest := []) (st' := [.ref (At 0)]) 25 (c_X5_tried l G o An Ak At Ad kk tp rw rc sh sf de la ns sd to he sw nh ki te mi ar z t_la t_ns t_sd t_to t_he t_sw t_nh t_ki t_te t_mi t_ar t_z ) [0, 1, 2] 0 rfl rfl rfl [[o], [An 0, An 1, An 2, An 3, An 4, An 5, An 6, An 7, An 8], [At 0, At 1, At 2, At 3, At 4, At 5, At 6, At 7, At 8]] rfl rfl rfl rfl rfl rfl (Nat.le_of_ble_eq_true rfl) rfl dX5_chills_25 ?_
    refine J_astore_n (lv' := [some (.ref o), some (.int (nI n)), some (.ref (At 0)), none, none, none]) 28 2 dX5_chills_28 rfl (by decide) rfl ?_
    refine J_aload_n 29 2 dX5_chills_29 rfl rfl ?_
    refine J_sipush (v := 255) 30 dX5_chills_30 rfl ?_
    refine kb_RX5_170 (bs' := [wMe o (An 0) (Ak 0) (At 0) (Ad 0) kk tp rw rc sh sf de, wCt G An la ns sd to he sw nh ki te mi ar z, wCt G At la ns sd to he sw nh ki te mi ar z]) (rest := []) (st' := [.int (fMask (fun h_ => hasP 255 (nI h_) ∧ fUp la ki mi te to he sw sd h_) nh)]) 33 (c_X0_raisedNext l G 255 At la ns sd to he sw nh ki te mi ar z (by first | omega | assumption) (by first | omega | assumption) (by first | omega | assumption)) [2] 10 rfl rfl rfl [[At 0, At 1, At 2, At 3, At 4, At 5, At 6, At 7, At 8]] rfl rfl rfl rfl rfl rfl (Nat.le_of_ble_eq_true rfl) rfl dX5_chills_33 ?_
    refine J_istore_n (lv' := [some (.ref o), some (.int (nI n)), some (.ref (At 0)), some (.int (fMask (fun h_ => hasP 255 (nI h_) ∧ fUp la ki mi te to he sw sd h_) nh)), none, none]) 36 3 dX5_chills_36 rfl (by decide) rfl ?_
    refine J_iconst (v := 0) 37 dX5_chills_37 rfl ?_
    refine J_istore (lv' := [some (.ref o), some (.int (nI n)), some (.ref (At 0)), some (.int (fMask (fun h_ => hasP 255 (nI h_) ∧ fUp la ki mi te to he sw sd h_) nh)), some (.int 0), none]) 38 dX5_chills_38 (by decide) rfl ?_
    refine J_iconst (v := 0) 40 dX5_chills_40 rfl ?_
    refine J_istore (lv' := [some (.ref o), some (.int (nI n)), some (.ref (At 0)), some (.int (fMask (fun h_ => hasP 255 (nI h_) ∧ fUp la ki mi te to he sw sd h_) nh)), some (.int 0), some (.int 0)]) 41 dX5_chills_41 (by decide) rfl ?_
    exact cut_43_ ((n - 0) + 1) 0 0 (Nat.lt_succ_self _) (by first | assumption | omega | rfl) (by first | rfl | exact fCnt_st hx (by assumption) | exact fCnt_sf hx (fun z_ => z_ (by assumption)))
  · skip
    have c_4_ : (ns - sd) = 0 := (nI_eq (a := (ns - sd)) (b := 0) (by omega) (by omega)).mp c_4_
    omega
set_option maxRecDepth 100000 in
set_option maxHeartbeats 4000000 in
theorem c_X5_arm_bad (l : Launch) (G : Gd) (h : Int32) (n : Int32) (o : Nat) (An : Nat → Nat) (Ak : Nat → Nat) (At : Nat → Nat) (Ad : Nat → Nat) (kk : Int32) (tp : Nat) (rw : Nat) (rc : Nat) (sh : Nat) (sf : Nat) (de : Nat) (la : Nat → Int32) (ns : Nat) (sd : Nat) (to : Nat → Int32) (he : Nat → Int32) (sw : Nat → Int32) (nh : Nat) (ki : Nat → Int32) (te : Nat → Int32) (mi : Nat → Int32) (ar : Nat → Int32) (z : Int32) (hw : ¬ (0 ≤ h ∧ h ≤ nI nh - 1)) : Ct l G yX5_arm cX5_arm 4 (some (FieldType.int)) 4 [.ref o, .int h, .int n] (wF [wMe o (An 0) (Ak 0) (At 0) (Ad 0) kk tp rw rc sh sf de, wCt G An la ns sd to he sw nh ki te mi ar z]) (some (.int (-1))) (wF [wMe o (An 0) (Ak 0) (At 0) (Ad 0) kk tp rw rc sh sf de, wCt G An la ns sd to he sw nh ki te mi ar z]) := by
  refine Ct.of "GooseArms" [some (.ref o), some (.int h), some (.int n), none] (by decide +kernel) rfl (Nat.le_of_ble_eq_true rfl) rfl ?_
  refine J_aload_n 0 0 dX5_arm_0 rfl rfl ?_
  refine J_iload_n 1 1 dX5_arm_1 rfl rfl ?_
  refine kb_RX5_135 (bs' := [wMe o (An 0) (Ak 0) (At 0) (Ad 0) kk tp rw rc sh sf de, wCt G An la ns sd to he sw nh ki te mi ar z]) (rest := []) (st' := [.int 0]) 2 (c_X5_isHearer_f l G h o An Ak At Ad kk tp rw rc sh sf de la ns sd to he sw nh ki te mi ar z (by first | omega | assumption)) [0, 1] 0 rfl rfl rfl [[o], [An 0, An 1, An 2, An 3, An 4, An 5, An 6, An 7, An 8]] rfl rfl rfl rfl rfl rfl (Nat.le_of_ble_eq_true rfl) rfl dX5_arm_2 ?_
  refine J_if_eq (tgt := 18) 5 dX5_arm_5 (by decide) (fun _ => ?_) (fun c_1_ => absurd c_1_ (by decide))
  refine J_iconst (v := (-1)) 18 dX5_arm_18 rfl ?_
  exact J_iret 19 dX5_arm_19 rfl rfl
set_option maxRecDepth 100000 in
set_option maxHeartbeats 4000000 in
theorem c_X5_arm_badv (l : Launch) (G : Gd) (h : Nat) (n : Int32) (o : Nat) (An : Nat → Nat) (Ak : Nat → Nat) (At : Nat → Nat) (Ad : Nat → Nat) (kk : Int32) (tp : Nat) (rw : Nat) (rc : Nat) (sh : Nat) (sf : Nat) (de : Nat) (la : Nat → Int32) (ns : Nat) (sd : Nat) (to : Nat → Int32) (he : Nat → Int32) (sw : Nat → Int32) (nh : Nat) (ki : Nat → Int32) (te : Nat → Int32) (mi : Nat → Int32) (ar : Nat → Int32) (z : Int32) (hh : h < nh) (hnh : nh ≤ 8) (hw : ¬ (0 ≤ n ∧ n ≤ 60)) : Ct l G yX5_arm cX5_arm 4 (some (FieldType.int)) 4 [.ref o, .int (nI h), .int n] (wF [wMe o (An 0) (Ak 0) (At 0) (Ad 0) kk tp rw rc sh sf de, wCt G An la ns sd to he sw nh ki te mi ar z]) (some (.int (-1))) (wF [wMe o (An 0) (Ak 0) (At 0) (Ad 0) kk tp rw rc sh sf de, wCt G An la ns sd to he sw nh ki te mi ar z]) := by
  refine Ct.of "GooseArms" [some (.ref o), some (.int (nI h)), some (.int n), none] (by decide +kernel) rfl (Nat.le_of_ble_eq_true rfl) rfl ?_
  refine J_aload_n 0 0 dX5_arm_0 rfl rfl ?_
  refine J_iload_n 1 1 dX5_arm_1 rfl rfl ?_
  refine kb_RX5_135 (bs' := [wMe o (An 0) (Ak 0) (At 0) (Ad 0) kk tp rw rc sh sf de, wCt G An la ns sd to he sw nh ki te mi ar z]) (rest := []) (st' := [.int 1]) 2 (c_X5_isHearer_t l G h o An Ak At Ad kk tp rw rc sh sf de la ns sd to he sw nh ki te mi ar z (by assumption) (by omega)) [0, 1] 0 rfl rfl rfl [[o], [An 0, An 1, An 2, An 3, An 4, An 5, An 6, An 7, An 8]] rfl rfl rfl rfl rfl rfl (Nat.le_of_ble_eq_true rfl) rfl dX5_arm_2 ?_
  refine J_if_eq (tgt := 18) 5 dX5_arm_5 (by decide) (fun c_1_ => absurd c_1_ (by decide)) (fun _ => ?_)
  refine J_iload_n 8 2 dX5_arm_8 rfl rfl ?_
  refine J_iconst (v := 0) 9 dX5_arm_9 rfl ?_
  refine J_bipush (v := 60) 10 dX5_arm_10 rfl ?_
  refine kb_RX5_65 (bs' := [wMe o (An 0) (Ak 0) (At 0) (Ad 0) kk tp rw rc sh sf de, wCt G An la ns sd to he sw nh ki te mi ar z]) (rest := []) (st' := [.int 0]) 12 (c_X5_within_f l G n 0 60 (by first | omega | assumption)) [] rfl rfl [] rfl rfl rfl rfl rfl rfl (Nat.le_of_ble_eq_true rfl) rfl dX5_arm_12 ?_
  refine J_if_ne (tgt := 20) 15 dX5_arm_15 (by decide) (fun c_2_ => absurd c_2_ (by decide)) (fun _ => ?_)
  refine J_iconst (v := (-1)) 18 dX5_arm_18 rfl ?_
  exact J_iret 19 dX5_arm_19 rfl rfl
set_option maxRecDepth 100000 in
set_option maxHeartbeats 4000000 in
theorem c_X5_arm_ok (l : Launch) (G : Gd) (h : Nat) (n : Nat) (o : Nat) (An : Nat → Nat) (Ak : Nat → Nat) (At : Nat → Nat) (Ad : Nat → Nat) (kk : Int32) (tp : Nat) (rw : Nat) (rc : Nat) (sh : Nat) (sf : Nat) (de : Nat) (la : Nat → Int32) (ns : Nat) (sd : Nat) (to : Nat → Int32) (he : Nat → Int32) (sw : Nat → Int32) (nh : Nat) (ki : Nat → Int32) (te : Nat → Int32) (mi : Nat → Int32) (ar : Nat → Int32) (z : Int32) (t_la : Nat → Int32) (t_ns : Nat) (t_sd : Nat) (t_to : Nat → Int32) (t_he : Nat → Int32) (t_sw : Nat → Int32) (t_nh : Nat) (t_ki : Nat → Int32) (t_te : Nat → Int32) (t_mi : Nat → Int32) (t_ar : Nat → Int32) (t_z : Int32) (hh : h < nh) (hnh : nh ≤ 8) (hns : ns ≤ 12) (hsd : sd ≤ ns) (hn : n ≤ 60) : CtP l G yX5_arm cX5_arm 4 (some (FieldType.int)) 4 [.ref o, .int (nI h), .int (nI n)] (wF [wMe o (An 0) (Ak 0) (At 0) (Ad 0) kk tp rw rc sh sf de, wCt G An la ns sd to he sw nh ki te mi ar z, wCt G At t_la t_ns t_sd t_to t_he t_sw t_nh t_ki t_te t_mi t_ar t_z]) (some (.int (fAr (fun h_ => h_ < nh ∧ hasP (onlyI (nI h)) (nI h_)) la ki mi te ar to he sw sd (min n (ns - sd)) h))) (fun w_ => ∃ (j_2_la : Nat → Int32) (j_2_ns : Nat) (j_2_sd : Nat) (j_2_to : Nat → Int32) (j_2_he : Nat → Int32) (j_2_sw : Nat → Int32) (j_2_nh : Nat) (j_2_ki : Nat → Int32) (j_2_te : Nat → Int32) (j_2_mi : Nat → Int32) (j_2_ar : Nat → Int32) (j_2_z : Int32), w_ = (wF [wMe o (An 0) (Ak 0) (At 0) (Ad 0) kk tp rw rc sh sf de, wCt G An la ns sd to he sw nh ki te mi ar z, wCt G At j_2_la j_2_ns j_2_sd j_2_to j_2_he j_2_sw j_2_nh j_2_ki j_2_te j_2_mi j_2_ar j_2_z])) := by
  refine CtP.of "GooseArms" [some (.ref o), some (.int (nI h)), some (.int (nI n)), none] (by decide +kernel) rfl (Nat.le_of_ble_eq_true rfl) rfl ?_
  refine J_aload_n 0 0 dX5_arm_0 rfl rfl ?_
  refine J_iload_n 1 1 dX5_arm_1 rfl rfl ?_
  refine kb_RX5_135 (bs' := [wMe o (An 0) (Ak 0) (At 0) (Ad 0) kk tp rw rc sh sf de, wCt G An la ns sd to he sw nh ki te mi ar z, wCt G At t_la t_ns t_sd t_to t_he t_sw t_nh t_ki t_te t_mi t_ar t_z]) (rest := []) (st' := [.int 1]) 2 (c_X5_isHearer_t l G h o An Ak At Ad kk tp rw rc sh sf de la ns sd to he sw nh ki te mi ar z (by assumption) (by omega)) [0, 1] 0 rfl rfl rfl [[o], [An 0, An 1, An 2, An 3, An 4, An 5, An 6, An 7, An 8]] rfl rfl rfl rfl rfl rfl (Nat.le_of_ble_eq_true rfl) rfl dX5_arm_2 ?_
  refine J_if_eq (tgt := 18) 5 dX5_arm_5 (by decide) (fun c_1_ => absurd c_1_ (by decide)) (fun _ => ?_)
  refine J_iload_n 8 2 dX5_arm_8 rfl rfl ?_
  refine J_iconst (v := 0) 9 dX5_arm_9 rfl ?_
  refine J_bipush (v := 60) 10 dX5_arm_10 rfl ?_
  refine kb_RX5_65 (bs' := [wMe o (An 0) (Ak 0) (At 0) (Ad 0) kk tp rw rc sh sf de, wCt G An la ns sd to he sw nh ki te mi ar z, wCt G At t_la t_ns t_sd t_to t_he t_sw t_nh t_ki t_te t_mi t_ar t_z]) (rest := []) (st' := [.int 1]) 12 (c_X5_within_t l G (nI n) 0 60 (inM_t (a := 0) (m := 60) (Nat.zero_le _) hn (by decide))) [] rfl rfl [] rfl rfl rfl rfl rfl rfl (Nat.le_of_ble_eq_true rfl) rfl dX5_arm_12 ?_
  refine J_if_ne (tgt := 20) 15 dX5_arm_15 (by decide) (fun _ => ?_) (fun c_2_ => absurd c_2_ (by decide))
  refine J_aload_n 20 0 dX5_arm_20 rfl rfl ?_
  refine kb_RX5_180 (bs' := [wMe o (An 0) (Ak 0) (At 0) (Ad 0) kk tp rw rc sh sf de, wCt G An la ns sd to he sw nh ki te mi ar z, wCt G At la ns sd to he sw nh ki te mi ar z]) (rest := []) (st' := [.ref (At 0)]) 21 (c_X5_tried l G o An Ak At Ad kk tp rw rc sh sf de la ns sd to he sw nh ki te mi ar z t_la t_ns t_sd t_to t_he t_sw t_nh t_ki t_te t_mi t_ar t_z ) [0, 1, 2] 0 rfl rfl rfl [[o], [An 0, An 1, An 2, An 3, An 4, An 5, An 6, An 7, An 8], [At 0, At 1, At 2, At 3, At 4, At 5, At 6, At 7, At 8]] rfl rfl rfl rfl rfl rfl (Nat.le_of_ble_eq_true rfl) rfl dX5_arm_21 ?_
  refine J_astore_n (lv' := [some (.ref o), some (.int (nI h)), some (.int (nI n)), some (.ref (At 0))]) 24 3 dX5_arm_24 rfl (by decide) rfl ?_
  refine J_aload_n 25 3 dX5_arm_25 rfl rfl ?_
  refine J_iload_n 26 2 dX5_arm_26 rfl rfl ?_
  refine J_iload_n 27 1 dX5_arm_27 rfl rfl ?_
  refine kb_RX5_196 (bs' := [wMe o (An 0) (Ak 0) (At 0) (Ad 0) kk tp rw rc sh sf de, wCt G An la ns sd to he sw nh ki te mi ar z, wCt G At la ns sd to he sw nh ki te mi ar z]) (rest := [.int (nI n), .ref (At 0)]) (st' := [.int (onlyI (nI h)), .int (nI n), .ref (At 0)]) 28 (c_X5_only l G (nI h) ) [] rfl rfl [] rfl rfl rfl rfl rfl rfl (Nat.le_of_ble_eq_true rfl) rfl dX5_arm_28 ?_
  refine kb_RX5_167 (bs' := [wMe o (An 0) (Ak 0) (At 0) (Ad 0) kk tp rw rc sh sf de, wCt G An la ns sd to he sw nh ki te mi ar z, wCt G At la ns (sd + min n (ns - sd)) to he sw nh ki (fTe (fun h_ => h_ < nh ∧ hasP (onlyI (nI h)) (nI h_)) la ki mi te ar to he sw sd (min n (ns - sd))) mi (fAr (fun h_ => h_ < nh ∧ hasP (onlyI (nI h)) (nI h_)) la ki mi te ar to he sw sd (min n (ns - sd))) z]) (rest := []) (st' := [.int (nI (min n (ns - sd)))]) 31 (c_X0_sayMore l G n (onlyI (nI h)) At la ns sd to he sw nh ki te mi ar z (by first | omega | assumption) (by first | omega | assumption) (by first | omega | assumption) (by first | omega | assumption)) [2] 10 rfl rfl rfl [[At 0, At 1, At 2, At 3, At 4, At 5, At 6, At 7, At 8]] rfl rfl rfl rfl rfl rfl (Nat.le_of_ble_eq_true rfl) rfl dX5_arm_31 ?_
  refine J_pop 34 dX5_arm_34 rfl ?_
  refine J_aload_n 35 3 dX5_arm_35 rfl rfl ?_
  refine g_62 (v := .ref (At 8)) 36 10 rfl rfl dX5_arm_36 ?_
  refine J_iload_n 39 1 dX5_arm_39 rfl rfl ?_
  refine J_iald 40 18 h rfl rfl (by omega) (by decide) dX5_arm_40 ?_
  exact J_iretP 41 dX5_arm_41 (congrArg (fun x_ => some (Value.int x_)) (by first | rfl | omega | grind)) ⟨la, ns, (sd + min n (ns - sd)), to, he, sw, nh, ki, (fTe (fun h_ => h_ < nh ∧ hasP (onlyI (nI h)) (nI h_)) la ki mi te ar to he sw sd (min n (ns - sd))), mi, (fAr (fun h_ => h_ < nh ∧ hasP (onlyI (nI h)) (nI h_)) la ki mi te ar to he sw sd (min n (ns - sd))), z, rfl⟩
set_option maxRecDepth 100000 in
set_option maxHeartbeats 4000000 in
theorem c_X5_raised_bad (l : Launch) (G : Gd) (h : Int32) (o : Nat) (An : Nat → Nat) (Ak : Nat → Nat) (At : Nat → Nat) (Ad : Nat → Nat) (kk : Int32) (tp : Nat) (rw : Nat) (rc : Nat) (sh : Nat) (sf : Nat) (de : Nat) (la : Nat → Int32) (ns : Nat) (sd : Nat) (to : Nat → Int32) (he : Nat → Int32) (sw : Nat → Int32) (nh : Nat) (ki : Nat → Int32) (te : Nat → Int32) (mi : Nat → Int32) (ar : Nat → Int32) (z : Int32) (hw : ¬ (0 ≤ h ∧ h ≤ nI nh - 1)) : Ct l G yX5_raised cX5_raised 4 (some (FieldType.int)) 4 [.ref o, .int h] (wF [wMe o (An 0) (Ak 0) (At 0) (Ad 0) kk tp rw rc sh sf de, wCt G An la ns sd to he sw nh ki te mi ar z]) (some (.int (-1))) (wF [wMe o (An 0) (Ak 0) (At 0) (Ad 0) kk tp rw rc sh sf de, wCt G An la ns sd to he sw nh ki te mi ar z]) := by
  refine Ct.of "GooseArms" [some (.ref o), some (.int h), none, none] (by decide +kernel) rfl (Nat.le_of_ble_eq_true rfl) rfl ?_
  refine J_aload_n 0 0 dX5_raised_0 rfl rfl ?_
  refine J_iload_n 1 1 dX5_raised_1 rfl rfl ?_
  refine kb_RX5_135 (bs' := [wMe o (An 0) (Ak 0) (At 0) (Ad 0) kk tp rw rc sh sf de, wCt G An la ns sd to he sw nh ki te mi ar z]) (rest := []) (st' := [.int 0]) 2 (c_X5_isHearer_f l G h o An Ak At Ad kk tp rw rc sh sf de la ns sd to he sw nh ki te mi ar z (by first | omega | assumption)) [0, 1] 0 rfl rfl rfl [[o], [An 0, An 1, An 2, An 3, An 4, An 5, An 6, An 7, An 8]] rfl rfl rfl rfl rfl rfl (Nat.le_of_ble_eq_true rfl) rfl dX5_raised_2 ?_
  refine J_if_ne (tgt := 10) 5 dX5_raised_5 (by decide) (fun c_1_ => absurd c_1_ (by decide)) (fun _ => ?_)
  refine J_iconst (v := (-1)) 8 dX5_raised_8 rfl ?_
  exact J_iret 9 dX5_raised_9 rfl rfl
set_option maxRecDepth 100000 in
set_option maxHeartbeats 4000000 in
theorem c_X5_raised_ok (l : Launch) (G : Gd) (h : Nat) (o : Nat) (An : Nat → Nat) (Ak : Nat → Nat) (At : Nat → Nat) (Ad : Nat → Nat) (kk : Int32) (tp : Nat) (rw : Nat) (rc : Nat) (sh : Nat) (sf : Nat) (de : Nat) (la : Nat → Int32) (ns : Nat) (sd : Nat) (to : Nat → Int32) (he : Nat → Int32) (sw : Nat → Int32) (nh : Nat) (ki : Nat → Int32) (te : Nat → Int32) (mi : Nat → Int32) (ar : Nat → Int32) (z : Int32) (t_la : Nat → Int32) (t_ns : Nat) (t_sd : Nat) (t_to : Nat → Int32) (t_he : Nat → Int32) (t_sw : Nat → Int32) (t_nh : Nat) (t_ki : Nat → Int32) (t_te : Nat → Int32) (t_mi : Nat → Int32) (t_ar : Nat → Int32) (t_z : Int32) (hh : h < nh) (hnh : nh ≤ 8) (hns : ns ≤ 12) (hsd : sd ≤ ns) : CtP l G yX5_raised cX5_raised 4 (some (FieldType.int)) 4 [.ref o, .int (nI h)] (wF [wMe o (An 0) (Ak 0) (At 0) (Ad 0) kk tp rw rc sh sf de, wCt G An la ns sd to he sw nh ki te mi ar z, wCt G At t_la t_ns t_sd t_to t_he t_sw t_nh t_ki t_te t_mi t_ar t_z]) (some (.int (fFst (fun i_ => ¬ (evTA la (ki h) (mi h) to he sw sd (min i_ (ns - sd)) (te h, ar h)).2 = 0) 13 0))) (fun w_ => ∃ (j_2_la : Nat → Int32) (j_2_ns : Nat) (j_2_sd : Nat) (j_2_to : Nat → Int32) (j_2_he : Nat → Int32) (j_2_sw : Nat → Int32) (j_2_nh : Nat) (j_2_ki : Nat → Int32) (j_2_te : Nat → Int32) (j_2_mi : Nat → Int32) (j_2_ar : Nat → Int32) (j_2_z : Int32), w_ = (wF [wMe o (An 0) (Ak 0) (At 0) (Ad 0) kk tp rw rc sh sf de, wCt G An la ns sd to he sw nh ki te mi ar z, wCt G At j_2_la j_2_ns j_2_sd j_2_to j_2_he j_2_sw j_2_nh j_2_ki j_2_te j_2_mi j_2_ar j_2_z])) := by
  refine CtP.of "GooseArms" [some (.ref o), some (.int (nI h)), none, none] (by decide +kernel) rfl (Nat.le_of_ble_eq_true rfl) rfl ?_
  have cut_17_ : ∀ (n_17_ : Nat) (i : Nat) (te1 : Nat → Int32) (ar1 : Nat → Int32) (sd1 : Nat), (13 - i < n_17_) → (hi : i ≤ 13) → (hte : te1 = fTe (fun h_ => h_ < nh ∧ hasP (onlyI (nI h)) (nI h_)) la ki mi te ar to he sw sd (min i (ns - sd))) → (har : ar1 = fAr (fun h_ => h_ < nh ∧ hasP (onlyI (nI h)) (nI h_)) la ki mi te ar to he sw sd (min i (ns - sd))) → (hs1 : sd1 = sd + min i (ns - sd)) → (hf : fFst (fun i_ => ¬ (evTA la (ki h) (mi h) to he sw sd (min i_ (ns - sd)) (te h, ar h)).2 = 0) 13 0 = fFst (fun i_ => ¬ (evTA la (ki h) (mi h) to he sw sd (min i_ (ns - sd)) (te h, ar h)).2 = 0) (13 - i) i) → J l G (bdP G 4 (some (FieldType.int)) (some (.int (fFst (fun i_ => ¬ (evTA la (ki h) (mi h) to he sw sd (min i_ (ns - sd)) (te h, ar h)).2 = 0) 13 0))) (fun w_ => ∃ (j_2_la : Nat → Int32) (j_2_ns : Nat) (j_2_sd : Nat) (j_2_to : Nat → Int32) (j_2_he : Nat → Int32) (j_2_sw : Nat → Int32) (j_2_nh : Nat) (j_2_ki : Nat → Int32) (j_2_te : Nat → Int32) (j_2_mi : Nat → Int32) (j_2_ar : Nat → Int32) (j_2_z : Int32), w_ = (wF [wMe o (An 0) (Ak 0) (At 0) (Ad 0) kk tp rw rc sh sf de, wCt G An la ns sd to he sw nh ki te mi ar z, wCt G At j_2_la j_2_ns j_2_sd j_2_to j_2_he j_2_sw j_2_nh j_2_ki j_2_te j_2_mi j_2_ar j_2_z]))) cX5_raised 4 "GooseArms" 17 [some (.ref o), some (.int (nI h)), some (.ref (At 0)), some (.int (nI i))] [] (wF [wMe o (An 0) (Ak 0) (At 0) (Ad 0) kk tp rw rc sh sf de, wCt G An la ns sd to he sw nh ki te mi ar z, wCt G At la ns sd1 to he sw nh ki te1 mi ar1 z]) := by
    intro n_17_
    induction n_17_ with
    | zero => intro i te1 ar1 sd1 m_17_; exact absurd m_17_ (Nat.not_lt_zero _)
    | succ n_17_ ih_17_ =>
      intro i te1 ar1 sd1 m_17_ hi hte har hs1 hf
      refine J_iload_n 17 3 dX5_raised_17 rfl rfl ?_
      refine J_bipush (v := 12) 18 dX5_raised_18 rfl ?_
      refine J_icmp_gt (tgt := 50) 20 dX5_raised_20 (by decide) (fun c_1_ => ?_) (fun c_1_ => ?_)
      · skip
        have c_1_ : 12 < i := (nI_ltI (a := 12) (b := i) (by omega) (by omega)).mp c_1_
        refine J_bipush (v := (-3)) 50 dX5_raised_50 rfl ?_
        exact J_iretP 52 dX5_raised_52 (congrArg (fun x_ => some (Value.int x_)) (by rw [hf]; exact (fFst_e (by omega)).symm)) ⟨la, ns, sd1, to, he, sw, nh, ki, te1, mi, ar1, z, rfl⟩
      · skip
        have c_1_ : ¬ 12 < i := fun z_ => c_1_ ((nI_ltI (a := 12) (b := i) (by omega) (by omega)).mpr z_)
        refine J_aload_n 23 2 dX5_raised_23 rfl rfl ?_
        refine g_62 (v := .ref (At 8)) 24 10 rfl rfl dX5_raised_24 ?_
        refine J_iload_n 27 1 dX5_raised_27 rfl rfl ?_
        refine J_iald 28 18 h rfl rfl (by omega) (by decide) dX5_raised_28 ?_
        refine J_if_eq (tgt := 34) 29 dX5_raised_29 (by decide) (fun c_2_ => ?_) (fun c_2_ => ?_)
        · skip
          refine J_aload_n 34 2 dX5_raised_34 rfl rfl ?_
          refine J_iconst (v := 1) 35 dX5_raised_35 rfl ?_
          refine J_iload_n 36 1 dX5_raised_36 rfl rfl ?_
          refine kb_RX5_196 (bs' := [wMe o (An 0) (Ak 0) (At 0) (Ad 0) kk tp rw rc sh sf de, wCt G An la ns sd to he sw nh ki te mi ar z, wCt G At la ns sd1 to he sw nh ki te1 mi ar1 z]) (rest := [.int 1, .ref (At 0)]) (st' := [.int (onlyI (nI h)), .int 1, .ref (At 0)]) 37 (c_X5_only l G (nI h) ) [] rfl rfl [] rfl rfl rfl rfl rfl rfl (Nat.le_of_ble_eq_true rfl) rfl dX5_raised_37 ?_
          refine kb_RX5_167 (bs' := [wMe o (An 0) (Ak 0) (At 0) (Ad 0) kk tp rw rc sh sf de, wCt G An la ns sd to he sw nh ki te mi ar z, wCt G At la ns (sd1 + min 1 (ns - sd1)) to he sw nh ki (fTe (fun h_ => h_ < nh ∧ hasP (onlyI (nI h)) (nI h_)) la ki mi te1 ar1 to he sw sd1 (min 1 (ns - sd1))) mi (fAr (fun h_ => h_ < nh ∧ hasP (onlyI (nI h)) (nI h_)) la ki mi te1 ar1 to he sw sd1 (min 1 (ns - sd1))) z]) (rest := []) (st' := [.int (nI (min 1 (ns - sd1)))]) 40 (c_X0_sayMore l G 1 (onlyI (nI h)) At la ns sd1 to he sw nh ki te1 mi ar1 z (by first | omega | assumption) (by first | omega | assumption) (by first | omega | assumption) (by first | omega | assumption)) [2] 10 rfl rfl rfl [[At 0, At 1, At 2, At 3, At 4, At 5, At 6, At 7, At 8]] rfl rfl rfl rfl rfl rfl (Nat.le_of_ble_eq_true rfl) rfl dX5_raised_40 ?_
          refine J_pop 43 dX5_raised_43 rfl ?_
          refine J_iinc (v := nI (i + 1)) (lv' := [some (.ref o), some (.int (nI h)), some (.ref (At 0)), some (.int (nI (i + 1)))]) 44 dX5_raised_44 rfl (nI_add _ 1) (by decide) rfl ?_
          refine J_goto (tgt := 17) 47 dX5_raised_47 (by decide) ?_
          exact ih_17_ (i + 1) (fTe (fun h_ => h_ < nh ∧ hasP (onlyI (nI h)) (nI h_)) la ki mi te1 ar1 to he sw sd1 (min 1 (ns - sd1))) (fAr (fun h_ => h_ < nh ∧ hasP (onlyI (nI h)) (nI h_)) la ki mi te1 ar1 to he sw sd1 (min 1 (ns - sd1))) (sd1 + min 1 (ns - sd1)) (by omega) (by first | assumption | omega | rfl) (by first | (rw [Nat.zero_min]; exact fTe_0) | exact (fTA_c hte har hs1 _).1.trans (by rw [show min i (ns - sd) + min 1 (ns - sd1) = min (i + 1) (ns - sd) by omega])) (by first | (rw [Nat.zero_min]; exact fAr_0) | exact (fTA_c hte har hs1 _).2.trans (by rw [show min i (ns - sd) + min 1 (ns - sd1) = min (i + 1) (ns - sd) by omega])) (by first | (rw [Nat.zero_min]; rfl) | omega) (by first | rfl | exact hf.trans (fFst_f (by omega) (fun z_ => z_ (by rw [← fAr_at (L := (fun h_ => h_ < nh ∧ hasP (onlyI (nI h)) (nI h_))) (⟨hh, (bit_all h (by omega) h (by omega)).mpr rfl⟩), ← har]; assumption))))
        · skip
          refine J_iload_n 32 3 dX5_raised_32 rfl rfl ?_
          exact J_iretP 33 dX5_raised_33 (congrArg (fun x_ => some (Value.int x_)) (by rw [hf]; exact (fFst_t (by omega) (by rw [← fAr_at (L := (fun h_ => h_ < nh ∧ hasP (onlyI (nI h)) (nI h_))) (⟨hh, (bit_all h (by omega) h (by omega)).mpr rfl⟩), ← har]; assumption)).symm)) ⟨la, ns, sd1, to, he, sw, nh, ki, te1, mi, ar1, z, rfl⟩
  refine J_aload_n 0 0 dX5_raised_0 rfl rfl ?_
  refine J_iload_n 1 1 dX5_raised_1 rfl rfl ?_
  refine kb_RX5_135 (bs' := [wMe o (An 0) (Ak 0) (At 0) (Ad 0) kk tp rw rc sh sf de, wCt G An la ns sd to he sw nh ki te mi ar z, wCt G At t_la t_ns t_sd t_to t_he t_sw t_nh t_ki t_te t_mi t_ar t_z]) (rest := []) (st' := [.int 1]) 2 (c_X5_isHearer_t l G h o An Ak At Ad kk tp rw rc sh sf de la ns sd to he sw nh ki te mi ar z (by assumption) (by omega)) [0, 1] 0 rfl rfl rfl [[o], [An 0, An 1, An 2, An 3, An 4, An 5, An 6, An 7, An 8]] rfl rfl rfl rfl rfl rfl (Nat.le_of_ble_eq_true rfl) rfl dX5_raised_2 ?_
  refine J_if_ne (tgt := 10) 5 dX5_raised_5 (by decide) (fun _ => ?_) (fun c_3_ => absurd c_3_ (by decide))
  refine J_aload_n 10 0 dX5_raised_10 rfl rfl ?_
  refine kb_RX5_180 (bs' := [wMe o (An 0) (Ak 0) (At 0) (Ad 0) kk tp rw rc sh sf de, wCt G An la ns sd to he sw nh ki te mi ar z, wCt G At la ns sd to he sw nh ki te mi ar z]) (rest := []) (st' := [.ref (At 0)]) 11 (c_X5_tried l G o An Ak At Ad kk tp rw rc sh sf de la ns sd to he sw nh ki te mi ar z t_la t_ns t_sd t_to t_he t_sw t_nh t_ki t_te t_mi t_ar t_z ) [0, 1, 2] 0 rfl rfl rfl [[o], [An 0, An 1, An 2, An 3, An 4, An 5, An 6, An 7, An 8], [At 0, At 1, At 2, At 3, At 4, At 5, At 6, At 7, At 8]] rfl rfl rfl rfl rfl rfl (Nat.le_of_ble_eq_true rfl) rfl dX5_raised_11 ?_
  refine J_astore_n (lv' := [some (.ref o), some (.int (nI h)), some (.ref (At 0)), none]) 14 2 dX5_raised_14 rfl (by decide) rfl ?_
  refine J_iconst (v := 0) 15 dX5_raised_15 rfl ?_
  refine J_istore_n (lv' := [some (.ref o), some (.int (nI h)), some (.ref (At 0)), some (.int 0)]) 16 3 dX5_raised_16 rfl (by decide) rfl ?_
  exact cut_17_ ((13 - 0) + 1) 0 te ar sd (Nat.lt_succ_self _) (by first | assumption | omega | rfl) (by first | (rw [Nat.zero_min]; exact fTe_0) | exact (fTA_c hte har hs1 _).1.trans (by rw [show min i (ns - sd) + min 1 (ns - sd1) = min (i + 1) (ns - sd) by omega])) (by first | (rw [Nat.zero_min]; exact fAr_0) | exact (fTA_c hte har hs1 _).2.trans (by rw [show min i (ns - sd) + min 1 (ns - sd1) = min (i + 1) (ns - sd) by omega])) (by first | (rw [Nat.zero_min]; rfl) | omega) (by first | rfl | exact hf.trans (fFst_f (by omega) (fun z_ => z_ (by rw [← fAr_at (L := (fun h_ => h_ < nh ∧ hasP (onlyI (nI h)) (nI h_))) (⟨hh, (bit_all h (by omega) h (by omega)).mpr rfl⟩), ← har]; assumption))))
set_option maxRecDepth 100000 in
set_option maxHeartbeats 4000000 in
theorem c_X5_right_bad (l : Launch) (G : Gd) (h : Int32) (o : Nat) (An : Nat → Nat) (Ak : Nat → Nat) (At : Nat → Nat) (Ad : Nat → Nat) (kk : Int32) (tp : Nat) (rw : Nat) (rc : Nat) (sh : Nat) (sf : Nat) (de : Nat) (la : Nat → Int32) (ns : Nat) (sd : Nat) (to : Nat → Int32) (he : Nat → Int32) (sw : Nat → Int32) (nh : Nat) (ki : Nat → Int32) (te : Nat → Int32) (mi : Nat → Int32) (ar : Nat → Int32) (z : Int32) (hw : ¬ (0 ≤ h ∧ h ≤ nI nh - 1)) : Ct l G yX5_right cX5_right 2 (some (FieldType.int)) 5 [.ref o, .int h] (wF [wMe o (An 0) (Ak 0) (At 0) (Ad 0) kk tp rw rc sh sf de, wCt G An la ns sd to he sw nh ki te mi ar z]) (some (.int (-1))) (wF [wMe o (An 0) (Ak 0) (At 0) (Ad 0) kk tp rw rc sh sf de, wCt G An la ns sd to he sw nh ki te mi ar z]) := by
  refine Ct.of "GooseArms" [some (.ref o), some (.int h)] (by decide +kernel) rfl (Nat.le_of_ble_eq_true rfl) rfl ?_
  refine J_aload_n 0 0 dX5_right_0 rfl rfl ?_
  refine J_iload_n 1 1 dX5_right_1 rfl rfl ?_
  refine kb_RX5_135 (bs' := [wMe o (An 0) (Ak 0) (At 0) (Ad 0) kk tp rw rc sh sf de, wCt G An la ns sd to he sw nh ki te mi ar z]) (rest := []) (st' := [.int 0]) 2 (c_X5_isHearer_f l G h o An Ak At Ad kk tp rw rc sh sf de la ns sd to he sw nh ki te mi ar z (by first | omega | assumption)) [0, 1] 0 rfl rfl rfl [[o], [An 0, An 1, An 2, An 3, An 4, An 5, An 6, An 7, An 8]] rfl rfl rfl rfl rfl rfl (Nat.le_of_ble_eq_true rfl) rfl dX5_right_2 ?_
  refine J_if_eq (tgt := 19) 5 dX5_right_5 (by decide) (fun _ => ?_) (fun c_1_ => absurd c_1_ (by decide))
  refine J_iconst (v := (-1)) 19 dX5_right_19 rfl ?_
  exact J_iret 20 dX5_right_20 rfl rfl
set_option maxRecDepth 100000 in
set_option maxHeartbeats 4000000 in
theorem c_X5_right_ok (l : Launch) (G : Gd) (h : Nat) (o : Nat) (An : Nat → Nat) (Ak : Nat → Nat) (At : Nat → Nat) (Ad : Nat → Nat) (kk : Int32) (tp : Nat) (rw : Nat) (rc : Nat) (sh : Nat) (sf : Nat) (de : Nat) (la : Nat → Int32) (ns : Nat) (sd : Nat) (to : Nat → Int32) (he : Nat → Int32) (sw : Nat → Int32) (nh : Nat) (ki : Nat → Int32) (te : Nat → Int32) (mi : Nat → Int32) (ar : Nat → Int32) (z : Int32) (t_la : Nat → Int32) (t_ns : Nat) (t_sd : Nat) (t_to : Nat → Int32) (t_he : Nat → Int32) (t_sw : Nat → Int32) (t_nh : Nat) (t_ki : Nat → Int32) (t_te : Nat → Int32) (t_mi : Nat → Int32) (t_ar : Nat → Int32) (t_z : Int32) (hh : h < nh) (hnh : nh ≤ 8) (hns : ns ≤ 12) (hsd : sd ≤ ns) : CtP l G yX5_right cX5_right 2 (some (FieldType.int)) 5 [.ref o, .int (nI h)] (wF [wMe o (An 0) (Ak 0) (At 0) (Ad 0) kk tp rw rc sh sf de, wCt G An la ns sd to he sw nh ki te mi ar z, wCt G At t_la t_ns t_sd t_to t_he t_sw t_nh t_ki t_te t_mi t_ar t_z]) (some (.int (nI (fRt la ki mi te ar to he sw ns sd h)))) (fun w_ => ∃ (j_2_la : Nat → Int32) (j_2_ns : Nat) (j_2_sd : Nat) (j_2_to : Nat → Int32) (j_2_he : Nat → Int32) (j_2_sw : Nat → Int32) (j_2_nh : Nat) (j_2_ki : Nat → Int32) (j_2_te : Nat → Int32) (j_2_mi : Nat → Int32) (j_2_ar : Nat → Int32) (j_2_z : Int32), w_ = (wF [wMe o (An 0) (Ak 0) (At 0) (Ad 0) kk tp rw rc sh sf de, wCt G An la ns sd to he sw nh ki te mi ar z, wCt G At j_2_la j_2_ns j_2_sd j_2_to j_2_he j_2_sw j_2_nh j_2_ki j_2_te j_2_mi j_2_ar j_2_z])) := by
  refine CtP.of "GooseArms" [some (.ref o), some (.int (nI h))] (by decide +kernel) rfl (Nat.le_of_ble_eq_true rfl) rfl ?_
  refine J_aload_n 0 0 dX5_right_0 rfl rfl ?_
  refine J_iload_n 1 1 dX5_right_1 rfl rfl ?_
  refine kb_RX5_135 (bs' := [wMe o (An 0) (Ak 0) (At 0) (Ad 0) kk tp rw rc sh sf de, wCt G An la ns sd to he sw nh ki te mi ar z, wCt G At t_la t_ns t_sd t_to t_he t_sw t_nh t_ki t_te t_mi t_ar t_z]) (rest := []) (st' := [.int 1]) 2 (c_X5_isHearer_t l G h o An Ak At Ad kk tp rw rc sh sf de la ns sd to he sw nh ki te mi ar z (by assumption) (by omega)) [0, 1] 0 rfl rfl rfl [[o], [An 0, An 1, An 2, An 3, An 4, An 5, An 6, An 7, An 8]] rfl rfl rfl rfl rfl rfl (Nat.le_of_ble_eq_true rfl) rfl dX5_right_2 ?_
  refine J_if_eq (tgt := 19) 5 dX5_right_5 (by decide) (fun c_1_ => absurd c_1_ (by decide)) (fun _ => ?_)
  refine J_aload_n 8 0 dX5_right_8 rfl rfl ?_
  refine kb_RX5_180 (bs' := [wMe o (An 0) (Ak 0) (At 0) (Ad 0) kk tp rw rc sh sf de, wCt G An la ns sd to he sw nh ki te mi ar z, wCt G At la ns sd to he sw nh ki te mi ar z]) (rest := []) (st' := [.ref (At 0)]) 9 (c_X5_tried l G o An Ak At Ad kk tp rw rc sh sf de la ns sd to he sw nh ki te mi ar z t_la t_ns t_sd t_to t_he t_sw t_nh t_ki t_te t_mi t_ar t_z ) [0, 1, 2] 0 rfl rfl rfl [[o], [An 0, An 1, An 2, An 3, An 4, An 5, An 6, An 7, An 8], [At 0, At 1, At 2, At 3, At 4, At 5, At 6, At 7, At 8]] rfl rfl rfl rfl rfl rfl (Nat.le_of_ble_eq_true rfl) rfl dX5_right_9 ?_
  refine J_iload_n 12 1 dX5_right_12 rfl rfl ?_
  refine kb_RX5_199 (bs' := [wMe o (An 0) (Ak 0) (At 0) (Ad 0) kk tp rw rc sh sf de, wCt G An la ns sd to he sw nh ki te mi ar z, wCt G At la ns (sd + min 12 (ns - sd)) to he sw nh ki (fTe (fun h_ => h_ < nh ∧ hasP (onlyI (nI h)) (nI h_)) la ki mi te ar to he sw sd (min 12 (ns - sd))) mi (fAr (fun h_ => h_ < nh ∧ hasP (onlyI (nI h)) (nI h_)) la ki mi te ar to he sw sd (min 12 (ns - sd))) z]) (rest := []) (st' := [.int (nI (fRt la ki mi te ar to he sw ns sd h))]) 13 (c_X5_rightInTheEnd l G h At la ns sd to he sw nh ki te mi ar z (by first | omega | assumption) (by first | omega | assumption) (by first | omega | assumption) (by first | omega | assumption)) [2] rfl rfl [[At 0, At 1, At 2, At 3, At 4, At 5, At 6, At 7, At 8]] rfl rfl rfl rfl rfl rfl (Nat.le_of_ble_eq_true rfl) rfl dX5_right_13 ?_
  refine J_goto (tgt := 20) 16 dX5_right_16 (by decide) ?_
  exact J_iretP 20 dX5_right_20 rfl ⟨la, ns, (sd + min 12 (ns - sd)), to, he, sw, nh, ki, (fTe (fun h_ => h_ < nh ∧ hasP (onlyI (nI h)) (nI h_)) la ki mi te ar to he sw sd (min 12 (ns - sd))), mi, (fAr (fun h_ => h_ < nh ∧ hasP (onlyI (nI h)) (nI h_)) la ki mi te ar to he sw sd (min 12 (ns - sd))), z, rfl⟩
set_option maxRecDepth 100000 in
set_option maxHeartbeats 4000000 in
theorem c_X5_topicFor_bad (l : Launch) (G : Gd) (i : Int32) (o : Nat) (An : Nat → Nat) (Ak : Nat → Nat) (At : Nat → Nat) (Ad : Nat → Nat) (kk : Int32) (tp : Nat) (rw : Nat) (rc : Nat) (sh : Nat) (sf : Nat) (de : Nat) (la : Nat → Int32) (ns : Nat) (sd : Nat) (to : Nat → Int32) (he : Nat → Int32) (sw : Nat → Int32) (nh : Nat) (ki : Nat → Int32) (te : Nat → Int32) (mi : Nat → Int32) (ar : Nat → Int32) (z : Int32) (hw : ¬ (0 ≤ i ∧ i ≤ nI ns - 1)) : Ct l G yX5_topicFor cX5_topicFor 7 (some (FieldType.int)) 4 [.ref o, .int i] (wF [wMe o (An 0) (Ak 0) (At 0) (Ad 0) kk tp rw rc sh sf de, wCt G An la ns sd to he sw nh ki te mi ar z]) (some (.int (-1))) (wF [wMe o (An 0) (Ak 0) (At 0) (Ad 0) kk tp rw rc sh sf de, wCt G An la ns sd to he sw nh ki te mi ar z]) := by
  refine Ct.of "GooseArms" [some (.ref o), some (.int i), none, none, none, none, none] (by decide +kernel) rfl (Nat.le_of_ble_eq_true rfl) rfl ?_
  refine J_aload_n 0 0 dX5_topicFor_0 rfl rfl ?_
  refine J_iload_n 1 1 dX5_topicFor_1 rfl rfl ?_
  refine kb_RX5_109 (bs' := [wMe o (An 0) (Ak 0) (At 0) (Ad 0) kk tp rw rc sh sf de, wCt G An la ns sd to he sw nh ki te mi ar z]) (rest := []) (st' := [.int 0]) 2 (c_X5_isSaying_f l G i o An Ak At Ad kk tp rw rc sh sf de la ns sd to he sw nh ki te mi ar z (by first | omega | assumption)) [0, 1] 0 rfl rfl rfl [[o], [An 0, An 1, An 2, An 3, An 4, An 5, An 6, An 7, An 8]] rfl rfl rfl rfl rfl rfl (Nat.le_of_ble_eq_true rfl) rfl dX5_topicFor_2 ?_
  refine J_if_ne (tgt := 10) 5 dX5_topicFor_5 (by decide) (fun c_1_ => absurd c_1_ (by decide)) (fun _ => ?_)
  refine J_iconst (v := (-1)) 8 dX5_topicFor_8 rfl ?_
  exact J_iret 9 dX5_topicFor_9 rfl rfl
set_option maxRecDepth 100000 in
set_option maxHeartbeats 4000000 in
theorem c_X5_topicFor_said (l : Launch) (G : Gd) (i : Nat) (o : Nat) (An : Nat → Nat) (Ak : Nat → Nat) (At : Nat → Nat) (Ad : Nat → Nat) (kk : Int32) (tp : Nat) (rw : Nat) (rc : Nat) (sh : Nat) (sf : Nat) (de : Nat) (la : Nat → Int32) (ns : Nat) (sd : Nat) (to : Nat → Int32) (he : Nat → Int32) (sw : Nat → Int32) (nh : Nat) (ki : Nat → Int32) (te : Nat → Int32) (mi : Nat → Int32) (ar : Nat → Int32) (z : Int32) (hi : i < ns) (hns : ns ≤ 12) (hsd : sd ≤ ns) (hz : i < sd) : Ct l G yX5_topicFor cX5_topicFor 7 (some (FieldType.int)) 4 [.ref o, .int (nI i)] (wF [wMe o (An 0) (Ak 0) (At 0) (Ad 0) kk tp rw rc sh sf de, wCt G An la ns sd to he sw nh ki te mi ar z]) (some (.int (-3))) (wF [wMe o (An 0) (Ak 0) (At 0) (Ad 0) kk tp rw rc sh sf de, wCt G An la ns sd to he sw nh ki te mi ar z]) := by
  refine Ct.of "GooseArms" [some (.ref o), some (.int (nI i)), none, none, none, none, none] (by decide +kernel) rfl (Nat.le_of_ble_eq_true rfl) rfl ?_
  refine J_aload_n 0 0 dX5_topicFor_0 rfl rfl ?_
  refine J_iload_n 1 1 dX5_topicFor_1 rfl rfl ?_
  refine kb_RX5_109 (bs' := [wMe o (An 0) (Ak 0) (At 0) (Ad 0) kk tp rw rc sh sf de, wCt G An la ns sd to he sw nh ki te mi ar z]) (rest := []) (st' := [.int 1]) 2 (c_X5_isSaying_t l G i o An Ak At Ad kk tp rw rc sh sf de la ns sd to he sw nh ki te mi ar z (by assumption) (by omega)) [0, 1] 0 rfl rfl rfl [[o], [An 0, An 1, An 2, An 3, An 4, An 5, An 6, An 7, An 8]] rfl rfl rfl rfl rfl rfl (Nat.le_of_ble_eq_true rfl) rfl dX5_topicFor_2 ?_
  refine J_if_ne (tgt := 10) 5 dX5_topicFor_5 (by decide) (fun _ => ?_) (fun c_1_ => absurd c_1_ (by decide))
  refine J_iload_n 10 1 dX5_topicFor_10 rfl rfl ?_
  refine J_aload_n 11 0 dX5_topicFor_11 rfl rfl ?_
  refine g_196 (v := .ref (An 0)) 12 0 rfl rfl dX5_topicFor_12 ?_
  refine g_45 (v := .int (nI sd)) 15 1 rfl rfl dX5_topicFor_15 ?_
  refine J_icmp_ge (tgt := 24) 18 dX5_topicFor_18 (by decide) (fun c_2_ => ?_) (fun c_2_ => ?_)
  · skip
    have c_2_ : sd ≤ i := (nI_leI (a := sd) (b := i) (by omega) (by omega)).mp c_2_
    omega
  · skip
    have c_2_ : ¬ sd ≤ i := fun z_ => c_2_ ((nI_leI (a := sd) (b := i) (by omega) (by omega)).mpr z_)
    refine J_bipush (v := (-3)) 21 dX5_topicFor_21 rfl ?_
    exact J_iret 23 dX5_topicFor_23 rfl rfl
set_option maxRecDepth 100000 in
set_option maxHeartbeats 4000000 in
theorem c_X5_topicFor_ok (l : Launch) (G : Gd) (i : Nat) (o : Nat) (An : Nat → Nat) (Ak : Nat → Nat) (At : Nat → Nat) (Ad : Nat → Nat) (kk : Int32) (tp : Nat) (rw : Nat) (rc : Nat) (sh : Nat) (sf : Nat) (de : Nat) (la : Nat → Int32) (ns : Nat) (sd : Nat) (to : Nat → Int32) (he : Nat → Int32) (sw : Nat → Int32) (nh : Nat) (ki : Nat → Int32) (te : Nat → Int32) (mi : Nat → Int32) (ar : Nat → Int32) (z : Int32) (t_la : Nat → Int32) (t_ns : Nat) (t_sd : Nat) (t_to : Nat → Int32) (t_he : Nat → Int32) (t_sw : Nat → Int32) (t_nh : Nat) (t_ki : Nat → Int32) (t_te : Nat → Int32) (t_mi : Nat → Int32) (t_ar : Nat → Int32) (t_z : Int32) (hi : i < ns) (hnh : nh ≤ 8) (hns : ns ≤ 12) (hsd : sd ≤ ns) (hz : sd ≤ i) : CtP l G yX5_topicFor cX5_topicFor 7 (some (FieldType.int)) 4 [.ref o, .int (nI i)] (wF [wMe o (An 0) (Ak 0) (At 0) (Ad 0) kk tp rw rc sh sf de, wCt G An la ns sd to he sw nh ki te mi ar z, wCt G At t_la t_ns t_sd t_to t_he t_sw t_nh t_ki t_te t_mi t_ar t_z]) (some (.int ((fBest 0 0 (fun j_ => fBC (fMask (fun h_ => hasP (fAr (fun h_ => h_ < nh ∧ hasP 255 (nI h_)) la ki mi te ar (upd to i (nI j_)) he sw sd (min 12 (ns - sd)) h_) (nI i)) nh)) 8).1))) (fun w_ => ∃ (j_2_la : Nat → Int32) (j_2_ns : Nat) (j_2_sd : Nat) (j_2_to : Nat → Int32) (j_2_he : Nat → Int32) (j_2_sw : Nat → Int32) (j_2_nh : Nat) (j_2_ki : Nat → Int32) (j_2_te : Nat → Int32) (j_2_mi : Nat → Int32) (j_2_ar : Nat → Int32) (j_2_z : Int32), w_ = (wF [wMe o (An 0) (Ak 0) (At 0) (Ad 0) kk tp rw rc sh sf de, wCt G An la ns sd to he sw nh ki te mi ar z, wCt G At j_2_la j_2_ns j_2_sd j_2_to j_2_he j_2_sw j_2_nh j_2_ki j_2_te j_2_mi j_2_ar j_2_z])) := by
  refine CtP.of "GooseArms" [some (.ref o), some (.int (nI i)), none, none, none, none, none] (by decide +kernel) rfl (Nat.le_of_ble_eq_true rfl) rfl ?_
  have cut_31_ : ∀ (n_31_ : Nat) (j : Nat) (b : Int32) (m : Int32) (t_la1 : Nat → Int32) (t_ns1 : Nat) (t_sd1 : Nat) (t_to1 : Nat → Int32) (t_he1 : Nat → Int32) (t_sw1 : Nat → Int32) (t_nh1 : Nat) (t_ki1 : Nat → Int32) (t_te1 : Nat → Int32) (t_mi1 : Nat → Int32) (t_ar1 : Nat → Int32) (t_z1 : Int32), (8 - j < n_31_) → (hj : j ≤ 8) → (hb : fBest 0 0 (fun j_ => fBC (fMask (fun h_ => hasP (fAr (fun h_ => h_ < nh ∧ hasP 255 (nI h_)) la ki mi te ar (upd to i (nI j_)) he sw sd (min 12 (ns - sd)) h_) (nI i)) nh)) j = (b, m)) → J l G (bdP G 4 (some (FieldType.int)) (some (.int ((fBest 0 0 (fun j_ => fBC (fMask (fun h_ => hasP (fAr (fun h_ => h_ < nh ∧ hasP 255 (nI h_)) la ki mi te ar (upd to i (nI j_)) he sw sd (min 12 (ns - sd)) h_) (nI i)) nh)) 8).1))) (fun w_ => ∃ (j_2_la : Nat → Int32) (j_2_ns : Nat) (j_2_sd : Nat) (j_2_to : Nat → Int32) (j_2_he : Nat → Int32) (j_2_sw : Nat → Int32) (j_2_nh : Nat) (j_2_ki : Nat → Int32) (j_2_te : Nat → Int32) (j_2_mi : Nat → Int32) (j_2_ar : Nat → Int32) (j_2_z : Int32), w_ = (wF [wMe o (An 0) (Ak 0) (At 0) (Ad 0) kk tp rw rc sh sf de, wCt G An la ns sd to he sw nh ki te mi ar z, wCt G At j_2_la j_2_ns j_2_sd j_2_to j_2_he j_2_sw j_2_nh j_2_ki j_2_te j_2_mi j_2_ar j_2_z]))) cX5_topicFor 7 "GooseArms" 31 [some (.ref o), some (.int (nI i)), some (.int b), some (.int m), some (.int (nI j)), none, none] [] (wF [wMe o (An 0) (Ak 0) (At 0) (Ad 0) kk tp rw rc sh sf de, wCt G An la ns sd to he sw nh ki te mi ar z, wCt G At t_la1 t_ns1 t_sd1 t_to1 t_he1 t_sw1 t_nh1 t_ki1 t_te1 t_mi1 t_ar1 t_z1]) := by
    intro n_31_
    induction n_31_ with
    | zero => intro j b m t_la1 t_ns1 t_sd1 t_to1 t_he1 t_sw1 t_nh1 t_ki1 t_te1 t_mi1 t_ar1 t_z1 m_31_; exact absurd m_31_ (Nat.not_lt_zero _)
    | succ n_31_ ih_31_ =>
      intro j b m t_la1 t_ns1 t_sd1 t_to1 t_he1 t_sw1 t_nh1 t_ki1 t_te1 t_mi1 t_ar1 t_z1 m_31_ hj hb
      refine J_iload 31 dX5_topicFor_31 rfl ?_
      refine J_bipush (v := 7) 33 dX5_topicFor_33 rfl ?_
      refine J_icmp_gt (tgt := 93) 35 dX5_topicFor_35 (by decide) (fun c_1_ => ?_) (fun c_1_ => ?_)
      · skip
        have c_1_ : 7 < j := (nI_ltI (a := 7) (b := j) (by omega) (by omega)).mp c_1_
        refine J_iload_n 93 2 dX5_topicFor_93 rfl rfl ?_
        exact J_iretP 94 dX5_topicFor_94 (congrArg (fun x_ => some (Value.int x_)) (by rw [← show j = 8 by omega, hb])) ⟨t_la1, t_ns1, t_sd1, t_to1, t_he1, t_sw1, t_nh1, t_ki1, t_te1, t_mi1, t_ar1, t_z1, rfl⟩
      · skip
        have c_1_ : ¬ 7 < j := fun z_ => c_1_ ((nI_ltI (a := 7) (b := j) (by omega) (by omega)).mpr z_)
        refine J_aload_n 38 0 dX5_topicFor_38 rfl rfl ?_
        refine kb_RX5_180 (bs' := [wMe o (An 0) (Ak 0) (At 0) (Ad 0) kk tp rw rc sh sf de, wCt G An la ns sd to he sw nh ki te mi ar z, wCt G At la ns sd to he sw nh ki te mi ar z]) (rest := []) (st' := [.ref (At 0)]) 39 (c_X5_tried l G o An Ak At Ad kk tp rw rc sh sf de la ns sd to he sw nh ki te mi ar z t_la1 t_ns1 t_sd1 t_to1 t_he1 t_sw1 t_nh1 t_ki1 t_te1 t_mi1 t_ar1 t_z1 ) [0, 1, 2] 0 rfl rfl rfl [[o], [An 0, An 1, An 2, An 3, An 4, An 5, An 6, An 7, An 8], [At 0, At 1, At 2, At 3, At 4, At 5, At 6, At 7, At 8]] rfl rfl rfl rfl rfl rfl (Nat.le_of_ble_eq_true rfl) rfl dX5_topicFor_39 ?_
        refine J_astore (lv' := [some (.ref o), some (.int (nI i)), some (.int b), some (.int m), some (.int (nI j)), some (.ref (At 0)), none]) 42 dX5_topicFor_42 (by decide) rfl ?_
        refine J_aload 44 dX5_topicFor_44 rfl ?_
        refine g_47 (v := .ref (At 2)) 46 10 rfl rfl dX5_topicFor_46 ?_
        refine J_iload_n 49 1 dX5_topicFor_49 rfl rfl ?_
        refine J_iload 50 dX5_topicFor_50 rfl ?_
        refine J_iast (ws' := (wF [wMe o (An 0) (Ak 0) (At 0) (Ad 0) kk tp rw rc sh sf de, wCt G An la ns sd to he sw nh ki te mi ar z, wCt G At la ns sd (upd to i (nI j)) he sw nh ki te mi ar z])) 52 12 i rfl rfl (by omega) (by decide) rfl dX5_topicFor_52 ?_
        refine J_aload 53 dX5_topicFor_53 rfl ?_
        refine J_bipush (v := 12) 55 dX5_topicFor_55 rfl ?_
        refine J_sipush (v := 255) 57 dX5_topicFor_57 rfl ?_
        refine kb_RX5_167 (bs' := [wMe o (An 0) (Ak 0) (At 0) (Ad 0) kk tp rw rc sh sf de, wCt G An la ns sd to he sw nh ki te mi ar z, wCt G At la ns (sd + min 12 (ns - sd)) (upd to i (nI j)) he sw nh ki (fTe (fun h_ => h_ < nh ∧ hasP 255 (nI h_)) la ki mi te ar (upd to i (nI j)) he sw sd (min 12 (ns - sd))) mi (fAr (fun h_ => h_ < nh ∧ hasP 255 (nI h_)) la ki mi te ar (upd to i (nI j)) he sw sd (min 12 (ns - sd))) z]) (rest := []) (st' := [.int (nI (min 12 (ns - sd)))]) 60 (c_X0_sayMore l G 12 255 At la ns sd (upd to i (nI j)) he sw nh ki te mi ar z (by first | omega | assumption) (by first | omega | assumption) (by first | omega | assumption) (by first | omega | assumption)) [2] 10 rfl rfl rfl [[At 0, At 1, At 2, At 3, At 4, At 5, At 6, At 7, At 8]] rfl rfl rfl rfl rfl rfl (Nat.le_of_ble_eq_true rfl) rfl dX5_topicFor_60 ?_
        refine J_pop 63 dX5_topicFor_63 rfl ?_
        refine J_aload 64 dX5_topicFor_64 rfl ?_
        refine J_iload_n 66 1 dX5_topicFor_66 rfl rfl ?_
        refine kb_RX5_121 (bs' := [wMe o (An 0) (Ak 0) (At 0) (Ad 0) kk tp rw rc sh sf de, wCt G An la ns sd to he sw nh ki te mi ar z, wCt G At la ns (sd + min 12 (ns - sd)) (upd to i (nI j)) he sw nh ki (fTe (fun h_ => h_ < nh ∧ hasP 255 (nI h_)) la ki mi te ar (upd to i (nI j)) he sw sd (min 12 (ns - sd))) mi (fAr (fun h_ => h_ < nh ∧ hasP 255 (nI h_)) la ki mi te ar (upd to i (nI j)) he sw sd (min 12 (ns - sd))) z]) (rest := []) (st' := [.int (fMask (fun h_ => hasP ((fAr (fun h_ => h_ < nh ∧ hasP 255 (nI h_)) la ki mi te ar (upd to i (nI j)) he sw sd (min 12 (ns - sd))) h_) (nI i)) nh)]) 67 (c_X0_raisedBy l G i At la ns (sd + min 12 (ns - sd)) (upd to i (nI j)) he sw nh ki (fTe (fun h_ => h_ < nh ∧ hasP 255 (nI h_)) la ki mi te ar (upd to i (nI j)) he sw sd (min 12 (ns - sd))) mi (fAr (fun h_ => h_ < nh ∧ hasP 255 (nI h_)) la ki mi te ar (upd to i (nI j)) he sw sd (min 12 (ns - sd))) z (by first | omega | assumption)) [2] 10 rfl rfl rfl [[At 0, At 1, At 2, At 3, At 4, At 5, At 6, At 7, At 8]] rfl rfl rfl rfl rfl rfl (Nat.le_of_ble_eq_true rfl) rfl dX5_topicFor_67 ?_
        refine kb_RX5_203 (bs' := [wMe o (An 0) (Ak 0) (At 0) (Ad 0) kk tp rw rc sh sf de, wCt G An la ns sd to he sw nh ki te mi ar z, wCt G At la ns (sd + min 12 (ns - sd)) (upd to i (nI j)) he sw nh ki (fTe (fun h_ => h_ < nh ∧ hasP 255 (nI h_)) la ki mi te ar (upd to i (nI j)) he sw sd (min 12 (ns - sd))) mi (fAr (fun h_ => h_ < nh ∧ hasP 255 (nI h_)) la ki mi te ar (upd to i (nI j)) he sw sd (min 12 (ns - sd))) z]) (rest := []) (st' := [.int (fBC (fMask (fun h_ => hasP ((fAr (fun h_ => h_ < nh ∧ hasP 255 (nI h_)) la ki mi te ar (upd to i (nI j)) he sw sd (min 12 (ns - sd))) h_) (nI i)) nh))]) 70 (c_bitCount l G (fMask (fun h_ => hasP ((fAr (fun h_ => h_ < nh ∧ hasP 255 (nI h_)) la ki mi te ar (upd to i (nI j)) he sw sd (min 12 (ns - sd))) h_) (nI i)) nh) ) [] rfl rfl [] rfl rfl rfl rfl rfl rfl (Nat.le_of_ble_eq_true rfl) rfl dX5_topicFor_70 ?_
        refine J_istore (lv' := [some (.ref o), some (.int (nI i)), some (.int b), some (.int m), some (.int (nI j)), some (.ref (At 0)), some (.int (fBC (fMask (fun h_ => hasP ((fAr (fun h_ => h_ < nh ∧ hasP 255 (nI h_)) la ki mi te ar (upd to i (nI j)) he sw sd (min 12 (ns - sd))) h_) (nI i)) nh)))]) 73 dX5_topicFor_73 (by decide) rfl ?_
        refine J_iload 75 dX5_topicFor_75 rfl ?_
        refine J_iload_n 77 3 dX5_topicFor_77 rfl rfl ?_
        refine J_icmp_le (tgt := 87) 78 dX5_topicFor_78 (by decide) (fun c_2_ => ?_) (fun c_2_ => ?_)
        · skip
          refine J_iinc (v := nI (j + 1)) (lv' := [some (.ref o), some (.int (nI i)), some (.int b), some (.int m), some (.int (nI (j + 1))), some (.ref (At 0)), some (.int (fBC (fMask (fun h_ => hasP ((fAr (fun h_ => h_ < nh ∧ hasP 255 (nI h_)) la ki mi te ar (upd to i (nI j)) he sw sd (min 12 (ns - sd))) h_) (nI i)) nh)))]) 87 dX5_topicFor_87 rfl (nI_add _ 1) (by decide) rfl ?_
          refine J_goto (tgt := 31) 90 dX5_topicFor_90 (by decide) ?_
          refine J_mask (lv' := [some (.ref o), some (.int (nI i)), some (.int b), some (.int m), some (.int (nI (j + 1))), none, none]) 31 [true, true, true, true, true, false, false] rfl ?_
          exact ih_31_ (j + 1) b m la ns (sd + min 12 (ns - sd)) (upd to i (nI j)) he sw nh ki (fTe (fun h_ => h_ < nh ∧ hasP 255 (nI h_)) la ki mi te ar (upd to i (nI j)) he sw sd (min 12 (ns - sd))) mi (fAr (fun h_ => h_ < nh ∧ hasP 255 (nI h_)) la ki mi te ar (upd to i (nI j)) he sw sd (min 12 (ns - sd))) z (by omega) (by first | assumption | omega | rfl) (by first | rfl | exact fBest_t hb (by rw [Nat.zero_add]) (by assumption) | exact fBest_f hb (by rw [Nat.zero_add]) (by assumption) | (rw [fBest_t hb (by rw [Nat.zero_add]) (by assumption), Nat.zero_add]))
        · skip
          refine J_iload 81 dX5_topicFor_81 rfl ?_
          refine J_istore_n (lv' := [some (.ref o), some (.int (nI i)), some (.int b), some (.int (fBC (fMask (fun h_ => hasP ((fAr (fun h_ => h_ < nh ∧ hasP 255 (nI h_)) la ki mi te ar (upd to i (nI j)) he sw sd (min 12 (ns - sd))) h_) (nI i)) nh))), some (.int (nI j)), some (.ref (At 0)), some (.int (fBC (fMask (fun h_ => hasP ((fAr (fun h_ => h_ < nh ∧ hasP 255 (nI h_)) la ki mi te ar (upd to i (nI j)) he sw sd (min 12 (ns - sd))) h_) (nI i)) nh)))]) 83 3 dX5_topicFor_83 rfl (by decide) rfl ?_
          refine J_iload 84 dX5_topicFor_84 rfl ?_
          refine J_istore_n (lv' := [some (.ref o), some (.int (nI i)), some (.int (nI j)), some (.int (fBC (fMask (fun h_ => hasP ((fAr (fun h_ => h_ < nh ∧ hasP 255 (nI h_)) la ki mi te ar (upd to i (nI j)) he sw sd (min 12 (ns - sd))) h_) (nI i)) nh))), some (.int (nI j)), some (.ref (At 0)), some (.int (fBC (fMask (fun h_ => hasP ((fAr (fun h_ => h_ < nh ∧ hasP 255 (nI h_)) la ki mi te ar (upd to i (nI j)) he sw sd (min 12 (ns - sd))) h_) (nI i)) nh)))]) 86 2 dX5_topicFor_86 rfl (by decide) rfl ?_
          refine J_iinc (v := nI (j + 1)) (lv' := [some (.ref o), some (.int (nI i)), some (.int (nI j)), some (.int (fBC (fMask (fun h_ => hasP ((fAr (fun h_ => h_ < nh ∧ hasP 255 (nI h_)) la ki mi te ar (upd to i (nI j)) he sw sd (min 12 (ns - sd))) h_) (nI i)) nh))), some (.int (nI (j + 1))), some (.ref (At 0)), some (.int (fBC (fMask (fun h_ => hasP ((fAr (fun h_ => h_ < nh ∧ hasP 255 (nI h_)) la ki mi te ar (upd to i (nI j)) he sw sd (min 12 (ns - sd))) h_) (nI i)) nh)))]) 87 dX5_topicFor_87 rfl (nI_add _ 1) (by decide) rfl ?_
          refine J_goto (tgt := 31) 90 dX5_topicFor_90 (by decide) ?_
          refine J_mask (lv' := [some (.ref o), some (.int (nI i)), some (.int (nI j)), some (.int (fBC (fMask (fun h_ => hasP ((fAr (fun h_ => h_ < nh ∧ hasP 255 (nI h_)) la ki mi te ar (upd to i (nI j)) he sw sd (min 12 (ns - sd))) h_) (nI i)) nh))), some (.int (nI (j + 1))), none, none]) 31 [true, true, true, true, true, false, false] rfl ?_
          exact ih_31_ (j + 1) (nI j) (fBC (fMask (fun h_ => hasP ((fAr (fun h_ => h_ < nh ∧ hasP 255 (nI h_)) la ki mi te ar (upd to i (nI j)) he sw sd (min 12 (ns - sd))) h_) (nI i)) nh)) la ns (sd + min 12 (ns - sd)) (upd to i (nI j)) he sw nh ki (fTe (fun h_ => h_ < nh ∧ hasP 255 (nI h_)) la ki mi te ar (upd to i (nI j)) he sw sd (min 12 (ns - sd))) mi (fAr (fun h_ => h_ < nh ∧ hasP 255 (nI h_)) la ki mi te ar (upd to i (nI j)) he sw sd (min 12 (ns - sd))) z (by omega) (by first | assumption | omega | rfl) (by first | rfl | exact fBest_t hb (by rw [Nat.zero_add]) (by assumption) | exact fBest_f hb (by rw [Nat.zero_add]) (by assumption) | (rw [fBest_t hb (by rw [Nat.zero_add]) (by assumption), Nat.zero_add]))
  refine J_aload_n 0 0 dX5_topicFor_0 rfl rfl ?_
  refine J_iload_n 1 1 dX5_topicFor_1 rfl rfl ?_
  refine kb_RX5_109 (bs' := [wMe o (An 0) (Ak 0) (At 0) (Ad 0) kk tp rw rc sh sf de, wCt G An la ns sd to he sw nh ki te mi ar z, wCt G At t_la t_ns t_sd t_to t_he t_sw t_nh t_ki t_te t_mi t_ar t_z]) (rest := []) (st' := [.int 1]) 2 (c_X5_isSaying_t l G i o An Ak At Ad kk tp rw rc sh sf de la ns sd to he sw nh ki te mi ar z (by assumption) (by omega)) [0, 1] 0 rfl rfl rfl [[o], [An 0, An 1, An 2, An 3, An 4, An 5, An 6, An 7, An 8]] rfl rfl rfl rfl rfl rfl (Nat.le_of_ble_eq_true rfl) rfl dX5_topicFor_2 ?_
  refine J_if_ne (tgt := 10) 5 dX5_topicFor_5 (by decide) (fun _ => ?_) (fun c_3_ => absurd c_3_ (by decide))
  refine J_iload_n 10 1 dX5_topicFor_10 rfl rfl ?_
  refine J_aload_n 11 0 dX5_topicFor_11 rfl rfl ?_
  refine g_196 (v := .ref (An 0)) 12 0 rfl rfl dX5_topicFor_12 ?_
  refine g_45 (v := .int (nI sd)) 15 1 rfl rfl dX5_topicFor_15 ?_
  refine J_icmp_ge (tgt := 24) 18 dX5_topicFor_18 (by decide) (fun c_4_ => ?_) (fun c_4_ => ?_)
  · skip
    have c_4_ : sd ≤ i := (nI_leI (a := sd) (b := i) (by omega) (by omega)).mp c_4_
    refine J_iconst (v := 0) 24 dX5_topicFor_24 rfl ?_
    refine J_istore_n (lv' := [some (.ref o), some (.int (nI i)), some (.int 0), none, none, none, none]) 25 2 dX5_topicFor_25 rfl (by decide) rfl ?_
    refine J_iconst (v := (-1)) 26 dX5_topicFor_26 rfl ?_
    refine J_istore_n (lv' := [some (.ref o), some (.int (nI i)), some (.int 0), some (.int (-1)), none, none, none]) 27 3 dX5_topicFor_27 rfl (by decide) rfl ?_
    refine J_iconst (v := 0) 28 dX5_topicFor_28 rfl ?_
    refine J_istore (lv' := [some (.ref o), some (.int (nI i)), some (.int 0), some (.int (-1)), some (.int 0), none, none]) 29 dX5_topicFor_29 (by decide) rfl ?_
    exact cut_31_ ((8 - 0) + 1) 0 0 (-1) t_la t_ns t_sd t_to t_he t_sw t_nh t_ki t_te t_mi t_ar t_z (Nat.lt_succ_self _) (by first | assumption | omega | rfl) (by first | rfl | exact fBest_t hb (by rw [Nat.zero_add]) (by assumption) | exact fBest_f hb (by rw [Nat.zero_add]) (by assumption) | (rw [fBest_t hb (by rw [Nat.zero_add]) (by assumption), Nat.zero_add]))
  · skip
    have c_4_ : ¬ sd ≤ i := fun z_ => c_4_ ((nI_leI (a := sd) (b := i) (by omega) (by omega)).mpr z_)
    omega
set_option maxRecDepth 100000 in
set_option maxHeartbeats 4000000 in
theorem c_X5_heatFor_bad (l : Launch) (G : Gd) (i : Int32) (h : Int32) (o : Nat) (An : Nat → Nat) (Ak : Nat → Nat) (At : Nat → Nat) (Ad : Nat → Nat) (kk : Int32) (tp : Nat) (rw : Nat) (rc : Nat) (sh : Nat) (sf : Nat) (de : Nat) (la : Nat → Int32) (ns : Nat) (sd : Nat) (to : Nat → Int32) (he : Nat → Int32) (sw : Nat → Int32) (nh : Nat) (ki : Nat → Int32) (te : Nat → Int32) (mi : Nat → Int32) (ar : Nat → Int32) (z : Int32) (hw : ¬ (0 ≤ i ∧ i ≤ nI ns - 1)) : Ct l G yX5_heatFor cX5_heatFor 5 (some (FieldType.int)) 4 [.ref o, .int i, .int h] (wF [wMe o (An 0) (Ak 0) (At 0) (Ad 0) kk tp rw rc sh sf de, wCt G An la ns sd to he sw nh ki te mi ar z]) (some (.int (-1))) (wF [wMe o (An 0) (Ak 0) (At 0) (Ad 0) kk tp rw rc sh sf de, wCt G An la ns sd to he sw nh ki te mi ar z]) := by
  refine Ct.of "GooseArms" [some (.ref o), some (.int i), some (.int h), none, none] (by decide +kernel) rfl (Nat.le_of_ble_eq_true rfl) rfl ?_
  refine J_aload_n 0 0 dX5_heatFor_0 rfl rfl ?_
  refine J_iload_n 1 1 dX5_heatFor_1 rfl rfl ?_
  refine kb_RX5_109 (bs' := [wMe o (An 0) (Ak 0) (At 0) (Ad 0) kk tp rw rc sh sf de, wCt G An la ns sd to he sw nh ki te mi ar z]) (rest := []) (st' := [.int 0]) 2 (c_X5_isSaying_f l G i o An Ak At Ad kk tp rw rc sh sf de la ns sd to he sw nh ki te mi ar z (by first | omega | assumption)) [0, 1] 0 rfl rfl rfl [[o], [An 0, An 1, An 2, An 3, An 4, An 5, An 6, An 7, An 8]] rfl rfl rfl rfl rfl rfl (Nat.le_of_ble_eq_true rfl) rfl dX5_heatFor_2 ?_
  refine J_if_eq (tgt := 16) 5 dX5_heatFor_5 (by decide) (fun _ => ?_) (fun c_1_ => absurd c_1_ (by decide))
  refine J_iconst (v := (-1)) 16 dX5_heatFor_16 rfl ?_
  exact J_iret 17 dX5_heatFor_17 rfl rfl
set_option maxRecDepth 100000 in
set_option maxHeartbeats 4000000 in
theorem c_X5_heatFor_badh (l : Launch) (G : Gd) (i : Nat) (h : Int32) (o : Nat) (An : Nat → Nat) (Ak : Nat → Nat) (At : Nat → Nat) (Ad : Nat → Nat) (kk : Int32) (tp : Nat) (rw : Nat) (rc : Nat) (sh : Nat) (sf : Nat) (de : Nat) (la : Nat → Int32) (ns : Nat) (sd : Nat) (to : Nat → Int32) (he : Nat → Int32) (sw : Nat → Int32) (nh : Nat) (ki : Nat → Int32) (te : Nat → Int32) (mi : Nat → Int32) (ar : Nat → Int32) (z : Int32) (hi : i < ns) (hns : ns ≤ 12) (hw : ¬ (0 ≤ h ∧ h ≤ nI nh - 1)) : Ct l G yX5_heatFor cX5_heatFor 5 (some (FieldType.int)) 4 [.ref o, .int (nI i), .int h] (wF [wMe o (An 0) (Ak 0) (At 0) (Ad 0) kk tp rw rc sh sf de, wCt G An la ns sd to he sw nh ki te mi ar z]) (some (.int (-1))) (wF [wMe o (An 0) (Ak 0) (At 0) (Ad 0) kk tp rw rc sh sf de, wCt G An la ns sd to he sw nh ki te mi ar z]) := by
  refine Ct.of "GooseArms" [some (.ref o), some (.int (nI i)), some (.int h), none, none] (by decide +kernel) rfl (Nat.le_of_ble_eq_true rfl) rfl ?_
  refine J_aload_n 0 0 dX5_heatFor_0 rfl rfl ?_
  refine J_iload_n 1 1 dX5_heatFor_1 rfl rfl ?_
  refine kb_RX5_109 (bs' := [wMe o (An 0) (Ak 0) (At 0) (Ad 0) kk tp rw rc sh sf de, wCt G An la ns sd to he sw nh ki te mi ar z]) (rest := []) (st' := [.int 1]) 2 (c_X5_isSaying_t l G i o An Ak At Ad kk tp rw rc sh sf de la ns sd to he sw nh ki te mi ar z (by assumption) (by omega)) [0, 1] 0 rfl rfl rfl [[o], [An 0, An 1, An 2, An 3, An 4, An 5, An 6, An 7, An 8]] rfl rfl rfl rfl rfl rfl (Nat.le_of_ble_eq_true rfl) rfl dX5_heatFor_2 ?_
  refine J_if_eq (tgt := 16) 5 dX5_heatFor_5 (by decide) (fun c_1_ => absurd c_1_ (by decide)) (fun _ => ?_)
  refine J_aload_n 8 0 dX5_heatFor_8 rfl rfl ?_
  refine J_iload_n 9 2 dX5_heatFor_9 rfl rfl ?_
  refine kb_RX5_135 (bs' := [wMe o (An 0) (Ak 0) (At 0) (Ad 0) kk tp rw rc sh sf de, wCt G An la ns sd to he sw nh ki te mi ar z]) (rest := []) (st' := [.int 0]) 10 (c_X5_isHearer_f l G h o An Ak At Ad kk tp rw rc sh sf de la ns sd to he sw nh ki te mi ar z (by first | omega | assumption)) [0, 1] 0 rfl rfl rfl [[o], [An 0, An 1, An 2, An 3, An 4, An 5, An 6, An 7, An 8]] rfl rfl rfl rfl rfl rfl (Nat.le_of_ble_eq_true rfl) rfl dX5_heatFor_10 ?_
  refine J_if_ne (tgt := 18) 13 dX5_heatFor_13 (by decide) (fun c_2_ => absurd c_2_ (by decide)) (fun _ => ?_)
  refine J_iconst (v := (-1)) 16 dX5_heatFor_16 rfl ?_
  exact J_iret 17 dX5_heatFor_17 rfl rfl
set_option maxRecDepth 100000 in
set_option maxHeartbeats 4000000 in
theorem c_X5_heatFor_said (l : Launch) (G : Gd) (i : Nat) (h : Nat) (o : Nat) (An : Nat → Nat) (Ak : Nat → Nat) (At : Nat → Nat) (Ad : Nat → Nat) (kk : Int32) (tp : Nat) (rw : Nat) (rc : Nat) (sh : Nat) (sf : Nat) (de : Nat) (la : Nat → Int32) (ns : Nat) (sd : Nat) (to : Nat → Int32) (he : Nat → Int32) (sw : Nat → Int32) (nh : Nat) (ki : Nat → Int32) (te : Nat → Int32) (mi : Nat → Int32) (ar : Nat → Int32) (z : Int32) (hi : i < ns) (hh : h < nh) (hnh : nh ≤ 8) (hns : ns ≤ 12) (hsd : sd ≤ ns) (hz : i < sd) : Ct l G yX5_heatFor cX5_heatFor 5 (some (FieldType.int)) 4 [.ref o, .int (nI i), .int (nI h)] (wF [wMe o (An 0) (Ak 0) (At 0) (Ad 0) kk tp rw rc sh sf de, wCt G An la ns sd to he sw nh ki te mi ar z]) (some (.int (-3))) (wF [wMe o (An 0) (Ak 0) (At 0) (Ad 0) kk tp rw rc sh sf de, wCt G An la ns sd to he sw nh ki te mi ar z]) := by
  refine Ct.of "GooseArms" [some (.ref o), some (.int (nI i)), some (.int (nI h)), none, none] (by decide +kernel) rfl (Nat.le_of_ble_eq_true rfl) rfl ?_
  refine J_aload_n 0 0 dX5_heatFor_0 rfl rfl ?_
  refine J_iload_n 1 1 dX5_heatFor_1 rfl rfl ?_
  refine kb_RX5_109 (bs' := [wMe o (An 0) (Ak 0) (At 0) (Ad 0) kk tp rw rc sh sf de, wCt G An la ns sd to he sw nh ki te mi ar z]) (rest := []) (st' := [.int 1]) 2 (c_X5_isSaying_t l G i o An Ak At Ad kk tp rw rc sh sf de la ns sd to he sw nh ki te mi ar z (by assumption) (by omega)) [0, 1] 0 rfl rfl rfl [[o], [An 0, An 1, An 2, An 3, An 4, An 5, An 6, An 7, An 8]] rfl rfl rfl rfl rfl rfl (Nat.le_of_ble_eq_true rfl) rfl dX5_heatFor_2 ?_
  refine J_if_eq (tgt := 16) 5 dX5_heatFor_5 (by decide) (fun c_1_ => absurd c_1_ (by decide)) (fun _ => ?_)
  refine J_aload_n 8 0 dX5_heatFor_8 rfl rfl ?_
  refine J_iload_n 9 2 dX5_heatFor_9 rfl rfl ?_
  refine kb_RX5_135 (bs' := [wMe o (An 0) (Ak 0) (At 0) (Ad 0) kk tp rw rc sh sf de, wCt G An la ns sd to he sw nh ki te mi ar z]) (rest := []) (st' := [.int 1]) 10 (c_X5_isHearer_t l G h o An Ak At Ad kk tp rw rc sh sf de la ns sd to he sw nh ki te mi ar z (by assumption) (by omega)) [0, 1] 0 rfl rfl rfl [[o], [An 0, An 1, An 2, An 3, An 4, An 5, An 6, An 7, An 8]] rfl rfl rfl rfl rfl rfl (Nat.le_of_ble_eq_true rfl) rfl dX5_heatFor_10 ?_
  refine J_if_ne (tgt := 18) 13 dX5_heatFor_13 (by decide) (fun _ => ?_) (fun c_2_ => absurd c_2_ (by decide))
  refine J_iload_n 18 1 dX5_heatFor_18 rfl rfl ?_
  refine J_aload_n 19 0 dX5_heatFor_19 rfl rfl ?_
  refine g_196 (v := .ref (An 0)) 20 0 rfl rfl dX5_heatFor_20 ?_
  refine g_45 (v := .int (nI sd)) 23 1 rfl rfl dX5_heatFor_23 ?_
  refine J_icmp_ge (tgt := 32) 26 dX5_heatFor_26 (by decide) (fun c_3_ => ?_) (fun c_3_ => ?_)
  · skip
    have c_3_ : sd ≤ i := (nI_leI (a := sd) (b := i) (by omega) (by omega)).mp c_3_
    omega
  · skip
    have c_3_ : ¬ sd ≤ i := fun z_ => c_3_ ((nI_leI (a := sd) (b := i) (by omega) (by omega)).mpr z_)
    refine J_bipush (v := (-3)) 29 dX5_heatFor_29 rfl ?_
    exact J_iret 31 dX5_heatFor_31 rfl rfl
set_option maxRecDepth 100000 in
set_option maxHeartbeats 4000000 in
theorem c_X5_heatFor_ok (l : Launch) (G : Gd) (i : Nat) (h : Nat) (o : Nat) (An : Nat → Nat) (Ak : Nat → Nat) (At : Nat → Nat) (Ad : Nat → Nat) (kk : Int32) (tp : Nat) (rw : Nat) (rc : Nat) (sh : Nat) (sf : Nat) (de : Nat) (la : Nat → Int32) (ns : Nat) (sd : Nat) (to : Nat → Int32) (he : Nat → Int32) (sw : Nat → Int32) (nh : Nat) (ki : Nat → Int32) (te : Nat → Int32) (mi : Nat → Int32) (ar : Nat → Int32) (z : Int32) (t_la : Nat → Int32) (t_ns : Nat) (t_sd : Nat) (t_to : Nat → Int32) (t_he : Nat → Int32) (t_sw : Nat → Int32) (t_nh : Nat) (t_ki : Nat → Int32) (t_te : Nat → Int32) (t_mi : Nat → Int32) (t_ar : Nat → Int32) (t_z : Int32) (hi : i < ns) (hh : h < nh) (hnh : nh ≤ 8) (hns : ns ≤ 12) (hsd : sd ≤ ns) (hz : sd ≤ i) : CtP l G yX5_heatFor cX5_heatFor 5 (some (FieldType.int)) 4 [.ref o, .int (nI i), .int (nI h)] (wF [wMe o (An 0) (Ak 0) (At 0) (Ad 0) kk tp rw rc sh sf de, wCt G An la ns sd to he sw nh ki te mi ar z, wCt G At t_la t_ns t_sd t_to t_he t_sw t_nh t_ki t_te t_mi t_ar t_z]) (some (.int (fFst (fun j_ => hasP (evTA la (ki h) (mi h) to (upd he i (nI j_)) sw sd (min 12 (ns - sd)) (te h, ar h)).2 (nI i)) 10 0))) (fun w_ => ∃ (j_2_la : Nat → Int32) (j_2_ns : Nat) (j_2_sd : Nat) (j_2_to : Nat → Int32) (j_2_he : Nat → Int32) (j_2_sw : Nat → Int32) (j_2_nh : Nat) (j_2_ki : Nat → Int32) (j_2_te : Nat → Int32) (j_2_mi : Nat → Int32) (j_2_ar : Nat → Int32) (j_2_z : Int32), w_ = (wF [wMe o (An 0) (Ak 0) (At 0) (Ad 0) kk tp rw rc sh sf de, wCt G An la ns sd to he sw nh ki te mi ar z, wCt G At j_2_la j_2_ns j_2_sd j_2_to j_2_he j_2_sw j_2_nh j_2_ki j_2_te j_2_mi j_2_ar j_2_z])) := by
  refine CtP.of "GooseArms" [some (.ref o), some (.int (nI i)), some (.int (nI h)), none, none] (by decide +kernel) rfl (Nat.le_of_ble_eq_true rfl) rfl ?_
  have cut_34_ : ∀ (n_34_ : Nat) (j : Nat) (t_la1 : Nat → Int32) (t_ns1 : Nat) (t_sd1 : Nat) (t_to1 : Nat → Int32) (t_he1 : Nat → Int32) (t_sw1 : Nat → Int32) (t_nh1 : Nat) (t_ki1 : Nat → Int32) (t_te1 : Nat → Int32) (t_mi1 : Nat → Int32) (t_ar1 : Nat → Int32) (t_z1 : Int32), (10 - j < n_34_) → (hj : j ≤ 10) → (hf : fFst (fun j_ => hasP (evTA la (ki h) (mi h) to (upd he i (nI j_)) sw sd (min 12 (ns - sd)) (te h, ar h)).2 (nI i)) 10 0 = fFst (fun j_ => hasP (evTA la (ki h) (mi h) to (upd he i (nI j_)) sw sd (min 12 (ns - sd)) (te h, ar h)).2 (nI i)) (10 - j) j) → J l G (bdP G 4 (some (FieldType.int)) (some (.int (fFst (fun j_ => hasP (evTA la (ki h) (mi h) to (upd he i (nI j_)) sw sd (min 12 (ns - sd)) (te h, ar h)).2 (nI i)) 10 0))) (fun w_ => ∃ (j_2_la : Nat → Int32) (j_2_ns : Nat) (j_2_sd : Nat) (j_2_to : Nat → Int32) (j_2_he : Nat → Int32) (j_2_sw : Nat → Int32) (j_2_nh : Nat) (j_2_ki : Nat → Int32) (j_2_te : Nat → Int32) (j_2_mi : Nat → Int32) (j_2_ar : Nat → Int32) (j_2_z : Int32), w_ = (wF [wMe o (An 0) (Ak 0) (At 0) (Ad 0) kk tp rw rc sh sf de, wCt G An la ns sd to he sw nh ki te mi ar z, wCt G At j_2_la j_2_ns j_2_sd j_2_to j_2_he j_2_sw j_2_nh j_2_ki j_2_te j_2_mi j_2_ar j_2_z]))) cX5_heatFor 5 "GooseArms" 34 [some (.ref o), some (.int (nI i)), some (.int (nI h)), some (.int (nI j)), none] [] (wF [wMe o (An 0) (Ak 0) (At 0) (Ad 0) kk tp rw rc sh sf de, wCt G An la ns sd to he sw nh ki te mi ar z, wCt G At t_la1 t_ns1 t_sd1 t_to1 t_he1 t_sw1 t_nh1 t_ki1 t_te1 t_mi1 t_ar1 t_z1]) := by
    intro n_34_
    induction n_34_ with
    | zero => intro j t_la1 t_ns1 t_sd1 t_to1 t_he1 t_sw1 t_nh1 t_ki1 t_te1 t_mi1 t_ar1 t_z1 m_34_; exact absurd m_34_ (Nat.not_lt_zero _)
    | succ n_34_ ih_34_ =>
      intro j t_la1 t_ns1 t_sd1 t_to1 t_he1 t_sw1 t_nh1 t_ki1 t_te1 t_mi1 t_ar1 t_z1 m_34_ hj hf
      refine J_iload_n 34 3 dX5_heatFor_34 rfl rfl ?_
      refine J_bipush (v := 9) 35 dX5_heatFor_35 rfl ?_
      refine J_icmp_gt (tgt := 88) 37 dX5_heatFor_37 (by decide) (fun c_1_ => ?_) (fun c_1_ => ?_)
      · skip
        have c_1_ : 9 < j := (nI_ltI (a := 9) (b := j) (by omega) (by omega)).mp c_1_
        refine J_bipush (v := (-3)) 88 dX5_heatFor_88 rfl ?_
        exact J_iretP 90 dX5_heatFor_90 (congrArg (fun x_ => some (Value.int x_)) (by rw [hf]; exact (fFst_e (by omega)).symm)) ⟨t_la1, t_ns1, t_sd1, t_to1, t_he1, t_sw1, t_nh1, t_ki1, t_te1, t_mi1, t_ar1, t_z1, rfl⟩
      · skip
        have c_1_ : ¬ 9 < j := fun z_ => c_1_ ((nI_ltI (a := 9) (b := j) (by omega) (by omega)).mpr z_)
        refine J_aload_n 40 0 dX5_heatFor_40 rfl rfl ?_
        refine kb_RX5_180 (bs' := [wMe o (An 0) (Ak 0) (At 0) (Ad 0) kk tp rw rc sh sf de, wCt G An la ns sd to he sw nh ki te mi ar z, wCt G At la ns sd to he sw nh ki te mi ar z]) (rest := []) (st' := [.ref (At 0)]) 41 (c_X5_tried l G o An Ak At Ad kk tp rw rc sh sf de la ns sd to he sw nh ki te mi ar z t_la1 t_ns1 t_sd1 t_to1 t_he1 t_sw1 t_nh1 t_ki1 t_te1 t_mi1 t_ar1 t_z1 ) [0, 1, 2] 0 rfl rfl rfl [[o], [An 0, An 1, An 2, An 3, An 4, An 5, An 6, An 7, An 8], [At 0, At 1, At 2, At 3, At 4, At 5, At 6, At 7, At 8]] rfl rfl rfl rfl rfl rfl (Nat.le_of_ble_eq_true rfl) rfl dX5_heatFor_41 ?_
        refine J_astore (lv' := [some (.ref o), some (.int (nI i)), some (.int (nI h)), some (.int (nI j)), some (.ref (At 0))]) 44 dX5_heatFor_44 (by decide) rfl ?_
        refine J_aload 46 dX5_heatFor_46 rfl ?_
        refine g_49 (v := .ref (At 3)) 48 10 rfl rfl dX5_heatFor_48 ?_
        refine J_iload_n 51 1 dX5_heatFor_51 rfl rfl ?_
        refine J_iload_n 52 3 dX5_heatFor_52 rfl rfl ?_
        refine J_iast (ws' := (wF [wMe o (An 0) (Ak 0) (At 0) (Ad 0) kk tp rw rc sh sf de, wCt G An la ns sd to he sw nh ki te mi ar z, wCt G At la ns sd to (upd he i (nI j)) sw nh ki te mi ar z])) 53 13 i rfl rfl (by omega) (by decide) rfl dX5_heatFor_53 ?_
        refine J_aload 54 dX5_heatFor_54 rfl ?_
        refine J_bipush (v := 12) 56 dX5_heatFor_56 rfl ?_
        refine J_iload_n 58 2 dX5_heatFor_58 rfl rfl ?_
        refine kb_RX5_196 (bs' := [wMe o (An 0) (Ak 0) (At 0) (Ad 0) kk tp rw rc sh sf de, wCt G An la ns sd to he sw nh ki te mi ar z, wCt G At la ns sd to (upd he i (nI j)) sw nh ki te mi ar z]) (rest := [.int 12, .ref (At 0)]) (st' := [.int (onlyI (nI h)), .int 12, .ref (At 0)]) 59 (c_X5_only l G (nI h) ) [] rfl rfl [] rfl rfl rfl rfl rfl rfl (Nat.le_of_ble_eq_true rfl) rfl dX5_heatFor_59 ?_
        refine kb_RX5_167 (bs' := [wMe o (An 0) (Ak 0) (At 0) (Ad 0) kk tp rw rc sh sf de, wCt G An la ns sd to he sw nh ki te mi ar z, wCt G At la ns (sd + min 12 (ns - sd)) to (upd he i (nI j)) sw nh ki (fTe (fun h_ => h_ < nh ∧ hasP (onlyI (nI h)) (nI h_)) la ki mi te ar to (upd he i (nI j)) sw sd (min 12 (ns - sd))) mi (fAr (fun h_ => h_ < nh ∧ hasP (onlyI (nI h)) (nI h_)) la ki mi te ar to (upd he i (nI j)) sw sd (min 12 (ns - sd))) z]) (rest := []) (st' := [.int (nI (min 12 (ns - sd)))]) 62 (c_X0_sayMore l G 12 (onlyI (nI h)) At la ns sd to (upd he i (nI j)) sw nh ki te mi ar z (by first | omega | assumption) (by first | omega | assumption) (by first | omega | assumption) (by first | omega | assumption)) [2] 10 rfl rfl rfl [[At 0, At 1, At 2, At 3, At 4, At 5, At 6, At 7, At 8]] rfl rfl rfl rfl rfl rfl (Nat.le_of_ble_eq_true rfl) rfl dX5_heatFor_62 ?_
        refine J_pop 65 dX5_heatFor_65 rfl ?_
        refine J_aload 66 dX5_heatFor_66 rfl ?_
        refine g_62 (v := .ref (At 8)) 68 10 rfl rfl dX5_heatFor_68 ?_
        refine J_iload_n 71 2 dX5_heatFor_71 rfl rfl ?_
        refine J_iald 72 18 h rfl rfl (by omega) (by decide) dX5_heatFor_72 ?_
        refine J_iload_n 73 1 dX5_heatFor_73 rfl rfl ?_
        refine kb_RX5_208 (bs' := [wMe o (An 0) (Ak 0) (At 0) (Ad 0) kk tp rw rc sh sf de, wCt G An la ns sd to he sw nh ki te mi ar z, wCt G At la ns (sd + min 12 (ns - sd)) to (upd he i (nI j)) sw nh ki (fTe (fun h_ => h_ < nh ∧ hasP (onlyI (nI h)) (nI h_)) la ki mi te ar to (upd he i (nI j)) sw sd (min 12 (ns - sd))) mi (fAr (fun h_ => h_ < nh ∧ hasP (onlyI (nI h)) (nI h_)) la ki mi te ar to (upd he i (nI j)) sw sd (min 12 (ns - sd))) z]) (rest := []) (st' := [.int (bI (hasP ((fAr (fun h_ => h_ < nh ∧ hasP (onlyI (nI h)) (nI h_)) la ki mi te ar to (upd he i (nI j)) sw sd (min 12 (ns - sd))) h) (nI i)))]) 74 (c_X5_has l G ((fAr (fun h_ => h_ < nh ∧ hasP (onlyI (nI h)) (nI h_)) la ki mi te ar to (upd he i (nI j)) sw sd (min 12 (ns - sd))) h) (nI i) ) [] rfl rfl [] rfl rfl rfl rfl rfl rfl (Nat.le_of_ble_eq_true rfl) rfl dX5_heatFor_74 ?_
        refine J_ifB_eq (tgt := 82) 77 dX5_heatFor_77 (by decide) (fun c_2_ => ?_) (fun c_2_ => ?_)
        · skip
          refine J_iinc (v := nI (j + 1)) (lv' := [some (.ref o), some (.int (nI i)), some (.int (nI h)), some (.int (nI (j + 1))), some (.ref (At 0))]) 82 dX5_heatFor_82 rfl (nI_add _ 1) (by decide) rfl ?_
          refine J_goto (tgt := 34) 85 dX5_heatFor_85 (by decide) ?_
          refine J_mask (lv' := [some (.ref o), some (.int (nI i)), some (.int (nI h)), some (.int (nI (j + 1))), none]) 34 [true, true, true, true, false] rfl ?_
          exact ih_34_ (j + 1) la ns (sd + min 12 (ns - sd)) to (upd he i (nI j)) sw nh ki (fTe (fun h_ => h_ < nh ∧ hasP (onlyI (nI h)) (nI h_)) la ki mi te ar to (upd he i (nI j)) sw sd (min 12 (ns - sd))) mi (fAr (fun h_ => h_ < nh ∧ hasP (onlyI (nI h)) (nI h_)) la ki mi te ar to (upd he i (nI j)) sw sd (min 12 (ns - sd))) z (by omega) (by first | assumption | omega | rfl) (by first | rfl | exact hf.trans (fFst_f (by omega) (by rw [← fAr_at (L := (fun h_ => h_ < nh ∧ hasP (onlyI (nI h)) (nI h_))) (⟨hh, (bit_all h (by omega) h (by omega)).mpr rfl⟩)]; assumption)))
        · skip
          refine J_iload_n 80 3 dX5_heatFor_80 rfl rfl ?_
          exact J_iretP 81 dX5_heatFor_81 (congrArg (fun x_ => some (Value.int x_)) (by rw [hf]; exact (fFst_t (by omega) (by rw [← fAr_at (L := (fun h_ => h_ < nh ∧ hasP (onlyI (nI h)) (nI h_))) (⟨hh, (bit_all h (by omega) h (by omega)).mpr rfl⟩)]; assumption)).symm)) ⟨la, ns, (sd + min 12 (ns - sd)), to, (upd he i (nI j)), sw, nh, ki, (fTe (fun h_ => h_ < nh ∧ hasP (onlyI (nI h)) (nI h_)) la ki mi te ar to (upd he i (nI j)) sw sd (min 12 (ns - sd))), mi, (fAr (fun h_ => h_ < nh ∧ hasP (onlyI (nI h)) (nI h_)) la ki mi te ar to (upd he i (nI j)) sw sd (min 12 (ns - sd))), z, rfl⟩
  refine J_aload_n 0 0 dX5_heatFor_0 rfl rfl ?_
  refine J_iload_n 1 1 dX5_heatFor_1 rfl rfl ?_
  refine kb_RX5_109 (bs' := [wMe o (An 0) (Ak 0) (At 0) (Ad 0) kk tp rw rc sh sf de, wCt G An la ns sd to he sw nh ki te mi ar z, wCt G At t_la t_ns t_sd t_to t_he t_sw t_nh t_ki t_te t_mi t_ar t_z]) (rest := []) (st' := [.int 1]) 2 (c_X5_isSaying_t l G i o An Ak At Ad kk tp rw rc sh sf de la ns sd to he sw nh ki te mi ar z (by assumption) (by omega)) [0, 1] 0 rfl rfl rfl [[o], [An 0, An 1, An 2, An 3, An 4, An 5, An 6, An 7, An 8]] rfl rfl rfl rfl rfl rfl (Nat.le_of_ble_eq_true rfl) rfl dX5_heatFor_2 ?_
  refine J_if_eq (tgt := 16) 5 dX5_heatFor_5 (by decide) (fun c_3_ => absurd c_3_ (by decide)) (fun _ => ?_)
  refine J_aload_n 8 0 dX5_heatFor_8 rfl rfl ?_
  refine J_iload_n 9 2 dX5_heatFor_9 rfl rfl ?_
  refine kb_RX5_135 (bs' := [wMe o (An 0) (Ak 0) (At 0) (Ad 0) kk tp rw rc sh sf de, wCt G An la ns sd to he sw nh ki te mi ar z, wCt G At t_la t_ns t_sd t_to t_he t_sw t_nh t_ki t_te t_mi t_ar t_z]) (rest := []) (st' := [.int 1]) 10 (c_X5_isHearer_t l G h o An Ak At Ad kk tp rw rc sh sf de la ns sd to he sw nh ki te mi ar z (by assumption) (by omega)) [0, 1] 0 rfl rfl rfl [[o], [An 0, An 1, An 2, An 3, An 4, An 5, An 6, An 7, An 8]] rfl rfl rfl rfl rfl rfl (Nat.le_of_ble_eq_true rfl) rfl dX5_heatFor_10 ?_
  refine J_if_ne (tgt := 18) 13 dX5_heatFor_13 (by decide) (fun _ => ?_) (fun c_4_ => absurd c_4_ (by decide))
  refine J_iload_n 18 1 dX5_heatFor_18 rfl rfl ?_
  refine J_aload_n 19 0 dX5_heatFor_19 rfl rfl ?_
  refine g_196 (v := .ref (An 0)) 20 0 rfl rfl dX5_heatFor_20 ?_
  refine g_45 (v := .int (nI sd)) 23 1 rfl rfl dX5_heatFor_23 ?_
  refine J_icmp_ge (tgt := 32) 26 dX5_heatFor_26 (by decide) (fun c_5_ => ?_) (fun c_5_ => ?_)
  · skip
    have c_5_ : sd ≤ i := (nI_leI (a := sd) (b := i) (by omega) (by omega)).mp c_5_
    refine J_iconst (v := 0) 32 dX5_heatFor_32 rfl ?_
    refine J_istore_n (lv' := [some (.ref o), some (.int (nI i)), some (.int (nI h)), some (.int 0), none]) 33 3 dX5_heatFor_33 rfl (by decide) rfl ?_
    exact cut_34_ ((10 - 0) + 1) 0 t_la t_ns t_sd t_to t_he t_sw t_nh t_ki t_te t_mi t_ar t_z (Nat.lt_succ_self _) (by first | assumption | omega | rfl) (by first | rfl | exact hf.trans (fFst_f (by omega) (by rw [← fAr_at (L := (fun h_ => h_ < nh ∧ hasP (onlyI (nI h)) (nI h_))) (⟨hh, (bit_all h (by omega) h (by omega)).mpr rfl⟩)]; assumption)))
  · skip
    have c_5_ : ¬ sd ≤ i := fun z_ => c_5_ ((nI_leI (a := sd) (b := i) (by omega) (by omega)).mpr z_)
    omega
set_option maxRecDepth 100000 in
set_option maxHeartbeats 4000000 in
theorem c_X5_kindFor_bad (l : Launch) (G : Gd) (h : Int32) (o : Nat) (An : Nat → Nat) (Ak : Nat → Nat) (At : Nat → Nat) (Ad : Nat → Nat) (kk : Int32) (tp : Nat) (rw : Nat) (rc : Nat) (sh : Nat) (sf : Nat) (de : Nat) (la : Nat → Int32) (ns : Nat) (sd : Nat) (to : Nat → Int32) (he : Nat → Int32) (sw : Nat → Int32) (nh : Nat) (ki : Nat → Int32) (te : Nat → Int32) (mi : Nat → Int32) (ar : Nat → Int32) (z : Int32) (hw : ¬ (0 ≤ h ∧ h ≤ nI nh - 1)) : Ct l G yX5_kindFor cX5_kindFor 7 (some (FieldType.int)) 5 [.ref o, .int h] (wF [wMe o (An 0) (Ak 0) (At 0) (Ad 0) kk tp rw rc sh sf de, wCt G An la ns sd to he sw nh ki te mi ar z]) (some (.int (-1))) (wF [wMe o (An 0) (Ak 0) (At 0) (Ad 0) kk tp rw rc sh sf de, wCt G An la ns sd to he sw nh ki te mi ar z]) := by
  refine Ct.of "GooseArms" [some (.ref o), some (.int h), none, none, none, none, none] (by decide +kernel) rfl (Nat.le_of_ble_eq_true rfl) rfl ?_
  refine J_aload_n 0 0 dX5_kindFor_0 rfl rfl ?_
  refine J_iload_n 1 1 dX5_kindFor_1 rfl rfl ?_
  refine kb_RX5_135 (bs' := [wMe o (An 0) (Ak 0) (At 0) (Ad 0) kk tp rw rc sh sf de, wCt G An la ns sd to he sw nh ki te mi ar z]) (rest := []) (st' := [.int 0]) 2 (c_X5_isHearer_f l G h o An Ak At Ad kk tp rw rc sh sf de la ns sd to he sw nh ki te mi ar z (by first | omega | assumption)) [0, 1] 0 rfl rfl rfl [[o], [An 0, An 1, An 2, An 3, An 4, An 5, An 6, An 7, An 8]] rfl rfl rfl rfl rfl rfl (Nat.le_of_ble_eq_true rfl) rfl dX5_kindFor_2 ?_
  refine J_if_ne (tgt := 10) 5 dX5_kindFor_5 (by decide) (fun c_1_ => absurd c_1_ (by decide)) (fun _ => ?_)
  refine J_iconst (v := (-1)) 8 dX5_kindFor_8 rfl ?_
  exact J_iret 9 dX5_kindFor_9 rfl rfl
set_option maxRecDepth 100000 in
set_option maxHeartbeats 4000000 in
theorem c_X5_kindFor_ok (l : Launch) (G : Gd) (h : Nat) (o : Nat) (An : Nat → Nat) (Ak : Nat → Nat) (At : Nat → Nat) (Ad : Nat → Nat) (kk : Int32) (tp : Nat) (rw : Nat) (rc : Nat) (sh : Nat) (sf : Nat) (de : Nat) (la : Nat → Int32) (ns : Nat) (sd : Nat) (to : Nat → Int32) (he : Nat → Int32) (sw : Nat → Int32) (nh : Nat) (ki : Nat → Int32) (te : Nat → Int32) (mi : Nat → Int32) (ar : Nat → Int32) (z : Int32) (t_la : Nat → Int32) (t_ns : Nat) (t_sd : Nat) (t_to : Nat → Int32) (t_he : Nat → Int32) (t_sw : Nat → Int32) (t_nh : Nat) (t_ki : Nat → Int32) (t_te : Nat → Int32) (t_mi : Nat → Int32) (t_ar : Nat → Int32) (t_z : Int32) (hh : h < nh) (hnh : nh ≤ 8) (hns : ns ≤ 12) (hsd : sd ≤ ns) : CtP l G yX5_kindFor cX5_kindFor 7 (some (FieldType.int)) 5 [.ref o, .int (nI h)] (wF [wMe o (An 0) (Ak 0) (At 0) (Ad 0) kk tp rw rc sh sf de, wCt G An la ns sd to he sw nh ki te mi ar z, wCt G At t_la t_ns t_sd t_to t_he t_sw t_nh t_ki t_te t_mi t_ar t_z]) (some (.int ((fBest 0 0 (fun j_ => nI (fRt la (upd ki h (nI j_)) mi te ar to he sw ns sd h)) 6).1))) (fun w_ => ∃ (j_2_la : Nat → Int32) (j_2_ns : Nat) (j_2_sd : Nat) (j_2_to : Nat → Int32) (j_2_he : Nat → Int32) (j_2_sw : Nat → Int32) (j_2_nh : Nat) (j_2_ki : Nat → Int32) (j_2_te : Nat → Int32) (j_2_mi : Nat → Int32) (j_2_ar : Nat → Int32) (j_2_z : Int32), w_ = (wF [wMe o (An 0) (Ak 0) (At 0) (Ad 0) kk tp rw rc sh sf de, wCt G An la ns sd to he sw nh ki te mi ar z, wCt G At j_2_la j_2_ns j_2_sd j_2_to j_2_he j_2_sw j_2_nh j_2_ki j_2_te j_2_mi j_2_ar j_2_z])) := by
  refine CtP.of "GooseArms" [some (.ref o), some (.int (nI h)), none, none, none, none, none] (by decide +kernel) rfl (Nat.le_of_ble_eq_true rfl) rfl ?_
  have cut_17_ : ∀ (n_17_ : Nat) (j : Nat) (b : Int32) (m : Int32) (t_la1 : Nat → Int32) (t_ns1 : Nat) (t_sd1 : Nat) (t_to1 : Nat → Int32) (t_he1 : Nat → Int32) (t_sw1 : Nat → Int32) (t_nh1 : Nat) (t_ki1 : Nat → Int32) (t_te1 : Nat → Int32) (t_mi1 : Nat → Int32) (t_ar1 : Nat → Int32) (t_z1 : Int32), (6 - j < n_17_) → (hj : j ≤ 6) → (hb : fBest 0 0 (fun j_ => nI (fRt la (upd ki h (nI j_)) mi te ar to he sw ns sd h)) j = (b, m)) → J l G (bdP G 5 (some (FieldType.int)) (some (.int ((fBest 0 0 (fun j_ => nI (fRt la (upd ki h (nI j_)) mi te ar to he sw ns sd h)) 6).1))) (fun w_ => ∃ (j_2_la : Nat → Int32) (j_2_ns : Nat) (j_2_sd : Nat) (j_2_to : Nat → Int32) (j_2_he : Nat → Int32) (j_2_sw : Nat → Int32) (j_2_nh : Nat) (j_2_ki : Nat → Int32) (j_2_te : Nat → Int32) (j_2_mi : Nat → Int32) (j_2_ar : Nat → Int32) (j_2_z : Int32), w_ = (wF [wMe o (An 0) (Ak 0) (At 0) (Ad 0) kk tp rw rc sh sf de, wCt G An la ns sd to he sw nh ki te mi ar z, wCt G At j_2_la j_2_ns j_2_sd j_2_to j_2_he j_2_sw j_2_nh j_2_ki j_2_te j_2_mi j_2_ar j_2_z]))) cX5_kindFor 7 "GooseArms" 17 [some (.ref o), some (.int (nI h)), some (.int b), some (.int m), some (.int (nI j)), none, none] [] (wF [wMe o (An 0) (Ak 0) (At 0) (Ad 0) kk tp rw rc sh sf de, wCt G An la ns sd to he sw nh ki te mi ar z, wCt G At t_la1 t_ns1 t_sd1 t_to1 t_he1 t_sw1 t_nh1 t_ki1 t_te1 t_mi1 t_ar1 t_z1]) := by
    intro n_17_
    induction n_17_ with
    | zero => intro j b m t_la1 t_ns1 t_sd1 t_to1 t_he1 t_sw1 t_nh1 t_ki1 t_te1 t_mi1 t_ar1 t_z1 m_17_; exact absurd m_17_ (Nat.not_lt_zero _)
    | succ n_17_ ih_17_ =>
      intro j b m t_la1 t_ns1 t_sd1 t_to1 t_he1 t_sw1 t_nh1 t_ki1 t_te1 t_mi1 t_ar1 t_z1 m_17_ hj hb
      refine J_iload 17 dX5_kindFor_17 rfl ?_
      refine J_iconst (v := 5) 19 dX5_kindFor_19 rfl ?_
      refine J_icmp_gt (tgt := 64) 20 dX5_kindFor_20 (by decide) (fun c_1_ => ?_) (fun c_1_ => ?_)
      · skip
        have c_1_ : 5 < j := (nI_ltI (a := 5) (b := j) (by omega) (by omega)).mp c_1_
        refine J_iload_n 64 2 dX5_kindFor_64 rfl rfl ?_
        exact J_iretP 65 dX5_kindFor_65 (congrArg (fun x_ => some (Value.int x_)) (by rw [← show j = 6 by omega, hb])) ⟨t_la1, t_ns1, t_sd1, t_to1, t_he1, t_sw1, t_nh1, t_ki1, t_te1, t_mi1, t_ar1, t_z1, rfl⟩
      · skip
        have c_1_ : ¬ 5 < j := fun z_ => c_1_ ((nI_ltI (a := 5) (b := j) (by omega) (by omega)).mpr z_)
        refine J_aload_n 23 0 dX5_kindFor_23 rfl rfl ?_
        refine kb_RX5_180 (bs' := [wMe o (An 0) (Ak 0) (At 0) (Ad 0) kk tp rw rc sh sf de, wCt G An la ns sd to he sw nh ki te mi ar z, wCt G At la ns sd to he sw nh ki te mi ar z]) (rest := []) (st' := [.ref (At 0)]) 24 (c_X5_tried l G o An Ak At Ad kk tp rw rc sh sf de la ns sd to he sw nh ki te mi ar z t_la1 t_ns1 t_sd1 t_to1 t_he1 t_sw1 t_nh1 t_ki1 t_te1 t_mi1 t_ar1 t_z1 ) [0, 1, 2] 0 rfl rfl rfl [[o], [An 0, An 1, An 2, An 3, An 4, An 5, An 6, An 7, An 8], [At 0, At 1, At 2, At 3, At 4, At 5, At 6, At 7, At 8]] rfl rfl rfl rfl rfl rfl (Nat.le_of_ble_eq_true rfl) rfl dX5_kindFor_24 ?_
        refine J_astore (lv' := [some (.ref o), some (.int (nI h)), some (.int b), some (.int m), some (.int (nI j)), some (.ref (At 0)), none]) 27 dX5_kindFor_27 (by decide) rfl ?_
        refine J_aload 29 dX5_kindFor_29 rfl ?_
        refine g_56 (v := .ref (At 5)) 31 10 rfl rfl dX5_kindFor_31 ?_
        refine J_iload_n 34 1 dX5_kindFor_34 rfl rfl ?_
        refine J_iload 35 dX5_kindFor_35 rfl ?_
        refine J_iast (ws' := (wF [wMe o (An 0) (Ak 0) (At 0) (Ad 0) kk tp rw rc sh sf de, wCt G An la ns sd to he sw nh ki te mi ar z, wCt G At la ns sd to he sw nh (upd ki h (nI j)) te mi ar z])) 37 15 h rfl rfl (by omega) (by decide) rfl dX5_kindFor_37 ?_
        refine J_aload 38 dX5_kindFor_38 rfl ?_
        refine J_iload_n 40 1 dX5_kindFor_40 rfl rfl ?_
        refine kb_RX5_199 (bs' := [wMe o (An 0) (Ak 0) (At 0) (Ad 0) kk tp rw rc sh sf de, wCt G An la ns sd to he sw nh ki te mi ar z, wCt G At la ns (sd + min 12 (ns - sd)) to he sw nh (upd ki h (nI j)) (fTe (fun h_ => h_ < nh ∧ hasP (onlyI (nI h)) (nI h_)) la (upd ki h (nI j)) mi te ar to he sw sd (min 12 (ns - sd))) mi (fAr (fun h_ => h_ < nh ∧ hasP (onlyI (nI h)) (nI h_)) la (upd ki h (nI j)) mi te ar to he sw sd (min 12 (ns - sd))) z]) (rest := []) (st' := [.int (nI (fRt la (upd ki h (nI j)) mi te ar to he sw ns sd h))]) 41 (c_X5_rightInTheEnd l G h At la ns sd to he sw nh (upd ki h (nI j)) te mi ar z (by first | omega | assumption) (by first | omega | assumption) (by first | omega | assumption) (by first | omega | assumption)) [2] rfl rfl [[At 0, At 1, At 2, At 3, At 4, At 5, At 6, At 7, At 8]] rfl rfl rfl rfl rfl rfl (Nat.le_of_ble_eq_true rfl) rfl dX5_kindFor_41 ?_
        refine J_istore (lv' := [some (.ref o), some (.int (nI h)), some (.int b), some (.int m), some (.int (nI j)), some (.ref (At 0)), some (.int (nI (fRt la (upd ki h (nI j)) mi te ar to he sw ns sd h)))]) 44 dX5_kindFor_44 (by decide) rfl ?_
        refine J_iload 46 dX5_kindFor_46 rfl ?_
        refine J_iload_n 48 3 dX5_kindFor_48 rfl rfl ?_
        refine J_icmp_le (tgt := 58) 49 dX5_kindFor_49 (by decide) (fun c_2_ => ?_) (fun c_2_ => ?_)
        · skip
          refine J_iinc (v := nI (j + 1)) (lv' := [some (.ref o), some (.int (nI h)), some (.int b), some (.int m), some (.int (nI (j + 1))), some (.ref (At 0)), some (.int (nI (fRt la (upd ki h (nI j)) mi te ar to he sw ns sd h)))]) 58 dX5_kindFor_58 rfl (nI_add _ 1) (by decide) rfl ?_
          refine J_goto (tgt := 17) 61 dX5_kindFor_61 (by decide) ?_
          refine J_mask (lv' := [some (.ref o), some (.int (nI h)), some (.int b), some (.int m), some (.int (nI (j + 1))), none, none]) 17 [true, true, true, true, true, false, false] rfl ?_
          exact ih_17_ (j + 1) b m la ns (sd + min 12 (ns - sd)) to he sw nh (upd ki h (nI j)) (fTe (fun h_ => h_ < nh ∧ hasP (onlyI (nI h)) (nI h_)) la (upd ki h (nI j)) mi te ar to he sw sd (min 12 (ns - sd))) mi (fAr (fun h_ => h_ < nh ∧ hasP (onlyI (nI h)) (nI h_)) la (upd ki h (nI j)) mi te ar to he sw sd (min 12 (ns - sd))) z (by omega) (by first | assumption | omega | rfl) (by first | rfl | exact fBest_t hb (by rw [Nat.zero_add]) (by assumption) | exact fBest_f hb (by rw [Nat.zero_add]) (by assumption) | (rw [fBest_t hb (by rw [Nat.zero_add]) (by assumption), Nat.zero_add]))
        · skip
          refine J_iload 52 dX5_kindFor_52 rfl ?_
          refine J_istore_n (lv' := [some (.ref o), some (.int (nI h)), some (.int b), some (.int (nI (fRt la (upd ki h (nI j)) mi te ar to he sw ns sd h))), some (.int (nI j)), some (.ref (At 0)), some (.int (nI (fRt la (upd ki h (nI j)) mi te ar to he sw ns sd h)))]) 54 3 dX5_kindFor_54 rfl (by decide) rfl ?_
          refine J_iload 55 dX5_kindFor_55 rfl ?_
          refine J_istore_n (lv' := [some (.ref o), some (.int (nI h)), some (.int (nI j)), some (.int (nI (fRt la (upd ki h (nI j)) mi te ar to he sw ns sd h))), some (.int (nI j)), some (.ref (At 0)), some (.int (nI (fRt la (upd ki h (nI j)) mi te ar to he sw ns sd h)))]) 57 2 dX5_kindFor_57 rfl (by decide) rfl ?_
          refine J_iinc (v := nI (j + 1)) (lv' := [some (.ref o), some (.int (nI h)), some (.int (nI j)), some (.int (nI (fRt la (upd ki h (nI j)) mi te ar to he sw ns sd h))), some (.int (nI (j + 1))), some (.ref (At 0)), some (.int (nI (fRt la (upd ki h (nI j)) mi te ar to he sw ns sd h)))]) 58 dX5_kindFor_58 rfl (nI_add _ 1) (by decide) rfl ?_
          refine J_goto (tgt := 17) 61 dX5_kindFor_61 (by decide) ?_
          refine J_mask (lv' := [some (.ref o), some (.int (nI h)), some (.int (nI j)), some (.int (nI (fRt la (upd ki h (nI j)) mi te ar to he sw ns sd h))), some (.int (nI (j + 1))), none, none]) 17 [true, true, true, true, true, false, false] rfl ?_
          exact ih_17_ (j + 1) (nI j) (nI (fRt la (upd ki h (nI j)) mi te ar to he sw ns sd h)) la ns (sd + min 12 (ns - sd)) to he sw nh (upd ki h (nI j)) (fTe (fun h_ => h_ < nh ∧ hasP (onlyI (nI h)) (nI h_)) la (upd ki h (nI j)) mi te ar to he sw sd (min 12 (ns - sd))) mi (fAr (fun h_ => h_ < nh ∧ hasP (onlyI (nI h)) (nI h_)) la (upd ki h (nI j)) mi te ar to he sw sd (min 12 (ns - sd))) z (by omega) (by first | assumption | omega | rfl) (by first | rfl | exact fBest_t hb (by rw [Nat.zero_add]) (by assumption) | exact fBest_f hb (by rw [Nat.zero_add]) (by assumption) | (rw [fBest_t hb (by rw [Nat.zero_add]) (by assumption), Nat.zero_add]))
  refine J_aload_n 0 0 dX5_kindFor_0 rfl rfl ?_
  refine J_iload_n 1 1 dX5_kindFor_1 rfl rfl ?_
  refine kb_RX5_135 (bs' := [wMe o (An 0) (Ak 0) (At 0) (Ad 0) kk tp rw rc sh sf de, wCt G An la ns sd to he sw nh ki te mi ar z, wCt G At t_la t_ns t_sd t_to t_he t_sw t_nh t_ki t_te t_mi t_ar t_z]) (rest := []) (st' := [.int 1]) 2 (c_X5_isHearer_t l G h o An Ak At Ad kk tp rw rc sh sf de la ns sd to he sw nh ki te mi ar z (by assumption) (by omega)) [0, 1] 0 rfl rfl rfl [[o], [An 0, An 1, An 2, An 3, An 4, An 5, An 6, An 7, An 8]] rfl rfl rfl rfl rfl rfl (Nat.le_of_ble_eq_true rfl) rfl dX5_kindFor_2 ?_
  refine J_if_ne (tgt := 10) 5 dX5_kindFor_5 (by decide) (fun _ => ?_) (fun c_3_ => absurd c_3_ (by decide))
  refine J_iconst (v := 0) 10 dX5_kindFor_10 rfl ?_
  refine J_istore_n (lv' := [some (.ref o), some (.int (nI h)), some (.int 0), none, none, none, none]) 11 2 dX5_kindFor_11 rfl (by decide) rfl ?_
  refine J_iconst (v := (-1)) 12 dX5_kindFor_12 rfl ?_
  refine J_istore_n (lv' := [some (.ref o), some (.int (nI h)), some (.int 0), some (.int (-1)), none, none, none]) 13 3 dX5_kindFor_13 rfl (by decide) rfl ?_
  refine J_iconst (v := 0) 14 dX5_kindFor_14 rfl ?_
  refine J_istore (lv' := [some (.ref o), some (.int (nI h)), some (.int 0), some (.int (-1)), some (.int 0), none, none]) 15 dX5_kindFor_15 (by decide) rfl ?_
  exact cut_17_ ((6 - 0) + 1) 0 0 (-1) t_la t_ns t_sd t_to t_he t_sw t_nh t_ki t_te t_mi t_ar t_z (Nat.lt_succ_self _) (by first | assumption | omega | rfl) (by first | rfl | exact fBest_t hb (by rw [Nat.zero_add]) (by assumption) | exact fBest_f hb (by rw [Nat.zero_add]) (by assumption) | (rw [fBest_t hb (by rw [Nat.zero_add]) (by assumption), Nat.zero_add]))
set_option maxRecDepth 100000 in
set_option maxHeartbeats 4000000 in
theorem c_X5_tenderFor_bad (l : Launch) (G : Gd) (h : Int32) (o : Nat) (An : Nat → Nat) (Ak : Nat → Nat) (At : Nat → Nat) (Ad : Nat → Nat) (kk : Int32) (tp : Nat) (rw : Nat) (rc : Nat) (sh : Nat) (sf : Nat) (de : Nat) (la : Nat → Int32) (ns : Nat) (sd : Nat) (to : Nat → Int32) (he : Nat → Int32) (sw : Nat → Int32) (nh : Nat) (ki : Nat → Int32) (te : Nat → Int32) (mi : Nat → Int32) (ar : Nat → Int32) (z : Int32) (hw : ¬ (0 ≤ h ∧ h ≤ nI nh - 1)) : Ct l G yX5_tenderFor cX5_tenderFor 7 (some (FieldType.int)) 5 [.ref o, .int h] (wF [wMe o (An 0) (Ak 0) (At 0) (Ad 0) kk tp rw rc sh sf de, wCt G An la ns sd to he sw nh ki te mi ar z]) (some (.int (-1))) (wF [wMe o (An 0) (Ak 0) (At 0) (Ad 0) kk tp rw rc sh sf de, wCt G An la ns sd to he sw nh ki te mi ar z]) := by
  refine Ct.of "GooseArms" [some (.ref o), some (.int h), none, none, none, none, none] (by decide +kernel) rfl (Nat.le_of_ble_eq_true rfl) rfl ?_
  refine J_aload_n 0 0 dX5_tenderFor_0 rfl rfl ?_
  refine J_iload_n 1 1 dX5_tenderFor_1 rfl rfl ?_
  refine kb_RX5_135 (bs' := [wMe o (An 0) (Ak 0) (At 0) (Ad 0) kk tp rw rc sh sf de, wCt G An la ns sd to he sw nh ki te mi ar z]) (rest := []) (st' := [.int 0]) 2 (c_X5_isHearer_f l G h o An Ak At Ad kk tp rw rc sh sf de la ns sd to he sw nh ki te mi ar z (by first | omega | assumption)) [0, 1] 0 rfl rfl rfl [[o], [An 0, An 1, An 2, An 3, An 4, An 5, An 6, An 7, An 8]] rfl rfl rfl rfl rfl rfl (Nat.le_of_ble_eq_true rfl) rfl dX5_tenderFor_2 ?_
  refine J_if_ne (tgt := 10) 5 dX5_tenderFor_5 (by decide) (fun c_1_ => absurd c_1_ (by decide)) (fun _ => ?_)
  refine J_iconst (v := (-1)) 8 dX5_tenderFor_8 rfl ?_
  exact J_iret 9 dX5_tenderFor_9 rfl rfl
set_option maxRecDepth 100000 in
set_option maxHeartbeats 4000000 in
theorem c_X5_tenderFor_ok (l : Launch) (G : Gd) (h : Nat) (o : Nat) (An : Nat → Nat) (Ak : Nat → Nat) (At : Nat → Nat) (Ad : Nat → Nat) (kk : Int32) (tp : Nat) (rw : Nat) (rc : Nat) (sh : Nat) (sf : Nat) (de : Nat) (la : Nat → Int32) (ns : Nat) (sd : Nat) (to : Nat → Int32) (he : Nat → Int32) (sw : Nat → Int32) (nh : Nat) (ki : Nat → Int32) (te : Nat → Int32) (mi : Nat → Int32) (ar : Nat → Int32) (z : Int32) (t_la : Nat → Int32) (t_ns : Nat) (t_sd : Nat) (t_to : Nat → Int32) (t_he : Nat → Int32) (t_sw : Nat → Int32) (t_nh : Nat) (t_ki : Nat → Int32) (t_te : Nat → Int32) (t_mi : Nat → Int32) (t_ar : Nat → Int32) (t_z : Int32) (hh : h < nh) (hnh : nh ≤ 8) (hns : ns ≤ 12) (hsd : sd ≤ ns) : CtP l G yX5_tenderFor cX5_tenderFor 7 (some (FieldType.int)) 5 [.ref o, .int (nI h)] (wF [wMe o (An 0) (Ak 0) (At 0) (Ad 0) kk tp rw rc sh sf de, wCt G An la ns sd to he sw nh ki te mi ar z, wCt G At t_la t_ns t_sd t_to t_he t_sw t_nh t_ki t_te t_mi t_ar t_z]) (some (.int ((fBest 0 0 (fun j_ => nI (fRt la ki mi (upd te h (nI j_)) ar to he sw ns sd h)) 100).1))) (fun w_ => ∃ (j_2_la : Nat → Int32) (j_2_ns : Nat) (j_2_sd : Nat) (j_2_to : Nat → Int32) (j_2_he : Nat → Int32) (j_2_sw : Nat → Int32) (j_2_nh : Nat) (j_2_ki : Nat → Int32) (j_2_te : Nat → Int32) (j_2_mi : Nat → Int32) (j_2_ar : Nat → Int32) (j_2_z : Int32), w_ = (wF [wMe o (An 0) (Ak 0) (At 0) (Ad 0) kk tp rw rc sh sf de, wCt G An la ns sd to he sw nh ki te mi ar z, wCt G At j_2_la j_2_ns j_2_sd j_2_to j_2_he j_2_sw j_2_nh j_2_ki j_2_te j_2_mi j_2_ar j_2_z])) := by
  refine CtP.of "GooseArms" [some (.ref o), some (.int (nI h)), none, none, none, none, none] (by decide +kernel) rfl (Nat.le_of_ble_eq_true rfl) rfl ?_
  have cut_17_ : ∀ (n_17_ : Nat) (j : Nat) (b : Int32) (m : Int32) (t_la1 : Nat → Int32) (t_ns1 : Nat) (t_sd1 : Nat) (t_to1 : Nat → Int32) (t_he1 : Nat → Int32) (t_sw1 : Nat → Int32) (t_nh1 : Nat) (t_ki1 : Nat → Int32) (t_te1 : Nat → Int32) (t_mi1 : Nat → Int32) (t_ar1 : Nat → Int32) (t_z1 : Int32), (100 - j < n_17_) → (hj : j ≤ 100) → (hb : fBest 0 0 (fun j_ => nI (fRt la ki mi (upd te h (nI j_)) ar to he sw ns sd h)) j = (b, m)) → J l G (bdP G 5 (some (FieldType.int)) (some (.int ((fBest 0 0 (fun j_ => nI (fRt la ki mi (upd te h (nI j_)) ar to he sw ns sd h)) 100).1))) (fun w_ => ∃ (j_2_la : Nat → Int32) (j_2_ns : Nat) (j_2_sd : Nat) (j_2_to : Nat → Int32) (j_2_he : Nat → Int32) (j_2_sw : Nat → Int32) (j_2_nh : Nat) (j_2_ki : Nat → Int32) (j_2_te : Nat → Int32) (j_2_mi : Nat → Int32) (j_2_ar : Nat → Int32) (j_2_z : Int32), w_ = (wF [wMe o (An 0) (Ak 0) (At 0) (Ad 0) kk tp rw rc sh sf de, wCt G An la ns sd to he sw nh ki te mi ar z, wCt G At j_2_la j_2_ns j_2_sd j_2_to j_2_he j_2_sw j_2_nh j_2_ki j_2_te j_2_mi j_2_ar j_2_z]))) cX5_tenderFor 7 "GooseArms" 17 [some (.ref o), some (.int (nI h)), some (.int b), some (.int m), some (.int (nI j)), none, none] [] (wF [wMe o (An 0) (Ak 0) (At 0) (Ad 0) kk tp rw rc sh sf de, wCt G An la ns sd to he sw nh ki te mi ar z, wCt G At t_la1 t_ns1 t_sd1 t_to1 t_he1 t_sw1 t_nh1 t_ki1 t_te1 t_mi1 t_ar1 t_z1]) := by
    intro n_17_
    induction n_17_ with
    | zero => intro j b m t_la1 t_ns1 t_sd1 t_to1 t_he1 t_sw1 t_nh1 t_ki1 t_te1 t_mi1 t_ar1 t_z1 m_17_; exact absurd m_17_ (Nat.not_lt_zero _)
    | succ n_17_ ih_17_ =>
      intro j b m t_la1 t_ns1 t_sd1 t_to1 t_he1 t_sw1 t_nh1 t_ki1 t_te1 t_mi1 t_ar1 t_z1 m_17_ hj hb
      refine J_iload 17 dX5_tenderFor_17 rfl ?_
      refine J_bipush (v := 99) 19 dX5_tenderFor_19 rfl ?_
      refine J_icmp_gt (tgt := 65) 21 dX5_tenderFor_21 (by decide) (fun c_1_ => ?_) (fun c_1_ => ?_)
      · skip
        have c_1_ : 99 < j := (nI_ltI (a := 99) (b := j) (by omega) (by omega)).mp c_1_
        refine J_iload_n 65 2 dX5_tenderFor_65 rfl rfl ?_
        exact J_iretP 66 dX5_tenderFor_66 (congrArg (fun x_ => some (Value.int x_)) (by rw [← show j = 100 by omega, hb])) ⟨t_la1, t_ns1, t_sd1, t_to1, t_he1, t_sw1, t_nh1, t_ki1, t_te1, t_mi1, t_ar1, t_z1, rfl⟩
      · skip
        have c_1_ : ¬ 99 < j := fun z_ => c_1_ ((nI_ltI (a := 99) (b := j) (by omega) (by omega)).mpr z_)
        refine J_aload_n 24 0 dX5_tenderFor_24 rfl rfl ?_
        refine kb_RX5_180 (bs' := [wMe o (An 0) (Ak 0) (At 0) (Ad 0) kk tp rw rc sh sf de, wCt G An la ns sd to he sw nh ki te mi ar z, wCt G At la ns sd to he sw nh ki te mi ar z]) (rest := []) (st' := [.ref (At 0)]) 25 (c_X5_tried l G o An Ak At Ad kk tp rw rc sh sf de la ns sd to he sw nh ki te mi ar z t_la1 t_ns1 t_sd1 t_to1 t_he1 t_sw1 t_nh1 t_ki1 t_te1 t_mi1 t_ar1 t_z1 ) [0, 1, 2] 0 rfl rfl rfl [[o], [An 0, An 1, An 2, An 3, An 4, An 5, An 6, An 7, An 8], [At 0, At 1, At 2, At 3, At 4, At 5, At 6, At 7, At 8]] rfl rfl rfl rfl rfl rfl (Nat.le_of_ble_eq_true rfl) rfl dX5_tenderFor_25 ?_
        refine J_astore (lv' := [some (.ref o), some (.int (nI h)), some (.int b), some (.int m), some (.int (nI j)), some (.ref (At 0)), none]) 28 dX5_tenderFor_28 (by decide) rfl ?_
        refine J_aload 30 dX5_tenderFor_30 rfl ?_
        refine g_58 (v := .ref (At 6)) 32 10 rfl rfl dX5_tenderFor_32 ?_
        refine J_iload_n 35 1 dX5_tenderFor_35 rfl rfl ?_
        refine J_iload 36 dX5_tenderFor_36 rfl ?_
        refine J_iast (ws' := (wF [wMe o (An 0) (Ak 0) (At 0) (Ad 0) kk tp rw rc sh sf de, wCt G An la ns sd to he sw nh ki te mi ar z, wCt G At la ns sd to he sw nh ki (upd te h (nI j)) mi ar z])) 38 16 h rfl rfl (by omega) (by decide) rfl dX5_tenderFor_38 ?_
        refine J_aload 39 dX5_tenderFor_39 rfl ?_
        refine J_iload_n 41 1 dX5_tenderFor_41 rfl rfl ?_
        refine kb_RX5_199 (bs' := [wMe o (An 0) (Ak 0) (At 0) (Ad 0) kk tp rw rc sh sf de, wCt G An la ns sd to he sw nh ki te mi ar z, wCt G At la ns (sd + min 12 (ns - sd)) to he sw nh ki (fTe (fun h_ => h_ < nh ∧ hasP (onlyI (nI h)) (nI h_)) la ki mi (upd te h (nI j)) ar to he sw sd (min 12 (ns - sd))) mi (fAr (fun h_ => h_ < nh ∧ hasP (onlyI (nI h)) (nI h_)) la ki mi (upd te h (nI j)) ar to he sw sd (min 12 (ns - sd))) z]) (rest := []) (st' := [.int (nI (fRt la ki mi (upd te h (nI j)) ar to he sw ns sd h))]) 42 (c_X5_rightInTheEnd l G h At la ns sd to he sw nh ki (upd te h (nI j)) mi ar z (by first | omega | assumption) (by first | omega | assumption) (by first | omega | assumption) (by first | omega | assumption)) [2] rfl rfl [[At 0, At 1, At 2, At 3, At 4, At 5, At 6, At 7, At 8]] rfl rfl rfl rfl rfl rfl (Nat.le_of_ble_eq_true rfl) rfl dX5_tenderFor_42 ?_
        refine J_istore (lv' := [some (.ref o), some (.int (nI h)), some (.int b), some (.int m), some (.int (nI j)), some (.ref (At 0)), some (.int (nI (fRt la ki mi (upd te h (nI j)) ar to he sw ns sd h)))]) 45 dX5_tenderFor_45 (by decide) rfl ?_
        refine J_iload 47 dX5_tenderFor_47 rfl ?_
        refine J_iload_n 49 3 dX5_tenderFor_49 rfl rfl ?_
        refine J_icmp_le (tgt := 59) 50 dX5_tenderFor_50 (by decide) (fun c_2_ => ?_) (fun c_2_ => ?_)
        · skip
          refine J_iinc (v := nI (j + 1)) (lv' := [some (.ref o), some (.int (nI h)), some (.int b), some (.int m), some (.int (nI (j + 1))), some (.ref (At 0)), some (.int (nI (fRt la ki mi (upd te h (nI j)) ar to he sw ns sd h)))]) 59 dX5_tenderFor_59 rfl (nI_add _ 1) (by decide) rfl ?_
          refine J_goto (tgt := 17) 62 dX5_tenderFor_62 (by decide) ?_
          refine J_mask (lv' := [some (.ref o), some (.int (nI h)), some (.int b), some (.int m), some (.int (nI (j + 1))), none, none]) 17 [true, true, true, true, true, false, false] rfl ?_
          exact ih_17_ (j + 1) b m la ns (sd + min 12 (ns - sd)) to he sw nh ki (fTe (fun h_ => h_ < nh ∧ hasP (onlyI (nI h)) (nI h_)) la ki mi (upd te h (nI j)) ar to he sw sd (min 12 (ns - sd))) mi (fAr (fun h_ => h_ < nh ∧ hasP (onlyI (nI h)) (nI h_)) la ki mi (upd te h (nI j)) ar to he sw sd (min 12 (ns - sd))) z (by omega) (by first | assumption | omega | rfl) (by first | rfl | exact fBest_t hb (by rw [Nat.zero_add]) (by assumption) | exact fBest_f hb (by rw [Nat.zero_add]) (by assumption) | (rw [fBest_t hb (by rw [Nat.zero_add]) (by assumption), Nat.zero_add]))
        · skip
          refine J_iload 53 dX5_tenderFor_53 rfl ?_
          refine J_istore_n (lv' := [some (.ref o), some (.int (nI h)), some (.int b), some (.int (nI (fRt la ki mi (upd te h (nI j)) ar to he sw ns sd h))), some (.int (nI j)), some (.ref (At 0)), some (.int (nI (fRt la ki mi (upd te h (nI j)) ar to he sw ns sd h)))]) 55 3 dX5_tenderFor_55 rfl (by decide) rfl ?_
          refine J_iload 56 dX5_tenderFor_56 rfl ?_
          refine J_istore_n (lv' := [some (.ref o), some (.int (nI h)), some (.int (nI j)), some (.int (nI (fRt la ki mi (upd te h (nI j)) ar to he sw ns sd h))), some (.int (nI j)), some (.ref (At 0)), some (.int (nI (fRt la ki mi (upd te h (nI j)) ar to he sw ns sd h)))]) 58 2 dX5_tenderFor_58 rfl (by decide) rfl ?_
          refine J_iinc (v := nI (j + 1)) (lv' := [some (.ref o), some (.int (nI h)), some (.int (nI j)), some (.int (nI (fRt la ki mi (upd te h (nI j)) ar to he sw ns sd h))), some (.int (nI (j + 1))), some (.ref (At 0)), some (.int (nI (fRt la ki mi (upd te h (nI j)) ar to he sw ns sd h)))]) 59 dX5_tenderFor_59 rfl (nI_add _ 1) (by decide) rfl ?_
          refine J_goto (tgt := 17) 62 dX5_tenderFor_62 (by decide) ?_
          refine J_mask (lv' := [some (.ref o), some (.int (nI h)), some (.int (nI j)), some (.int (nI (fRt la ki mi (upd te h (nI j)) ar to he sw ns sd h))), some (.int (nI (j + 1))), none, none]) 17 [true, true, true, true, true, false, false] rfl ?_
          exact ih_17_ (j + 1) (nI j) (nI (fRt la ki mi (upd te h (nI j)) ar to he sw ns sd h)) la ns (sd + min 12 (ns - sd)) to he sw nh ki (fTe (fun h_ => h_ < nh ∧ hasP (onlyI (nI h)) (nI h_)) la ki mi (upd te h (nI j)) ar to he sw sd (min 12 (ns - sd))) mi (fAr (fun h_ => h_ < nh ∧ hasP (onlyI (nI h)) (nI h_)) la ki mi (upd te h (nI j)) ar to he sw sd (min 12 (ns - sd))) z (by omega) (by first | assumption | omega | rfl) (by first | rfl | exact fBest_t hb (by rw [Nat.zero_add]) (by assumption) | exact fBest_f hb (by rw [Nat.zero_add]) (by assumption) | (rw [fBest_t hb (by rw [Nat.zero_add]) (by assumption), Nat.zero_add]))
  refine J_aload_n 0 0 dX5_tenderFor_0 rfl rfl ?_
  refine J_iload_n 1 1 dX5_tenderFor_1 rfl rfl ?_
  refine kb_RX5_135 (bs' := [wMe o (An 0) (Ak 0) (At 0) (Ad 0) kk tp rw rc sh sf de, wCt G An la ns sd to he sw nh ki te mi ar z, wCt G At t_la t_ns t_sd t_to t_he t_sw t_nh t_ki t_te t_mi t_ar t_z]) (rest := []) (st' := [.int 1]) 2 (c_X5_isHearer_t l G h o An Ak At Ad kk tp rw rc sh sf de la ns sd to he sw nh ki te mi ar z (by assumption) (by omega)) [0, 1] 0 rfl rfl rfl [[o], [An 0, An 1, An 2, An 3, An 4, An 5, An 6, An 7, An 8]] rfl rfl rfl rfl rfl rfl (Nat.le_of_ble_eq_true rfl) rfl dX5_tenderFor_2 ?_
  refine J_if_ne (tgt := 10) 5 dX5_tenderFor_5 (by decide) (fun _ => ?_) (fun c_3_ => absurd c_3_ (by decide))
  refine J_iconst (v := 0) 10 dX5_tenderFor_10 rfl ?_
  refine J_istore_n (lv' := [some (.ref o), some (.int (nI h)), some (.int 0), none, none, none, none]) 11 2 dX5_tenderFor_11 rfl (by decide) rfl ?_
  refine J_iconst (v := (-1)) 12 dX5_tenderFor_12 rfl ?_
  refine J_istore_n (lv' := [some (.ref o), some (.int (nI h)), some (.int 0), some (.int (-1)), none, none, none]) 13 3 dX5_tenderFor_13 rfl (by decide) rfl ?_
  refine J_iconst (v := 0) 14 dX5_tenderFor_14 rfl ?_
  refine J_istore (lv' := [some (.ref o), some (.int (nI h)), some (.int 0), some (.int (-1)), some (.int 0), none, none]) 15 dX5_tenderFor_15 (by decide) rfl ?_
  exact cut_17_ ((100 - 0) + 1) 0 0 (-1) t_la t_ns t_sd t_to t_he t_sw t_nh t_ki t_te t_mi t_ar t_z (Nat.lt_succ_self _) (by first | assumption | omega | rfl) (by first | rfl | exact fBest_t hb (by rw [Nat.zero_add]) (by assumption) | exact fBest_f hb (by rw [Nat.zero_add]) (by assumption) | (rw [fBest_t hb (by rw [Nat.zero_add]) (by assumption), Nat.zero_add]))
set_option maxRecDepth 100000 in
set_option maxHeartbeats 4000000 in
theorem c_X5_nextFor_bad (l : Launch) (G : Gd) (h : Int32) (o : Nat) (An : Nat → Nat) (Ak : Nat → Nat) (At : Nat → Nat) (Ad : Nat → Nat) (kk : Int32) (tp : Nat) (rw : Nat) (rc : Nat) (sh : Nat) (sf : Nat) (de : Nat) (la : Nat → Int32) (ns : Nat) (sd : Nat) (to : Nat → Int32) (he : Nat → Int32) (sw : Nat → Int32) (nh : Nat) (ki : Nat → Int32) (te : Nat → Int32) (mi : Nat → Int32) (ar : Nat → Int32) (z : Int32) (hw : ¬ (0 ≤ h ∧ h ≤ nI nh - 1)) : Ct l G yX5_nextFor cX5_nextFor 7 (some (FieldType.int)) 5 [.ref o, .int h] (wF [wMe o (An 0) (Ak 0) (At 0) (Ad 0) kk tp rw rc sh sf de, wCt G An la ns sd to he sw nh ki te mi ar z]) (some (.int (-1))) (wF [wMe o (An 0) (Ak 0) (At 0) (Ad 0) kk tp rw rc sh sf de, wCt G An la ns sd to he sw nh ki te mi ar z]) := by
  refine Ct.of "GooseArms" [some (.ref o), some (.int h), none, none, none, none, none] (by decide +kernel) rfl (Nat.le_of_ble_eq_true rfl) rfl ?_
  refine J_aload_n 0 0 dX5_nextFor_0 rfl rfl ?_
  refine J_iload_n 1 1 dX5_nextFor_1 rfl rfl ?_
  refine kb_RX5_135 (bs' := [wMe o (An 0) (Ak 0) (At 0) (Ad 0) kk tp rw rc sh sf de, wCt G An la ns sd to he sw nh ki te mi ar z]) (rest := []) (st' := [.int 0]) 2 (c_X5_isHearer_f l G h o An Ak At Ad kk tp rw rc sh sf de la ns sd to he sw nh ki te mi ar z (by first | omega | assumption)) [0, 1] 0 rfl rfl rfl [[o], [An 0, An 1, An 2, An 3, An 4, An 5, An 6, An 7, An 8]] rfl rfl rfl rfl rfl rfl (Nat.le_of_ble_eq_true rfl) rfl dX5_nextFor_2 ?_
  refine J_if_ne (tgt := 10) 5 dX5_nextFor_5 (by decide) (fun c_1_ => absurd c_1_ (by decide)) (fun _ => ?_)
  refine J_iconst (v := (-1)) 8 dX5_nextFor_8 rfl ?_
  exact J_iret 9 dX5_nextFor_9 rfl rfl
set_option maxRecDepth 100000 in
set_option maxHeartbeats 4000000 in
theorem c_X5_nextFor_ok (l : Launch) (G : Gd) (h : Nat) (o : Nat) (An : Nat → Nat) (Ak : Nat → Nat) (At : Nat → Nat) (Ad : Nat → Nat) (kk : Int32) (tp : Nat) (rw : Nat) (rc : Nat) (sh : Nat) (sf : Nat) (de : Nat) (la : Nat → Int32) (ns : Nat) (sd : Nat) (to : Nat → Int32) (he : Nat → Int32) (sw : Nat → Int32) (nh : Nat) (ki : Nat → Int32) (te : Nat → Int32) (mi : Nat → Int32) (ar : Nat → Int32) (z : Int32) (t_la : Nat → Int32) (t_ns : Nat) (t_sd : Nat) (t_to : Nat → Int32) (t_he : Nat → Int32) (t_sw : Nat → Int32) (t_nh : Nat) (t_ki : Nat → Int32) (t_te : Nat → Int32) (t_mi : Nat → Int32) (t_ar : Nat → Int32) (t_z : Int32) (hh : h < nh) (hnh : nh ≤ 8) (hns : ns ≤ 12) (hsd : sd ≤ ns) : CtP l G yX5_nextFor cX5_nextFor 7 (some (FieldType.int)) 5 [.ref o, .int (nI h)] (wF [wMe o (An 0) (Ak 0) (At 0) (Ad 0) kk tp rw rc sh sf de, wCt G An la ns sd to he sw nh ki te mi ar z, wCt G At t_la t_ns t_sd t_to t_he t_sw t_nh t_ki t_te t_mi t_ar t_z]) (some (.int ((fBest (-3) sd (fun j_ => nI (fRt la ki mi te ar (fSw to sd j_) (fSw he sd j_) (fSw sw sd j_) ns sd h)) (ns - sd)).1))) (fun w_ => ∃ (j_2_la : Nat → Int32) (j_2_ns : Nat) (j_2_sd : Nat) (j_2_to : Nat → Int32) (j_2_he : Nat → Int32) (j_2_sw : Nat → Int32) (j_2_nh : Nat) (j_2_ki : Nat → Int32) (j_2_te : Nat → Int32) (j_2_mi : Nat → Int32) (j_2_ar : Nat → Int32) (j_2_z : Int32), w_ = (wF [wMe o (An 0) (Ak 0) (At 0) (Ad 0) kk tp rw rc sh sf de, wCt G An la ns sd to he sw nh ki te mi ar z, wCt G At j_2_la j_2_ns j_2_sd j_2_to j_2_he j_2_sw j_2_nh j_2_ki j_2_te j_2_mi j_2_ar j_2_z])) := by
  refine CtP.of "GooseArms" [some (.ref o), some (.int (nI h)), none, none, none, none, none] (by decide +kernel) rfl (Nat.le_of_ble_eq_true rfl) rfl ?_
  have cut_24_ : ∀ (n_24_ : Nat) (j : Nat) (b : Int32) (m : Int32) (t_la1 : Nat → Int32) (t_ns1 : Nat) (t_sd1 : Nat) (t_to1 : Nat → Int32) (t_he1 : Nat → Int32) (t_sw1 : Nat → Int32) (t_nh1 : Nat) (t_ki1 : Nat → Int32) (t_te1 : Nat → Int32) (t_mi1 : Nat → Int32) (t_ar1 : Nat → Int32) (t_z1 : Int32), (ns - j < n_24_) → (hj0 : sd ≤ j) → (hj : j ≤ ns) → (hb : fBest (-3) sd (fun j_ => nI (fRt la ki mi te ar (fSw to sd j_) (fSw he sd j_) (fSw sw sd j_) ns sd h)) (j - sd) = (b, m)) → J l G (bdP G 5 (some (FieldType.int)) (some (.int ((fBest (-3) sd (fun j_ => nI (fRt la ki mi te ar (fSw to sd j_) (fSw he sd j_) (fSw sw sd j_) ns sd h)) (ns - sd)).1))) (fun w_ => ∃ (j_2_la : Nat → Int32) (j_2_ns : Nat) (j_2_sd : Nat) (j_2_to : Nat → Int32) (j_2_he : Nat → Int32) (j_2_sw : Nat → Int32) (j_2_nh : Nat) (j_2_ki : Nat → Int32) (j_2_te : Nat → Int32) (j_2_mi : Nat → Int32) (j_2_ar : Nat → Int32) (j_2_z : Int32), w_ = (wF [wMe o (An 0) (Ak 0) (At 0) (Ad 0) kk tp rw rc sh sf de, wCt G An la ns sd to he sw nh ki te mi ar z, wCt G At j_2_la j_2_ns j_2_sd j_2_to j_2_he j_2_sw j_2_nh j_2_ki j_2_te j_2_mi j_2_ar j_2_z]))) cX5_nextFor 7 "GooseArms" 24 [some (.ref o), some (.int (nI h)), some (.int b), some (.int m), some (.int (nI j)), none, none] [] (wF [wMe o (An 0) (Ak 0) (At 0) (Ad 0) kk tp rw rc sh sf de, wCt G An la ns sd to he sw nh ki te mi ar z, wCt G At t_la1 t_ns1 t_sd1 t_to1 t_he1 t_sw1 t_nh1 t_ki1 t_te1 t_mi1 t_ar1 t_z1]) := by
    intro n_24_
    induction n_24_ with
    | zero => intro j b m t_la1 t_ns1 t_sd1 t_to1 t_he1 t_sw1 t_nh1 t_ki1 t_te1 t_mi1 t_ar1 t_z1 m_24_; exact absurd m_24_ (Nat.not_lt_zero _)
    | succ n_24_ ih_24_ =>
      intro j b m t_la1 t_ns1 t_sd1 t_to1 t_he1 t_sw1 t_nh1 t_ki1 t_te1 t_mi1 t_ar1 t_z1 m_24_ hj0 hj hb
      refine J_iload 24 dX5_nextFor_24 rfl ?_
      refine J_aload_n 26 0 dX5_nextFor_26 rfl rfl ?_
      refine g_196 (v := .ref (An 0)) 27 0 rfl rfl dX5_nextFor_27 ?_
      refine g_43 (v := .int (nI ns)) 30 1 rfl rfl dX5_nextFor_30 ?_
      refine J_icmp_ge (tgt := 82) 33 dX5_nextFor_33 (by decide) (fun c_1_ => ?_) (fun c_1_ => ?_)
      · skip
        have c_1_ : ns ≤ j := (nI_leI (a := ns) (b := j) (by omega) (by omega)).mp c_1_
        refine J_iload_n 82 2 dX5_nextFor_82 rfl rfl ?_
        exact J_iretP 83 dX5_nextFor_83 (congrArg (fun x_ => some (Value.int x_)) (by rw [← show j - sd = ns - sd by omega, hb])) ⟨t_la1, t_ns1, t_sd1, t_to1, t_he1, t_sw1, t_nh1, t_ki1, t_te1, t_mi1, t_ar1, t_z1, rfl⟩
      · skip
        have c_1_ : ¬ ns ≤ j := fun z_ => c_1_ ((nI_leI (a := ns) (b := j) (by omega) (by omega)).mpr z_)
        refine J_aload_n 36 0 dX5_nextFor_36 rfl rfl ?_
        refine kb_RX5_180 (bs' := [wMe o (An 0) (Ak 0) (At 0) (Ad 0) kk tp rw rc sh sf de, wCt G An la ns sd to he sw nh ki te mi ar z, wCt G At la ns sd to he sw nh ki te mi ar z]) (rest := []) (st' := [.ref (At 0)]) 37 (c_X5_tried l G o An Ak At Ad kk tp rw rc sh sf de la ns sd to he sw nh ki te mi ar z t_la1 t_ns1 t_sd1 t_to1 t_he1 t_sw1 t_nh1 t_ki1 t_te1 t_mi1 t_ar1 t_z1 ) [0, 1, 2] 0 rfl rfl rfl [[o], [An 0, An 1, An 2, An 3, An 4, An 5, An 6, An 7, An 8], [At 0, At 1, At 2, At 3, At 4, At 5, At 6, At 7, At 8]] rfl rfl rfl rfl rfl rfl (Nat.le_of_ble_eq_true rfl) rfl dX5_nextFor_37 ?_
        refine J_astore (lv' := [some (.ref o), some (.int (nI h)), some (.int b), some (.int m), some (.int (nI j)), some (.ref (At 0)), none]) 40 dX5_nextFor_40 (by decide) rfl ?_
        refine J_aload 42 dX5_nextFor_42 rfl ?_
        refine J_aload_n 44 0 dX5_nextFor_44 rfl rfl ?_
        refine g_196 (v := .ref (An 0)) 45 0 rfl rfl dX5_nextFor_45 ?_
        refine g_45 (v := .int (nI sd)) 48 1 rfl rfl dX5_nextFor_48 ?_
        refine J_iload 51 dX5_nextFor_51 rfl ?_
        refine kb_RX5_212 (bs' := [wMe o (An 0) (Ak 0) (At 0) (Ad 0) kk tp rw rc sh sf de, wCt G An la ns sd to he sw nh ki te mi ar z, wCt G At la ns sd (fSw to sd j) (fSw he sd j) (fSw sw sd j) nh ki te mi ar z]) (rest := []) (st' := []) 53 (c_X0_changePlaces l G sd j At la ns sd to he sw nh ki te mi ar z (by first | omega | assumption) (by first | omega | assumption)) [2] 10 rfl rfl rfl [[At 0, At 1, At 2, At 3, At 4, At 5, At 6, At 7, At 8]] rfl rfl rfl rfl rfl rfl (Nat.le_of_ble_eq_true rfl) rfl dX5_nextFor_53 ?_
        refine J_aload 56 dX5_nextFor_56 rfl ?_
        refine J_iload_n 58 1 dX5_nextFor_58 rfl rfl ?_
        refine kb_RX5_199 (bs' := [wMe o (An 0) (Ak 0) (At 0) (Ad 0) kk tp rw rc sh sf de, wCt G An la ns sd to he sw nh ki te mi ar z, wCt G At la ns (sd + min 12 (ns - sd)) (fSw to sd j) (fSw he sd j) (fSw sw sd j) nh ki (fTe (fun h_ => h_ < nh ∧ hasP (onlyI (nI h)) (nI h_)) la ki mi te ar (fSw to sd j) (fSw he sd j) (fSw sw sd j) sd (min 12 (ns - sd))) mi (fAr (fun h_ => h_ < nh ∧ hasP (onlyI (nI h)) (nI h_)) la ki mi te ar (fSw to sd j) (fSw he sd j) (fSw sw sd j) sd (min 12 (ns - sd))) z]) (rest := []) (st' := [.int (nI (fRt la ki mi te ar (fSw to sd j) (fSw he sd j) (fSw sw sd j) ns sd h))]) 59 (c_X5_rightInTheEnd l G h At la ns sd (fSw to sd j) (fSw he sd j) (fSw sw sd j) nh ki te mi ar z (by first | omega | assumption) (by first | omega | assumption) (by first | omega | assumption) (by first | omega | assumption)) [2] rfl rfl [[At 0, At 1, At 2, At 3, At 4, At 5, At 6, At 7, At 8]] rfl rfl rfl rfl rfl rfl (Nat.le_of_ble_eq_true rfl) rfl dX5_nextFor_59 ?_
        refine J_istore (lv' := [some (.ref o), some (.int (nI h)), some (.int b), some (.int m), some (.int (nI j)), some (.ref (At 0)), some (.int (nI (fRt la ki mi te ar (fSw to sd j) (fSw he sd j) (fSw sw sd j) ns sd h)))]) 62 dX5_nextFor_62 (by decide) rfl ?_
        refine J_iload 64 dX5_nextFor_64 rfl ?_
        refine J_iload_n 66 3 dX5_nextFor_66 rfl rfl ?_
        refine J_icmp_le (tgt := 76) 67 dX5_nextFor_67 (by decide) (fun c_2_ => ?_) (fun c_2_ => ?_)
        · skip
          refine J_iinc (v := nI (j + 1)) (lv' := [some (.ref o), some (.int (nI h)), some (.int b), some (.int m), some (.int (nI (j + 1))), some (.ref (At 0)), some (.int (nI (fRt la ki mi te ar (fSw to sd j) (fSw he sd j) (fSw sw sd j) ns sd h)))]) 76 dX5_nextFor_76 rfl (nI_add _ 1) (by decide) rfl ?_
          refine J_goto (tgt := 24) 79 dX5_nextFor_79 (by decide) ?_
          refine J_mask (lv' := [some (.ref o), some (.int (nI h)), some (.int b), some (.int m), some (.int (nI (j + 1))), none, none]) 24 [true, true, true, true, true, false, false] rfl ?_
          exact ih_24_ (j + 1) b m la ns (sd + min 12 (ns - sd)) (fSw to sd j) (fSw he sd j) (fSw sw sd j) nh ki (fTe (fun h_ => h_ < nh ∧ hasP (onlyI (nI h)) (nI h_)) la ki mi te ar (fSw to sd j) (fSw he sd j) (fSw sw sd j) sd (min 12 (ns - sd))) mi (fAr (fun h_ => h_ < nh ∧ hasP (onlyI (nI h)) (nI h_)) la ki mi te ar (fSw to sd j) (fSw he sd j) (fSw sw sd j) sd (min 12 (ns - sd))) z (by omega) (by first | assumption | omega | rfl) (by first | assumption | omega | rfl) (by first | (rw [Nat.sub_self]; rfl) | (rw [show j + 1 - sd = (j - sd) + 1 by omega, fBest_t hb (by rw [show sd + (j - sd) = j by omega]) (by assumption), show sd + (j - sd) = j by omega]) | (rw [show j + 1 - sd = (j - sd) + 1 by omega]; exact fBest_f hb (by rw [show sd + (j - sd) = j by omega]) (by assumption)))
        · skip
          refine J_iload 70 dX5_nextFor_70 rfl ?_
          refine J_istore_n (lv' := [some (.ref o), some (.int (nI h)), some (.int b), some (.int (nI (fRt la ki mi te ar (fSw to sd j) (fSw he sd j) (fSw sw sd j) ns sd h))), some (.int (nI j)), some (.ref (At 0)), some (.int (nI (fRt la ki mi te ar (fSw to sd j) (fSw he sd j) (fSw sw sd j) ns sd h)))]) 72 3 dX5_nextFor_72 rfl (by decide) rfl ?_
          refine J_iload 73 dX5_nextFor_73 rfl ?_
          refine J_istore_n (lv' := [some (.ref o), some (.int (nI h)), some (.int (nI j)), some (.int (nI (fRt la ki mi te ar (fSw to sd j) (fSw he sd j) (fSw sw sd j) ns sd h))), some (.int (nI j)), some (.ref (At 0)), some (.int (nI (fRt la ki mi te ar (fSw to sd j) (fSw he sd j) (fSw sw sd j) ns sd h)))]) 75 2 dX5_nextFor_75 rfl (by decide) rfl ?_
          refine J_iinc (v := nI (j + 1)) (lv' := [some (.ref o), some (.int (nI h)), some (.int (nI j)), some (.int (nI (fRt la ki mi te ar (fSw to sd j) (fSw he sd j) (fSw sw sd j) ns sd h))), some (.int (nI (j + 1))), some (.ref (At 0)), some (.int (nI (fRt la ki mi te ar (fSw to sd j) (fSw he sd j) (fSw sw sd j) ns sd h)))]) 76 dX5_nextFor_76 rfl (nI_add _ 1) (by decide) rfl ?_
          refine J_goto (tgt := 24) 79 dX5_nextFor_79 (by decide) ?_
          refine J_mask (lv' := [some (.ref o), some (.int (nI h)), some (.int (nI j)), some (.int (nI (fRt la ki mi te ar (fSw to sd j) (fSw he sd j) (fSw sw sd j) ns sd h))), some (.int (nI (j + 1))), none, none]) 24 [true, true, true, true, true, false, false] rfl ?_
          exact ih_24_ (j + 1) (nI j) (nI (fRt la ki mi te ar (fSw to sd j) (fSw he sd j) (fSw sw sd j) ns sd h)) la ns (sd + min 12 (ns - sd)) (fSw to sd j) (fSw he sd j) (fSw sw sd j) nh ki (fTe (fun h_ => h_ < nh ∧ hasP (onlyI (nI h)) (nI h_)) la ki mi te ar (fSw to sd j) (fSw he sd j) (fSw sw sd j) sd (min 12 (ns - sd))) mi (fAr (fun h_ => h_ < nh ∧ hasP (onlyI (nI h)) (nI h_)) la ki mi te ar (fSw to sd j) (fSw he sd j) (fSw sw sd j) sd (min 12 (ns - sd))) z (by omega) (by first | assumption | omega | rfl) (by first | assumption | omega | rfl) (by first | (rw [Nat.sub_self]; rfl) | (rw [show j + 1 - sd = (j - sd) + 1 by omega, fBest_t hb (by rw [show sd + (j - sd) = j by omega]) (by assumption), show sd + (j - sd) = j by omega]) | (rw [show j + 1 - sd = (j - sd) + 1 by omega]; exact fBest_f hb (by rw [show sd + (j - sd) = j by omega]) (by assumption)))
  refine J_aload_n 0 0 dX5_nextFor_0 rfl rfl ?_
  refine J_iload_n 1 1 dX5_nextFor_1 rfl rfl ?_
  refine kb_RX5_135 (bs' := [wMe o (An 0) (Ak 0) (At 0) (Ad 0) kk tp rw rc sh sf de, wCt G An la ns sd to he sw nh ki te mi ar z, wCt G At t_la t_ns t_sd t_to t_he t_sw t_nh t_ki t_te t_mi t_ar t_z]) (rest := []) (st' := [.int 1]) 2 (c_X5_isHearer_t l G h o An Ak At Ad kk tp rw rc sh sf de la ns sd to he sw nh ki te mi ar z (by assumption) (by omega)) [0, 1] 0 rfl rfl rfl [[o], [An 0, An 1, An 2, An 3, An 4, An 5, An 6, An 7, An 8]] rfl rfl rfl rfl rfl rfl (Nat.le_of_ble_eq_true rfl) rfl dX5_nextFor_2 ?_
  refine J_if_ne (tgt := 10) 5 dX5_nextFor_5 (by decide) (fun _ => ?_) (fun c_3_ => absurd c_3_ (by decide))
  refine J_bipush (v := (-3)) 10 dX5_nextFor_10 rfl ?_
  refine J_istore_n (lv' := [some (.ref o), some (.int (nI h)), some (.int (-3)), none, none, none, none]) 12 2 dX5_nextFor_12 rfl (by decide) rfl ?_
  refine J_iconst (v := (-1)) 13 dX5_nextFor_13 rfl ?_
  refine J_istore_n (lv' := [some (.ref o), some (.int (nI h)), some (.int (-3)), some (.int (-1)), none, none, none]) 14 3 dX5_nextFor_14 rfl (by decide) rfl ?_
  refine J_aload_n 15 0 dX5_nextFor_15 rfl rfl ?_
  refine g_196 (v := .ref (An 0)) 16 0 rfl rfl dX5_nextFor_16 ?_
  refine g_45 (v := .int (nI sd)) 19 1 rfl rfl dX5_nextFor_19 ?_
  refine J_istore (lv' := [some (.ref o), some (.int (nI h)), some (.int (-3)), some (.int (-1)), some (.int (nI sd)), none, none]) 22 dX5_nextFor_22 (by decide) rfl ?_
  exact cut_24_ ((ns - sd) + 1) sd (-3) (-1) t_la t_ns t_sd t_to t_he t_sw t_nh t_ki t_te t_mi t_ar t_z (Nat.lt_succ_self _) (by first | assumption | omega | rfl) (by first | assumption | omega | rfl) (by first | (rw [Nat.sub_self]; rfl) | (rw [show j + 1 - sd = (j - sd) + 1 by omega, fBest_t hb (by rw [show sd + (j - sd) = j by omega]) (by assumption), show sd + (j - sd) = j by omega]) | (rw [show j + 1 - sd = (j - sd) + 1 by omega]; exact fBest_f hb (by rw [show sd + (j - sd) = j by omega]) (by assumption)))
