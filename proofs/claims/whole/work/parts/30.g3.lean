set_option maxRecDepth 100000 in
set_option maxHeartbeats 4000000 in
theorem c_X5_feed_bad (l : Launch) (G : Gd) (e : Int64) (n : Int32) (o : Nat) (An : Nat → Nat) (Ak : Nat → Nat) (At : Nat → Nat) (Ad : Nat → Nat) (kk : Int32) (tp : Nat) (rw : Nat) (rc : Nat) (sh : Nat) (sf : Nat) (de : Nat) (hw : ¬ (1 ≤ n ∧ n ≤ 8)) : Ct l G yX5_feed cX5_feed 4 (some (FieldType.int)) 1 [.ref o, .long e, .int n] (wF [wMe o (An 0) (Ak 0) (At 0) (Ad 0) kk tp rw rc sh sf de]) (some (.int (-1))) (wF [wMe o (An 0) (Ak 0) (At 0) (Ad 0) kk tp rw rc sh sf de]) := by
  refine Ct.of "GooseArms" [some (.ref o), some (.long e), none, some (.int n)] (by decide +kernel) rfl (Nat.le_of_ble_eq_true rfl) rfl ?_
  refine J_iload_n 0 3 dX5_feed_0 rfl rfl ?_
  refine J_iconst (v := 1) 1 dX5_feed_1 rfl ?_
  refine J_bipush (v := 8) 2 dX5_feed_2 rfl ?_
  refine kb_RX5_65 (bs' := [wMe o (An 0) (Ak 0) (At 0) (Ad 0) kk tp rw rc sh sf de]) (rest := []) (st' := [.int (bI (1 ≤ n ∧ n ≤ 8))]) 4 (c_X5_within l G n 1 8 ) [] rfl rfl [] rfl rfl rfl rfl rfl rfl (Nat.le_of_ble_eq_true rfl) rfl dX5_feed_4 ?_
  refine J_ifB_ne (tgt := 12) 7 dX5_feed_7 (by decide) (fun c_1_ => ?_) (fun c_1_ => ?_)
  · skip
    exact absurd (by assumption) hw
  · skip
    refine J_iconst (v := (-1)) 10 dX5_feed_10 rfl ?_
    exact J_iret 11 dX5_feed_11 rfl rfl
set_option maxRecDepth 100000 in
set_option maxHeartbeats 4000000 in
theorem c_X5_feed_ok (l : Launch) (G : Gd) (e : Int64) (n : Nat) (o : Nat) (An : Nat → Nat) (Ak : Nat → Nat) (At : Nat → Nat) (Ad : Nat → Nat) (kk : Int32) (tp : Nat) (rw : Nat) (rc : Nat) (sh : Nat) (sf : Nat) (de : Nat) (by_ : Nat) (ln : Nat) (st : Nat) (en : Nat) (so : Int32) (va : Int32) (fa : Int32) (f : Nat → Int32) (h1 : 1 ≤ n) (h8 : n ≤ 8) (hn : ln + n ≤ 200) : Ct l G yX5_feed cX5_feed 4 (some (FieldType.int)) 1 [.ref o, .long e, .int (nI n)] (wF [wMe o (An 0) (Ak 0) (At 0) (Ad 0) kk tp rw rc sh sf de, wTp tp by_ ln st en so va fa, wB G by_ 200 f]) (some (.int (nI (ln + n)))) (wF [wMe o (An 0) (Ak 0) (At 0) (Ad 0) kk tp rw rc sh sf de, wTp tp by_ (ln + n) st en so va fa, wB G by_ 200 (fPutB f ln e n)]) := by
  refine Ct.of "GooseArms" [some (.ref o), some (.long e), none, some (.int (nI n))] (by decide +kernel) rfl (Nat.le_of_ble_eq_true rfl) rfl ?_
  refine J_iload_n 0 3 dX5_feed_0 rfl rfl ?_
  refine J_iconst (v := 1) 1 dX5_feed_1 rfl ?_
  refine J_bipush (v := 8) 2 dX5_feed_2 rfl ?_
  refine kb_RX5_65 (bs' := [wMe o (An 0) (Ak 0) (At 0) (Ad 0) kk tp rw rc sh sf de, wTp tp by_ ln st en so va fa, wB G by_ 200 f]) (rest := []) (st' := [.int 1]) 4 (c_X5_within_t l G (nI n) 1 8 (inM_t (a := 1) (m := 8) h1 h8 (by decide))) [] rfl rfl [] rfl rfl rfl rfl rfl rfl (Nat.le_of_ble_eq_true rfl) rfl dX5_feed_4 ?_
  refine J_if_ne (tgt := 12) 7 dX5_feed_7 (by decide) (fun _ => ?_) (fun c_1_ => absurd c_1_ (by decide))
  refine J_aload_n 12 0 dX5_feed_12 rfl rfl ?_
  refine g_201 (v := .ref tp) 13 0 rfl rfl dX5_feed_13 ?_
  refine J_lload_n 16 1 dX5_feed_16 rfl rfl ?_
  refine J_iload_n 17 3 dX5_feed_17 rfl rfl ?_
  refine kb_RX5_69 (bs' := [wMe o (An 0) (Ak 0) (At 0) (Ad 0) kk tp rw rc sh sf de, wTp tp by_ (ln + n) st en so va fa, wB G by_ 200 (fPutB f ln e n)]) (rest := []) (st' := [.int 1]) 18 (c_X4_takes l G e n tp by_ ln st en so va fa f (by first | omega | assumption)) [1, 2] 1 rfl rfl rfl [[tp], [by_]] rfl rfl rfl rfl rfl rfl (Nat.le_of_ble_eq_true rfl) rfl dX5_feed_18 ?_
  refine J_if_eq (tgt := 34) 21 dX5_feed_21 (by decide) (fun c_2_ => absurd c_2_ (by decide)) (fun _ => ?_)
  refine J_aload_n 24 0 dX5_feed_24 rfl rfl ?_
  refine g_201 (v := .ref tp) 25 0 rfl rfl dX5_feed_25 ?_
  refine g_99 (v := .int (nI (ln + n))) 28 1 rfl rfl dX5_feed_28 ?_
  refine J_goto (tgt := 36) 31 dX5_feed_31 (by decide) ?_
  exact J_iret 36 dX5_feed_36 rfl rfl
set_option maxRecDepth 100000 in
set_option maxHeartbeats 4000000 in
theorem c_X5_feed_full (l : Launch) (G : Gd) (e : Int64) (n : Nat) (o : Nat) (An : Nat → Nat) (Ak : Nat → Nat) (At : Nat → Nat) (Ad : Nat → Nat) (kk : Int32) (tp : Nat) (rw : Nat) (rc : Nat) (sh : Nat) (sf : Nat) (de : Nat) (by_ : Nat) (ln : Nat) (st : Nat) (en : Nat) (so : Int32) (va : Int32) (fa : Int32) (f : Nat → Int32) (h1 : 1 ≤ n) (h8 : n ≤ 8) (hn : 200 < ln + n) (hl : ln ≤ 200) : Ct l G yX5_feed cX5_feed 4 (some (FieldType.int)) 1 [.ref o, .long e, .int (nI n)] (wF [wMe o (An 0) (Ak 0) (At 0) (Ad 0) kk tp rw rc sh sf de, wTp tp by_ ln st en so va fa, wB G by_ 200 f]) (some (.int (-2))) (wF [wMe o (An 0) (Ak 0) (At 0) (Ad 0) kk tp rw rc sh sf de, wTp tp by_ ln st en so va fa, wB G by_ 200 f]) := by
  refine Ct.of "GooseArms" [some (.ref o), some (.long e), none, some (.int (nI n))] (by decide +kernel) rfl (Nat.le_of_ble_eq_true rfl) rfl ?_
  refine J_iload_n 0 3 dX5_feed_0 rfl rfl ?_
  refine J_iconst (v := 1) 1 dX5_feed_1 rfl ?_
  refine J_bipush (v := 8) 2 dX5_feed_2 rfl ?_
  refine kb_RX5_65 (bs' := [wMe o (An 0) (Ak 0) (At 0) (Ad 0) kk tp rw rc sh sf de, wTp tp by_ ln st en so va fa, wB G by_ 200 f]) (rest := []) (st' := [.int 1]) 4 (c_X5_within_t l G (nI n) 1 8 (inM_t (a := 1) (m := 8) h1 h8 (by decide))) [] rfl rfl [] rfl rfl rfl rfl rfl rfl (Nat.le_of_ble_eq_true rfl) rfl dX5_feed_4 ?_
  refine J_if_ne (tgt := 12) 7 dX5_feed_7 (by decide) (fun _ => ?_) (fun c_1_ => absurd c_1_ (by decide))
  refine J_aload_n 12 0 dX5_feed_12 rfl rfl ?_
  refine g_201 (v := .ref tp) 13 0 rfl rfl dX5_feed_13 ?_
  refine J_lload_n 16 1 dX5_feed_16 rfl rfl ?_
  refine J_iload_n 17 3 dX5_feed_17 rfl rfl ?_
  refine kb_RX5_69 (bs' := [wMe o (An 0) (Ak 0) (At 0) (Ad 0) kk tp rw rc sh sf de, wTp tp by_ ln st en so va fa, wB G by_ 200 f]) (rest := []) (st' := [.int 0]) 18 (c_X4_takes_full l G e n tp by_ ln st en so va fa f (by first | omega | assumption) (by first | omega | assumption)) [1, 2] 1 rfl rfl rfl [[tp], [by_]] rfl rfl rfl rfl rfl rfl (Nat.le_of_ble_eq_true rfl) rfl dX5_feed_18 ?_
  refine J_if_eq (tgt := 34) 21 dX5_feed_21 (by decide) (fun _ => ?_) (fun c_2_ => absurd c_2_ (by decide))
  refine J_bipush (v := (-2)) 34 dX5_feed_34 rfl ?_
  exact J_iret 36 dX5_feed_36 rfl rfl
set_option maxRecDepth 100000 in
set_option maxHeartbeats 4000000 in
theorem c_X5_court_bad (l : Launch) (G : Gd) (o : Nat) (An : Nat → Nat) (Ak : Nat → Nat) (At : Nat → Nat) (Ad : Nat → Nat) (kk : Int32) (tp : Nat) (rw : Nat) (rc : Nat) (sh : Nat) (sf : Nat) (de : Nat) (d_la : Nat → Int32) (d_ns : Nat) (d_sd : Nat) (d_to : Nat → Int32) (d_he : Nat → Int32) (d_sw : Nat → Int32) (d_nh : Nat) (d_ki : Nat → Int32) (d_te : Nat → Int32) (d_mi : Nat → Int32) (d_ar : Nat → Int32) (d_z : Int32) (la : Nat → Int32) (ns : Nat) (sd : Nat) (to : Nat → Int32) (he : Nat → Int32) (sw : Nat → Int32) (nh : Nat) (ki : Nat → Int32) (te : Nat → Int32) (mi : Nat → Int32) (ar : Nat → Int32) (z : Int32) (by_ : Nat) (ln : Nat) (st : Nat) (en : Nat) (so : Int32) (va : Int32) (fa : Int32) (f : Nat → Int32) (hln : ln ≤ 200) (hf : 0 ≤ (fCrt f ln st so va d_to d_he d_sw d_ki d_te d_mi d_ar).1.2.2.2.2) : CtP l G yX5_court cX5_court 2 (some (FieldType.int)) 9 [.ref o] (wF [wMe o (An 0) (Ak 0) (At 0) (Ad 0) kk tp rw rc sh sf de, wCt G Ad d_la d_ns d_sd d_to d_he d_sw d_nh d_ki d_te d_mi d_ar d_z, wCt G An la ns sd to he sw nh ki te mi ar z, wTp tp by_ ln st en so va fa, wB G by_ 200 f]) (some (.int (-100 - (fCrt f ln st so va d_to d_he d_sw d_ki d_te d_mi d_ar).1.2.2.2.2))) (fun w_ => ∃ (j_1_la : Nat → Int32) (j_1_ns : Nat) (j_1_sd : Nat) (j_1_to : Nat → Int32) (j_1_he : Nat → Int32) (j_1_sw : Nat → Int32) (j_1_nh : Nat) (j_1_ki : Nat → Int32) (j_1_te : Nat → Int32) (j_1_mi : Nat → Int32) (j_1_ar : Nat → Int32) (j_1_z : Int32) (j_3_st : Nat) (j_3_en : Nat) (j_3_so : Int32) (j_3_va : Int32) (j_3_fa : Int32), w_ = (wF [wMe o (An 0) (Ak 0) (At 0) (Ad 0) kk tp rw rc sh sf de, wCt G Ad j_1_la j_1_ns j_1_sd j_1_to j_1_he j_1_sw j_1_nh j_1_ki j_1_te j_1_mi j_1_ar j_1_z, wCt G An la ns sd to he sw nh ki te mi ar z, wTp tp by_ 0 j_3_st j_3_en j_3_so j_3_va j_3_fa, wB G by_ 200 f])) := by
  refine CtP.of "GooseArms" [some (.ref o), none] (by decide +kernel) rfl (Nat.le_of_ble_eq_true rfl) rfl ?_
  refine J_aload_n 0 0 dX5_court_0 rfl rfl ?_
  refine g_199 (v := .ref (Ad 0)) 1 0 rfl rfl dX5_court_1 ?_
  refine kb_RX5_76 (bs' := [wMe o (An 0) (Ak 0) (At 0) (Ad 0) kk tp rw rc sh sf de, wCt G Ad (svI [2, 3, 1, 20]) 0 0 d_to d_he d_sw 0 d_ki d_te d_mi d_ar d_z, wCt G An la ns sd to he sw nh ki te mi ar z, wTp tp by_ ln st en so va fa, wB G by_ 200 f]) (rest := []) (st' := []) 4 (c_X0_begin l G Ad d_la d_ns d_sd d_to d_he d_sw d_nh d_ki d_te d_mi d_ar d_z ) [1] 1 rfl rfl rfl [[Ad 0, Ad 1, Ad 2, Ad 3, Ad 4, Ad 5, Ad 6, Ad 7, Ad 8]] rfl rfl rfl rfl rfl rfl (Nat.le_of_ble_eq_true rfl) rfl dX5_court_4 ?_
  refine J_aload_n 7 0 dX5_court_7 rfl rfl ?_
  refine g_201 (v := .ref tp) 8 0 rfl rfl dX5_court_8 ?_
  refine J_aload_n 11 0 dX5_court_11 rfl rfl ?_
  refine g_199 (v := .ref (Ad 0)) 12 0 rfl rfl dX5_court_12 ?_
  refine kb_RX5_79 (bs' := [wMe o (An 0) (Ak 0) (At 0) (Ad 0) kk tp rw rc sh sf de, wCt G Ad ((tAll f ln 201 (tGo f ln (st, 0, so, va, -3), ((svI [2, 3, 1, 20]), 0, d_to, d_he, d_sw, 0, d_ki, d_te, d_mi, d_ar))).2.1) ((tAll f ln 201 (tGo f ln (st, 0, so, va, -3), ((svI [2, 3, 1, 20]), 0, d_to, d_he, d_sw, 0, d_ki, d_te, d_mi, d_ar))).2.2.1) 0 ((tAll f ln 201 (tGo f ln (st, 0, so, va, -3), ((svI [2, 3, 1, 20]), 0, d_to, d_he, d_sw, 0, d_ki, d_te, d_mi, d_ar))).2.2.2.1) ((tAll f ln 201 (tGo f ln (st, 0, so, va, -3), ((svI [2, 3, 1, 20]), 0, d_to, d_he, d_sw, 0, d_ki, d_te, d_mi, d_ar))).2.2.2.2.1) ((tAll f ln 201 (tGo f ln (st, 0, so, va, -3), ((svI [2, 3, 1, 20]), 0, d_to, d_he, d_sw, 0, d_ki, d_te, d_mi, d_ar))).2.2.2.2.2.1) ((tAll f ln 201 (tGo f ln (st, 0, so, va, -3), ((svI [2, 3, 1, 20]), 0, d_to, d_he, d_sw, 0, d_ki, d_te, d_mi, d_ar))).2.2.2.2.2.2.1) ((tAll f ln 201 (tGo f ln (st, 0, so, va, -3), ((svI [2, 3, 1, 20]), 0, d_to, d_he, d_sw, 0, d_ki, d_te, d_mi, d_ar))).2.2.2.2.2.2.2.1) ((tAll f ln 201 (tGo f ln (st, 0, so, va, -3), ((svI [2, 3, 1, 20]), 0, d_to, d_he, d_sw, 0, d_ki, d_te, d_mi, d_ar))).2.2.2.2.2.2.2.2.1) ((tAll f ln 201 (tGo f ln (st, 0, so, va, -3), ((svI [2, 3, 1, 20]), 0, d_to, d_he, d_sw, 0, d_ki, d_te, d_mi, d_ar))).2.2.2.2.2.2.2.2.2.1) ((tAll f ln 201 (tGo f ln (st, 0, so, va, -3), ((svI [2, 3, 1, 20]), 0, d_to, d_he, d_sw, 0, d_ki, d_te, d_mi, d_ar))).2.2.2.2.2.2.2.2.2.2) d_z, wCt G An la ns sd to he sw nh ki te mi ar z, wTp tp by_ ln ((tAll f ln 201 (tGo f ln (st, 0, so, va, -3), ((svI [2, 3, 1, 20]), 0, d_to, d_he, d_sw, 0, d_ki, d_te, d_mi, d_ar))).1.1) ((tAll f ln 201 (tGo f ln (st, 0, so, va, -3), ((svI [2, 3, 1, 20]), 0, d_to, d_he, d_sw, 0, d_ki, d_te, d_mi, d_ar))).1.2.1) ((tAll f ln 201 (tGo f ln (st, 0, so, va, -3), ((svI [2, 3, 1, 20]), 0, d_to, d_he, d_sw, 0, d_ki, d_te, d_mi, d_ar))).1.2.2.1) ((tAll f ln 201 (tGo f ln (st, 0, so, va, -3), ((svI [2, 3, 1, 20]), 0, d_to, d_he, d_sw, 0, d_ki, d_te, d_mi, d_ar))).1.2.2.2.1) ((tAll f ln 201 (tGo f ln (st, 0, so, va, -3), ((svI [2, 3, 1, 20]), 0, d_to, d_he, d_sw, 0, d_ki, d_te, d_mi, d_ar))).1.2.2.2.2), wB G by_ 200 f]) (rest := []) (st' := [.int ((tAll f ln 201 (tGo f ln (st, 0, so, va, -3), ((svI [2, 3, 1, 20]), 0, d_to, d_he, d_sw, 0, d_ki, d_te, d_mi, d_ar))).1.2.2.2.2)]) 15 (c_X4_tells l G tp by_ ln st en so va fa f Ad (svI [2, 3, 1, 20]) 0 0 d_to d_he d_sw 0 d_ki d_te d_mi d_ar d_z (by first | omega | assumption) (by first | omega | assumption) (by first | omega | assumption)) [3, 4, 1] 19 rfl rfl rfl [[tp], [by_], [Ad 0, Ad 1, Ad 2, Ad 3, Ad 4, Ad 5, Ad 6, Ad 7, Ad 8]] rfl rfl rfl rfl rfl rfl (Nat.le_of_ble_eq_true rfl) rfl dX5_court_15 ?_
  obtain ⟨⟨⟨st_15, en_15, so_15, va_15, fa_15⟩, la_15, ns_15, to_15, he_15, sw_15, nh_15, ki_15, te_15, mi_15, ar_15⟩, hT_15⟩ : ∃ t_, tAll f ln 201 (tGo f ln (st, 0, so, va, -3), ((svI [2, 3, 1, 20]), 0, d_to, d_he, d_sw, 0, d_ki, d_te, d_mi, d_ar)) = t_ := ⟨_, rfl⟩
  refine J_ws (ws' := (wF [wMe o (An 0) (Ak 0) (At 0) (Ad 0) kk tp rw rc sh sf de, wCt G Ad la_15 ns_15 0 to_15 he_15 sw_15 nh_15 ki_15 te_15 mi_15 ar_15 d_z, wCt G An la ns sd to he sw nh ki te mi ar z, wTp tp by_ ln st_15 en_15 so_15 va_15 fa_15, wB G by_ 200 f])) 18 (by rw [hT_15]) ?_
  refine J_st (st' := [.int ((tAll f ln 201 (tGo f ln (st, 0, so, va, -3), ((svI [2, 3, 1, 20]), 0, d_to, d_he, d_sw, 0, d_ki, d_te, d_mi, d_ar))).1.2.2.2.2)]) 18 (by rw [hT_15]) ?_
  have hle_15 := tAll_le hT_15 (by omega) (by omega) (by omega)
  refine J_istore_n (lv' := [some (.ref o), some (.int ((tAll f ln 201 (tGo f ln (st, 0, so, va, -3), ((svI [2, 3, 1, 20]), 0, d_to, d_he, d_sw, 0, d_ki, d_te, d_mi, d_ar))).1.2.2.2.2))]) 18 1 dX5_court_18 rfl (by decide) rfl ?_
  refine J_aload_n 19 0 dX5_court_19 rfl rfl ?_
  refine g_201 (v := .ref tp) 20 0 rfl rfl dX5_court_20 ?_
  refine J_iconst (v := 0) 23 dX5_court_23 rfl ?_
  refine p_99 (ws' := (wF [wMe o (An 0) (Ak 0) (At 0) (Ad 0) kk tp rw rc sh sf de, wCt G Ad la_15 ns_15 0 to_15 he_15 sw_15 nh_15 ki_15 te_15 mi_15 ar_15 d_z, wCt G An la ns sd to he sw nh ki te mi ar z, wTp tp by_ 0 st_15 en_15 so_15 va_15 fa_15, wB G by_ 200 f])) 24 19 rfl rfl rfl (Nat.le_of_ble_eq_true rfl) rfl dX5_court_24 ?_
  refine J_iload_n 27 1 dX5_court_27 rfl rfl ?_
  refine J_if_lt (tgt := 36) 28 dX5_court_28 (by decide) (fun c_1_ => ?_) (fun c_1_ => ?_)
  · skip
    exact absurd c_1_ (Int32.not_lt.mpr hf)
  · skip
    refine J_bipush (v := (-100)) 31 dX5_court_31 rfl ?_
    refine J_iload_n 33 1 dX5_court_33 rfl rfl ?_
    refine J_isub 34 dX5_court_34 ?_
    exact J_iretP 35 dX5_court_35 (congrArg (fun x_ => some (Value.int x_)) rfl) ⟨la_15, ns_15, 0, to_15, he_15, sw_15, nh_15, ki_15, te_15, mi_15, ar_15, d_z, st_15, en_15, so_15, va_15, fa_15, rfl⟩
set_option maxRecDepth 100000 in
set_option maxHeartbeats 4000000 in
theorem c_X5_court_ok (l : Launch) (G : Gd) (o : Nat) (An : Nat → Nat) (Ak : Nat → Nat) (At : Nat → Nat) (Ad : Nat → Nat) (kk : Int32) (tp : Nat) (rw : Nat) (rc : Nat) (sh : Nat) (sf : Nat) (de : Nat) (d_la : Nat → Int32) (d_ns : Nat) (d_sd : Nat) (d_to : Nat → Int32) (d_he : Nat → Int32) (d_sw : Nat → Int32) (d_nh : Nat) (d_ki : Nat → Int32) (d_te : Nat → Int32) (d_mi : Nat → Int32) (d_ar : Nat → Int32) (d_z : Int32) (la : Nat → Int32) (ns : Nat) (sd : Nat) (to : Nat → Int32) (he : Nat → Int32) (sw : Nat → Int32) (nh : Nat) (ki : Nat → Int32) (te : Nat → Int32) (mi : Nat → Int32) (ar : Nat → Int32) (z : Int32) (by_ : Nat) (ln : Nat) (st : Nat) (en : Nat) (so : Int32) (va : Int32) (fa : Int32) (f : Nat → Int32) (hln : ln ≤ 200) (hf : (fCrt f ln st so va d_to d_he d_sw d_ki d_te d_mi d_ar).1.2.2.2.2 < 0) : CtP l G yX5_court cX5_court 2 (some (FieldType.int)) 9 [.ref o] (wF [wMe o (An 0) (Ak 0) (At 0) (Ad 0) kk tp rw rc sh sf de, wCt G Ad d_la d_ns d_sd d_to d_he d_sw d_nh d_ki d_te d_mi d_ar d_z, wCt G An la ns sd to he sw nh ki te mi ar z, wTp tp by_ ln st en so va fa, wB G by_ 200 f]) (some (.int (nI ((fCrt f ln st so va d_to d_he d_sw d_ki d_te d_mi d_ar).2.2.2.2.2.2.1)))) (fun w_ => ∃ (j_1_la : Nat → Int32) (j_1_ns : Nat) (j_1_sd : Nat) (j_1_to : Nat → Int32) (j_1_he : Nat → Int32) (j_1_sw : Nat → Int32) (j_1_nh : Nat) (j_1_ki : Nat → Int32) (j_1_te : Nat → Int32) (j_1_mi : Nat → Int32) (j_1_ar : Nat → Int32) (j_1_z : Int32) (j_3_st : Nat) (j_3_en : Nat) (j_3_so : Int32) (j_3_va : Int32) (j_3_fa : Int32), w_ = (wF [wMe o (An 0) (Ak 0) (At 0) (Ad 0) kk tp rw 0 sh sf de, wCt G Ad j_1_la j_1_ns j_1_sd j_1_to j_1_he j_1_sw j_1_nh j_1_ki j_1_te j_1_mi j_1_ar j_1_z, wCt G An ((fCrt f ln st so va d_to d_he d_sw d_ki d_te d_mi d_ar).2.1) ((fCrt f ln st so va d_to d_he d_sw d_ki d_te d_mi d_ar).2.2.1) 0 ((fCrt f ln st so va d_to d_he d_sw d_ki d_te d_mi d_ar).2.2.2.1) ((fCrt f ln st so va d_to d_he d_sw d_ki d_te d_mi d_ar).2.2.2.2.1) ((fCrt f ln st so va d_to d_he d_sw d_ki d_te d_mi d_ar).2.2.2.2.2.1) ((fCrt f ln st so va d_to d_he d_sw d_ki d_te d_mi d_ar).2.2.2.2.2.2.1) ((fCrt f ln st so va d_to d_he d_sw d_ki d_te d_mi d_ar).2.2.2.2.2.2.2.1) ((fCrt f ln st so va d_to d_he d_sw d_ki d_te d_mi d_ar).2.2.2.2.2.2.2.2.1) ((fCrt f ln st so va d_to d_he d_sw d_ki d_te d_mi d_ar).2.2.2.2.2.2.2.2.2.1) ((fCrt f ln st so va d_to d_he d_sw d_ki d_te d_mi d_ar).2.2.2.2.2.2.2.2.2.2) z, wTp tp by_ 0 j_3_st j_3_en j_3_so j_3_va j_3_fa, wB G by_ 200 f])) := by
  refine CtP.of "GooseArms" [some (.ref o), none] (by decide +kernel) rfl (Nat.le_of_ble_eq_true rfl) rfl ?_
  refine J_aload_n 0 0 dX5_court_0 rfl rfl ?_
  refine g_199 (v := .ref (Ad 0)) 1 0 rfl rfl dX5_court_1 ?_
  refine kb_RX5_76 (bs' := [wMe o (An 0) (Ak 0) (At 0) (Ad 0) kk tp rw rc sh sf de, wCt G Ad (svI [2, 3, 1, 20]) 0 0 d_to d_he d_sw 0 d_ki d_te d_mi d_ar d_z, wCt G An la ns sd to he sw nh ki te mi ar z, wTp tp by_ ln st en so va fa, wB G by_ 200 f]) (rest := []) (st' := []) 4 (c_X0_begin l G Ad d_la d_ns d_sd d_to d_he d_sw d_nh d_ki d_te d_mi d_ar d_z ) [1] 1 rfl rfl rfl [[Ad 0, Ad 1, Ad 2, Ad 3, Ad 4, Ad 5, Ad 6, Ad 7, Ad 8]] rfl rfl rfl rfl rfl rfl (Nat.le_of_ble_eq_true rfl) rfl dX5_court_4 ?_
  refine J_aload_n 7 0 dX5_court_7 rfl rfl ?_
  refine g_201 (v := .ref tp) 8 0 rfl rfl dX5_court_8 ?_
  refine J_aload_n 11 0 dX5_court_11 rfl rfl ?_
  refine g_199 (v := .ref (Ad 0)) 12 0 rfl rfl dX5_court_12 ?_
  refine kb_RX5_79 (bs' := [wMe o (An 0) (Ak 0) (At 0) (Ad 0) kk tp rw rc sh sf de, wCt G Ad ((tAll f ln 201 (tGo f ln (st, 0, so, va, -3), ((svI [2, 3, 1, 20]), 0, d_to, d_he, d_sw, 0, d_ki, d_te, d_mi, d_ar))).2.1) ((tAll f ln 201 (tGo f ln (st, 0, so, va, -3), ((svI [2, 3, 1, 20]), 0, d_to, d_he, d_sw, 0, d_ki, d_te, d_mi, d_ar))).2.2.1) 0 ((tAll f ln 201 (tGo f ln (st, 0, so, va, -3), ((svI [2, 3, 1, 20]), 0, d_to, d_he, d_sw, 0, d_ki, d_te, d_mi, d_ar))).2.2.2.1) ((tAll f ln 201 (tGo f ln (st, 0, so, va, -3), ((svI [2, 3, 1, 20]), 0, d_to, d_he, d_sw, 0, d_ki, d_te, d_mi, d_ar))).2.2.2.2.1) ((tAll f ln 201 (tGo f ln (st, 0, so, va, -3), ((svI [2, 3, 1, 20]), 0, d_to, d_he, d_sw, 0, d_ki, d_te, d_mi, d_ar))).2.2.2.2.2.1) ((tAll f ln 201 (tGo f ln (st, 0, so, va, -3), ((svI [2, 3, 1, 20]), 0, d_to, d_he, d_sw, 0, d_ki, d_te, d_mi, d_ar))).2.2.2.2.2.2.1) ((tAll f ln 201 (tGo f ln (st, 0, so, va, -3), ((svI [2, 3, 1, 20]), 0, d_to, d_he, d_sw, 0, d_ki, d_te, d_mi, d_ar))).2.2.2.2.2.2.2.1) ((tAll f ln 201 (tGo f ln (st, 0, so, va, -3), ((svI [2, 3, 1, 20]), 0, d_to, d_he, d_sw, 0, d_ki, d_te, d_mi, d_ar))).2.2.2.2.2.2.2.2.1) ((tAll f ln 201 (tGo f ln (st, 0, so, va, -3), ((svI [2, 3, 1, 20]), 0, d_to, d_he, d_sw, 0, d_ki, d_te, d_mi, d_ar))).2.2.2.2.2.2.2.2.2.1) ((tAll f ln 201 (tGo f ln (st, 0, so, va, -3), ((svI [2, 3, 1, 20]), 0, d_to, d_he, d_sw, 0, d_ki, d_te, d_mi, d_ar))).2.2.2.2.2.2.2.2.2.2) d_z, wCt G An la ns sd to he sw nh ki te mi ar z, wTp tp by_ ln ((tAll f ln 201 (tGo f ln (st, 0, so, va, -3), ((svI [2, 3, 1, 20]), 0, d_to, d_he, d_sw, 0, d_ki, d_te, d_mi, d_ar))).1.1) ((tAll f ln 201 (tGo f ln (st, 0, so, va, -3), ((svI [2, 3, 1, 20]), 0, d_to, d_he, d_sw, 0, d_ki, d_te, d_mi, d_ar))).1.2.1) ((tAll f ln 201 (tGo f ln (st, 0, so, va, -3), ((svI [2, 3, 1, 20]), 0, d_to, d_he, d_sw, 0, d_ki, d_te, d_mi, d_ar))).1.2.2.1) ((tAll f ln 201 (tGo f ln (st, 0, so, va, -3), ((svI [2, 3, 1, 20]), 0, d_to, d_he, d_sw, 0, d_ki, d_te, d_mi, d_ar))).1.2.2.2.1) ((tAll f ln 201 (tGo f ln (st, 0, so, va, -3), ((svI [2, 3, 1, 20]), 0, d_to, d_he, d_sw, 0, d_ki, d_te, d_mi, d_ar))).1.2.2.2.2), wB G by_ 200 f]) (rest := []) (st' := [.int ((tAll f ln 201 (tGo f ln (st, 0, so, va, -3), ((svI [2, 3, 1, 20]), 0, d_to, d_he, d_sw, 0, d_ki, d_te, d_mi, d_ar))).1.2.2.2.2)]) 15 (c_X4_tells l G tp by_ ln st en so va fa f Ad (svI [2, 3, 1, 20]) 0 0 d_to d_he d_sw 0 d_ki d_te d_mi d_ar d_z (by first | omega | assumption) (by first | omega | assumption) (by first | omega | assumption)) [3, 4, 1] 19 rfl rfl rfl [[tp], [by_], [Ad 0, Ad 1, Ad 2, Ad 3, Ad 4, Ad 5, Ad 6, Ad 7, Ad 8]] rfl rfl rfl rfl rfl rfl (Nat.le_of_ble_eq_true rfl) rfl dX5_court_15 ?_
  obtain ⟨⟨⟨st_15, en_15, so_15, va_15, fa_15⟩, la_15, ns_15, to_15, he_15, sw_15, nh_15, ki_15, te_15, mi_15, ar_15⟩, hT_15⟩ : ∃ t_, tAll f ln 201 (tGo f ln (st, 0, so, va, -3), ((svI [2, 3, 1, 20]), 0, d_to, d_he, d_sw, 0, d_ki, d_te, d_mi, d_ar)) = t_ := ⟨_, rfl⟩
  refine J_ws (ws' := (wF [wMe o (An 0) (Ak 0) (At 0) (Ad 0) kk tp rw rc sh sf de, wCt G Ad la_15 ns_15 0 to_15 he_15 sw_15 nh_15 ki_15 te_15 mi_15 ar_15 d_z, wCt G An la ns sd to he sw nh ki te mi ar z, wTp tp by_ ln st_15 en_15 so_15 va_15 fa_15, wB G by_ 200 f])) 18 (by rw [hT_15]) ?_
  refine J_st (st' := [.int ((tAll f ln 201 (tGo f ln (st, 0, so, va, -3), ((svI [2, 3, 1, 20]), 0, d_to, d_he, d_sw, 0, d_ki, d_te, d_mi, d_ar))).1.2.2.2.2)]) 18 (by rw [hT_15]) ?_
  have hle_15 := tAll_le hT_15 (by omega) (by omega) (by omega)
  refine J_istore_n (lv' := [some (.ref o), some (.int ((tAll f ln 201 (tGo f ln (st, 0, so, va, -3), ((svI [2, 3, 1, 20]), 0, d_to, d_he, d_sw, 0, d_ki, d_te, d_mi, d_ar))).1.2.2.2.2))]) 18 1 dX5_court_18 rfl (by decide) rfl ?_
  refine J_aload_n 19 0 dX5_court_19 rfl rfl ?_
  refine g_201 (v := .ref tp) 20 0 rfl rfl dX5_court_20 ?_
  refine J_iconst (v := 0) 23 dX5_court_23 rfl ?_
  refine p_99 (ws' := (wF [wMe o (An 0) (Ak 0) (At 0) (Ad 0) kk tp rw rc sh sf de, wCt G Ad la_15 ns_15 0 to_15 he_15 sw_15 nh_15 ki_15 te_15 mi_15 ar_15 d_z, wCt G An la ns sd to he sw nh ki te mi ar z, wTp tp by_ 0 st_15 en_15 so_15 va_15 fa_15, wB G by_ 200 f])) 24 19 rfl rfl rfl (Nat.le_of_ble_eq_true rfl) rfl dX5_court_24 ?_
  refine J_iload_n 27 1 dX5_court_27 rfl rfl ?_
  refine J_if_lt (tgt := 36) 28 dX5_court_28 (by decide) (fun c_1_ => ?_) (fun c_1_ => ?_)
  · skip
    refine J_aload_n 36 0 dX5_court_36 rfl rfl ?_
    refine g_199 (v := .ref (Ad 0)) 37 0 rfl rfl dX5_court_37 ?_
    refine J_aload_n 40 0 dX5_court_40 rfl rfl ?_
    refine g_196 (v := .ref (An 0)) 41 0 rfl rfl dX5_court_41 ?_
    refine g_64 (v := .int z) 44 10 rfl rfl dX5_court_44 ?_
    refine p_64 (ws' := (wF [wMe o (An 0) (Ak 0) (At 0) (Ad 0) kk tp rw rc sh sf de, wCt G Ad la_15 ns_15 0 to_15 he_15 sw_15 nh_15 ki_15 te_15 mi_15 ar_15 z, wCt G An la ns sd to he sw nh ki te mi ar z, wTp tp by_ 0 st_15 en_15 so_15 va_15 fa_15, wB G by_ 200 f])) 47 1 rfl rfl rfl (Nat.le_of_ble_eq_true rfl) rfl dX5_court_47 ?_
    refine J_aload_n 50 0 dX5_court_50 rfl rfl ?_
    refine g_196 (v := .ref (An 0)) 51 0 rfl rfl dX5_court_51 ?_
    refine J_aload_n 54 0 dX5_court_54 rfl rfl ?_
    refine g_199 (v := .ref (Ad 0)) 55 0 rfl rfl dX5_court_55 ?_
    refine kb_RX5_86 (bs' := [wMe o (An 0) (Ak 0) (At 0) (Ad 0) kk tp rw rc sh sf de, wCt G Ad la_15 ns_15 0 to_15 he_15 sw_15 nh_15 ki_15 te_15 mi_15 ar_15 z, wCt G An la_15 ns_15 0 to_15 he_15 sw_15 nh_15 ki_15 te_15 mi_15 ar_15 z, wTp tp by_ 0 st_15 en_15 so_15 va_15 fa_15, wB G by_ 200 f]) (rest := []) (st' := []) 58 (c_X0_become l G An la ns sd to he sw nh ki te mi ar z Ad la_15 ns_15 0 to_15 he_15 sw_15 nh_15 ki_15 te_15 mi_15 ar_15 z ) [2, 1] 10 rfl rfl rfl [[An 0, An 1, An 2, An 3, An 4, An 5, An 6, An 7, An 8], [Ad 0, Ad 1, Ad 2, Ad 3, Ad 4, Ad 5, Ad 6, Ad 7, Ad 8]] rfl rfl rfl rfl rfl rfl (Nat.le_of_ble_eq_true rfl) rfl dX5_court_58 ?_
    refine J_aload_n 61 0 dX5_court_61 rfl rfl ?_
    refine J_iconst (v := 0) 62 dX5_court_62 rfl ?_
    refine p_203 (ws' := (wF [wMe o (An 0) (Ak 0) (At 0) (Ad 0) kk tp rw 0 sh sf de, wCt G Ad la_15 ns_15 0 to_15 he_15 sw_15 nh_15 ki_15 te_15 mi_15 ar_15 z, wCt G An la_15 ns_15 0 to_15 he_15 sw_15 nh_15 ki_15 te_15 mi_15 ar_15 z, wTp tp by_ 0 st_15 en_15 so_15 va_15 fa_15, wB G by_ 200 f])) 63 0 rfl rfl rfl (Nat.le_of_ble_eq_true rfl) rfl dX5_court_63 ?_
    refine J_aload_n 66 0 dX5_court_66 rfl rfl ?_
    refine g_196 (v := .ref (An 0)) 67 0 rfl rfl dX5_court_67 ?_
    refine g_53 (v := .int (nI nh_15)) 70 10 rfl rfl dX5_court_70 ?_
    have hC_ : (fCrt f ln st so va d_to d_he d_sw d_ki d_te d_mi d_ar) = ((st_15, en_15, so_15, va_15, fa_15), la_15, ns_15, to_15, he_15, sw_15, nh_15, ki_15, te_15, mi_15, ar_15) := hT_15
    exact J_iretP 73 dX5_court_73 (congrArg (fun x_ => some (Value.int x_)) (by rw [hC_])) ⟨la_15, ns_15, 0, to_15, he_15, sw_15, nh_15, ki_15, te_15, mi_15, ar_15, z, st_15, en_15, so_15, va_15, fa_15, (cg10 (fun (x0_ : Nat → Int32) (x1_ : Nat) (x2_ : Nat → Int32) (x3_ : Nat → Int32) (x4_ : Nat → Int32) (x5_ : Nat) (x6_ : Nat → Int32) (x7_ : Nat → Int32) (x8_ : Nat → Int32) (x9_ : Nat → Int32) => (wF [wMe o (An 0) (Ak 0) (At 0) (Ad 0) kk tp rw 0 sh sf de, wCt G Ad la_15 ns_15 0 to_15 he_15 sw_15 nh_15 ki_15 te_15 mi_15 ar_15 z, wCt G An x0_ x1_ 0 x2_ x3_ x4_ x5_ x6_ x7_ x8_ x9_ z, wTp tp by_ 0 st_15 en_15 so_15 va_15 fa_15, wB G by_ 200 f])) la_15 ((fCrt f ln st so va d_to d_he d_sw d_ki d_te d_mi d_ar).2.1) ns_15 ((fCrt f ln st so va d_to d_he d_sw d_ki d_te d_mi d_ar).2.2.1) to_15 ((fCrt f ln st so va d_to d_he d_sw d_ki d_te d_mi d_ar).2.2.2.1) he_15 ((fCrt f ln st so va d_to d_he d_sw d_ki d_te d_mi d_ar).2.2.2.2.1) sw_15 ((fCrt f ln st so va d_to d_he d_sw d_ki d_te d_mi d_ar).2.2.2.2.2.1) nh_15 ((fCrt f ln st so va d_to d_he d_sw d_ki d_te d_mi d_ar).2.2.2.2.2.2.1) ki_15 ((fCrt f ln st so va d_to d_he d_sw d_ki d_te d_mi d_ar).2.2.2.2.2.2.2.1) te_15 ((fCrt f ln st so va d_to d_he d_sw d_ki d_te d_mi d_ar).2.2.2.2.2.2.2.2.1) mi_15 ((fCrt f ln st so va d_to d_he d_sw d_ki d_te d_mi d_ar).2.2.2.2.2.2.2.2.2.1) ar_15 ((fCrt f ln st so va d_to d_he d_sw d_ki d_te d_mi d_ar).2.2.2.2.2.2.2.2.2.2) (by rw [hC_]) (by rw [hC_]) (by rw [hC_]) (by rw [hC_]) (by rw [hC_]) (by rw [hC_]) (by rw [hC_]) (by rw [hC_]) (by rw [hC_]) (by rw [hC_]))⟩
  · skip
    exact absurd hf c_1_
set_option maxRecDepth 100000 in
set_option maxHeartbeats 4000000 in
theorem c_X5_set_ok (l : Launch) (G : Gd) (j : Nat) (v : Int32) (o : Nat) (An : Nat → Nat) (Ak : Nat → Nat) (At : Nat → Nat) (Ad : Nat → Nat) (kk : Int32) (tp : Nat) (rw : Nat) (rc : Nat) (sh : Nat) (sf : Nat) (de : Nat) (la : Nat → Int32) (ns : Nat) (sd : Nat) (to : Nat → Int32) (he : Nat → Int32) (sw : Nat → Int32) (nh : Nat) (ki : Nat → Int32) (te : Nat → Int32) (mi : Nat → Int32) (ar : Nat → Int32) (z : Int32) (hj : j ≤ 3) (hw : 0 ≤ v ∧ v ≤ ([9, 9, 9, 99] : List Int32).getD j 0) : Ct l G yX5_set cX5_set 4 (some (FieldType.int)) 2 [.ref o, .int (nI j), .int v] (wF [wMe o (An 0) (Ak 0) (At 0) (Ad 0) kk tp rw rc sh sf de, wCt G An la ns sd to he sw nh ki te mi ar z]) (some (.int (la j))) (wF [wMe o (An 0) (Ak 0) (At 0) (Ad 0) kk tp rw rc sh sf de, wCt G An (upd la j v) ns sd to he sw nh ki te mi ar z]) := by
  refine Ct.of "GooseArms" [some (.ref o), some (.int (nI j)), some (.int v), none] (by decide +kernel) rfl (Nat.le_of_ble_eq_true rfl) rfl ?_
  refine J_iload_n 0 1 dX5_set_0 rfl rfl ?_
  refine kb_RX5_93 (bs' := [wMe o (An 0) (Ak 0) (At 0) (Ad 0) kk tp rw rc sh sf de, wCt G An la ns sd to he sw nh ki te mi ar z]) (rest := []) (st' := [.int 1]) 1 (c_X5_isLaw_t l G j (by first | omega | assumption)) [] rfl rfl [] rfl rfl rfl rfl rfl rfl (Nat.le_of_ble_eq_true rfl) rfl dX5_set_1 ?_
  refine J_if_eq (tgt := 20) 4 dX5_set_4 (by decide) (fun c_1_ => absurd c_1_ (by decide)) (fun _ => ?_)
  refine J_iload_n 7 2 dX5_set_7 rfl rfl ?_
  refine J_iconst (v := 0) 8 dX5_set_8 rfl ?_
  refine J_gets (v := .ref (G.2.2 1)) 9 w_390 gz1 rfl dX5_set_9 ?_
  refine J_iload_n 12 1 dX5_set_12 rfl rfl ?_
  refine J_stat (v := .int (([9, 9, 9, 99] : List Int32).getD j 0)) 13 gt1 j rfl (by omega) (by decide) rfl dX5_set_13 ?_
  refine kb_RX5_65 (bs' := [wMe o (An 0) (Ak 0) (At 0) (Ad 0) kk tp rw rc sh sf de, wCt G An la ns sd to he sw nh ki te mi ar z]) (rest := []) (st' := [.int 1]) 14 (c_X5_within_t l G v 0 (([9, 9, 9, 99] : List Int32).getD j 0) hw) [] rfl rfl [] rfl rfl rfl rfl rfl rfl (Nat.le_of_ble_eq_true rfl) rfl dX5_set_14 ?_
  refine J_if_ne (tgt := 22) 17 dX5_set_17 (by decide) (fun _ => ?_) (fun c_2_ => absurd c_2_ (by decide))
  refine J_aload_n 22 0 dX5_set_22 rfl rfl ?_
  refine g_196 (v := .ref (An 0)) 23 0 rfl rfl dX5_set_23 ?_
  refine g_39 (v := .ref (An 1)) 26 1 rfl rfl dX5_set_26 ?_
  refine J_iload_n 29 1 dX5_set_29 rfl rfl ?_
  refine J_iald 30 2 j rfl rfl (by omega) (by decide) dX5_set_30 ?_
  refine J_istore_n (lv' := [some (.ref o), some (.int (nI j)), some (.int v), some (.int (la j))]) 31 3 dX5_set_31 rfl (by decide) rfl ?_
  refine J_aload_n 32 0 dX5_set_32 rfl rfl ?_
  refine g_196 (v := .ref (An 0)) 33 0 rfl rfl dX5_set_33 ?_
  refine g_39 (v := .ref (An 1)) 36 1 rfl rfl dX5_set_36 ?_
  refine J_iload_n 39 1 dX5_set_39 rfl rfl ?_
  refine J_iload_n 40 2 dX5_set_40 rfl rfl ?_
  refine J_iast (ws' := (wF [wMe o (An 0) (Ak 0) (At 0) (Ad 0) kk tp rw rc sh sf de, wCt G An (upd la j v) ns sd to he sw nh ki te mi ar z])) 41 2 j rfl rfl (by omega) (by decide) rfl dX5_set_41 ?_
  refine J_iload_n 42 3 dX5_set_42 rfl rfl ?_
  exact J_iret 43 dX5_set_43 rfl rfl
set_option maxRecDepth 100000 in
set_option maxHeartbeats 4000000 in
theorem c_X5_set_badv (l : Launch) (G : Gd) (j : Nat) (v : Int32) (o : Nat) (An : Nat → Nat) (Ak : Nat → Nat) (At : Nat → Nat) (Ad : Nat → Nat) (kk : Int32) (tp : Nat) (rw : Nat) (rc : Nat) (sh : Nat) (sf : Nat) (de : Nat) (la : Nat → Int32) (ns : Nat) (sd : Nat) (to : Nat → Int32) (he : Nat → Int32) (sw : Nat → Int32) (nh : Nat) (ki : Nat → Int32) (te : Nat → Int32) (mi : Nat → Int32) (ar : Nat → Int32) (z : Int32) (hj : j ≤ 3) (hw : ¬ (0 ≤ v ∧ v ≤ ([9, 9, 9, 99] : List Int32).getD j 0)) : Ct l G yX5_set cX5_set 4 (some (FieldType.int)) 2 [.ref o, .int (nI j), .int v] (wF [wMe o (An 0) (Ak 0) (At 0) (Ad 0) kk tp rw rc sh sf de, wCt G An la ns sd to he sw nh ki te mi ar z]) (some (.int (-1))) (wF [wMe o (An 0) (Ak 0) (At 0) (Ad 0) kk tp rw rc sh sf de, wCt G An la ns sd to he sw nh ki te mi ar z]) := by
  refine Ct.of "GooseArms" [some (.ref o), some (.int (nI j)), some (.int v), none] (by decide +kernel) rfl (Nat.le_of_ble_eq_true rfl) rfl ?_
  refine J_iload_n 0 1 dX5_set_0 rfl rfl ?_
  refine kb_RX5_93 (bs' := [wMe o (An 0) (Ak 0) (At 0) (Ad 0) kk tp rw rc sh sf de, wCt G An la ns sd to he sw nh ki te mi ar z]) (rest := []) (st' := [.int 1]) 1 (c_X5_isLaw_t l G j (by first | omega | assumption)) [] rfl rfl [] rfl rfl rfl rfl rfl rfl (Nat.le_of_ble_eq_true rfl) rfl dX5_set_1 ?_
  refine J_if_eq (tgt := 20) 4 dX5_set_4 (by decide) (fun c_1_ => absurd c_1_ (by decide)) (fun _ => ?_)
  refine J_iload_n 7 2 dX5_set_7 rfl rfl ?_
  refine J_iconst (v := 0) 8 dX5_set_8 rfl ?_
  refine J_gets (v := .ref (G.2.2 1)) 9 w_390 gz1 rfl dX5_set_9 ?_
  refine J_iload_n 12 1 dX5_set_12 rfl rfl ?_
  refine J_stat (v := .int (([9, 9, 9, 99] : List Int32).getD j 0)) 13 gt1 j rfl (by omega) (by decide) rfl dX5_set_13 ?_
  refine kb_RX5_65 (bs' := [wMe o (An 0) (Ak 0) (At 0) (Ad 0) kk tp rw rc sh sf de, wCt G An la ns sd to he sw nh ki te mi ar z]) (rest := []) (st' := [.int 0]) 14 (c_X5_within_f l G v 0 (([9, 9, 9, 99] : List Int32).getD j 0) hw) [] rfl rfl [] rfl rfl rfl rfl rfl rfl (Nat.le_of_ble_eq_true rfl) rfl dX5_set_14 ?_
  refine J_if_ne (tgt := 22) 17 dX5_set_17 (by decide) (fun c_2_ => absurd c_2_ (by decide)) (fun _ => ?_)
  refine J_iconst (v := (-1)) 20 dX5_set_20 rfl ?_
  exact J_iret 21 dX5_set_21 rfl rfl
set_option maxRecDepth 100000 in
set_option maxHeartbeats 4000000 in
theorem c_X5_set_bad (l : Launch) (G : Gd) (j : Int32) (v : Int32) (o : Nat) (An : Nat → Nat) (Ak : Nat → Nat) (At : Nat → Nat) (Ad : Nat → Nat) (kk : Int32) (tp : Nat) (rw : Nat) (rc : Nat) (sh : Nat) (sf : Nat) (de : Nat) (la : Nat → Int32) (ns : Nat) (sd : Nat) (to : Nat → Int32) (he : Nat → Int32) (sw : Nat → Int32) (nh : Nat) (ki : Nat → Int32) (te : Nat → Int32) (mi : Nat → Int32) (ar : Nat → Int32) (z : Int32) (hw : ¬ (0 ≤ j ∧ j ≤ 3)) : Ct l G yX5_set cX5_set 4 (some (FieldType.int)) 2 [.ref o, .int j, .int v] (wF [wMe o (An 0) (Ak 0) (At 0) (Ad 0) kk tp rw rc sh sf de, wCt G An la ns sd to he sw nh ki te mi ar z]) (some (.int (-1))) (wF [wMe o (An 0) (Ak 0) (At 0) (Ad 0) kk tp rw rc sh sf de, wCt G An la ns sd to he sw nh ki te mi ar z]) := by
  refine Ct.of "GooseArms" [some (.ref o), some (.int j), some (.int v), none] (by decide +kernel) rfl (Nat.le_of_ble_eq_true rfl) rfl ?_
  refine J_iload_n 0 1 dX5_set_0 rfl rfl ?_
  refine kb_RX5_93 (bs' := [wMe o (An 0) (Ak 0) (At 0) (Ad 0) kk tp rw rc sh sf de, wCt G An la ns sd to he sw nh ki te mi ar z]) (rest := []) (st' := [.int 0]) 1 (c_X5_isLaw_f l G j (by first | omega | assumption)) [] rfl rfl [] rfl rfl rfl rfl rfl rfl (Nat.le_of_ble_eq_true rfl) rfl dX5_set_1 ?_
  refine J_if_eq (tgt := 20) 4 dX5_set_4 (by decide) (fun _ => ?_) (fun c_1_ => absurd c_1_ (by decide))
  refine J_iconst (v := (-1)) 20 dX5_set_20 rfl ?_
  exact J_iret 21 dX5_set_21 rfl rfl
set_option maxRecDepth 100000 in
set_option maxHeartbeats 4000000 in
theorem c_X5_lawOf_ok (l : Launch) (G : Gd) (j : Nat) (o : Nat) (An : Nat → Nat) (Ak : Nat → Nat) (At : Nat → Nat) (Ad : Nat → Nat) (kk : Int32) (tp : Nat) (rw : Nat) (rc : Nat) (sh : Nat) (sf : Nat) (de : Nat) (la : Nat → Int32) (ns : Nat) (sd : Nat) (to : Nat → Int32) (he : Nat → Int32) (sw : Nat → Int32) (nh : Nat) (ki : Nat → Int32) (te : Nat → Int32) (mi : Nat → Int32) (ar : Nat → Int32) (z : Int32) (hj : j ≤ 3) : Ct l G yX5_lawOf cX5_lawOf 2 (some (FieldType.int)) 2 [.ref o, .int (nI j)] (wF [wMe o (An 0) (Ak 0) (At 0) (Ad 0) kk tp rw rc sh sf de, wCt G An la ns sd to he sw nh ki te mi ar z]) (some (.int (la j))) (wF [wMe o (An 0) (Ak 0) (At 0) (Ad 0) kk tp rw rc sh sf de, wCt G An la ns sd to he sw nh ki te mi ar z]) := by
  refine Ct.of "GooseArms" [some (.ref o), some (.int (nI j))] (by decide +kernel) rfl (Nat.le_of_ble_eq_true rfl) rfl ?_
  refine J_iload_n 0 1 dX5_lawOf_0 rfl rfl ?_
  refine kb_RX5_93 (bs' := [wMe o (An 0) (Ak 0) (At 0) (Ad 0) kk tp rw rc sh sf de, wCt G An la ns sd to he sw nh ki te mi ar z]) (rest := []) (st' := [.int 1]) 1 (c_X5_isLaw_t l G j (by first | omega | assumption)) [] rfl rfl [] rfl rfl rfl rfl rfl rfl (Nat.le_of_ble_eq_true rfl) rfl dX5_lawOf_1 ?_
  refine J_if_eq (tgt := 19) 4 dX5_lawOf_4 (by decide) (fun c_1_ => absurd c_1_ (by decide)) (fun _ => ?_)
  refine J_aload_n 7 0 dX5_lawOf_7 rfl rfl ?_
  refine g_196 (v := .ref (An 0)) 8 0 rfl rfl dX5_lawOf_8 ?_
  refine g_39 (v := .ref (An 1)) 11 1 rfl rfl dX5_lawOf_11 ?_
  refine J_iload_n 14 1 dX5_lawOf_14 rfl rfl ?_
  refine J_iald 15 2 j rfl rfl (by omega) (by decide) dX5_lawOf_15 ?_
  refine J_goto (tgt := 20) 16 dX5_lawOf_16 (by decide) ?_
  exact J_iret 20 dX5_lawOf_20 rfl rfl
set_option maxRecDepth 100000 in
set_option maxHeartbeats 4000000 in
theorem c_X5_lawOf_bad (l : Launch) (G : Gd) (j : Int32) (o : Nat) (An : Nat → Nat) (Ak : Nat → Nat) (At : Nat → Nat) (Ad : Nat → Nat) (kk : Int32) (tp : Nat) (rw : Nat) (rc : Nat) (sh : Nat) (sf : Nat) (de : Nat) (la : Nat → Int32) (ns : Nat) (sd : Nat) (to : Nat → Int32) (he : Nat → Int32) (sw : Nat → Int32) (nh : Nat) (ki : Nat → Int32) (te : Nat → Int32) (mi : Nat → Int32) (ar : Nat → Int32) (z : Int32) (hw : ¬ (0 ≤ j ∧ j ≤ 3)) : Ct l G yX5_lawOf cX5_lawOf 2 (some (FieldType.int)) 2 [.ref o, .int j] (wF [wMe o (An 0) (Ak 0) (At 0) (Ad 0) kk tp rw rc sh sf de, wCt G An la ns sd to he sw nh ki te mi ar z]) (some (.int (-1))) (wF [wMe o (An 0) (Ak 0) (At 0) (Ad 0) kk tp rw rc sh sf de, wCt G An la ns sd to he sw nh ki te mi ar z]) := by
  refine Ct.of "GooseArms" [some (.ref o), some (.int j)] (by decide +kernel) rfl (Nat.le_of_ble_eq_true rfl) rfl ?_
  refine J_iload_n 0 1 dX5_lawOf_0 rfl rfl ?_
  refine kb_RX5_93 (bs' := [wMe o (An 0) (Ak 0) (At 0) (Ad 0) kk tp rw rc sh sf de, wCt G An la ns sd to he sw nh ki te mi ar z]) (rest := []) (st' := [.int 0]) 1 (c_X5_isLaw_f l G j (by first | omega | assumption)) [] rfl rfl [] rfl rfl rfl rfl rfl rfl (Nat.le_of_ble_eq_true rfl) rfl dX5_lawOf_1 ?_
  refine J_if_eq (tgt := 19) 4 dX5_lawOf_4 (by decide) (fun _ => ?_) (fun c_1_ => absurd c_1_ (by decide))
  refine J_iconst (v := (-1)) 19 dX5_lawOf_19 rfl ?_
  exact J_iret 20 dX5_lawOf_20 rfl rfl
set_option maxRecDepth 100000 in
set_option maxHeartbeats 4000000 in
theorem c_X5_saying_bad (l : Launch) (G : Gd) (x : Int32) (y : Int32) (w : Int32) (o : Nat) (An : Nat → Nat) (Ak : Nat → Nat) (At : Nat → Nat) (Ad : Nat → Nat) (kk : Int32) (tp : Nat) (rw : Nat) (rc : Nat) (sh : Nat) (sf : Nat) (de : Nat) (la : Nat → Int32) (ns : Nat) (sd : Nat) (to : Nat → Int32) (he : Nat → Int32) (sw : Nat → Int32) (nh : Nat) (ki : Nat → Int32) (te : Nat → Int32) (mi : Nat → Int32) (ar : Nat → Int32) (z : Int32) (hw : ¬ ((0 ≤ x ∧ x ≤ 7) ∧ (0 ≤ y ∧ y ≤ 9) ∧ (0 ≤ w ∧ w ≤ 1))) : Ct l G yX5_saying cX5_saying 4 (some (FieldType.int)) 2 [.ref o, .int x, .int y, .int w] (wF [wMe o (An 0) (Ak 0) (At 0) (Ad 0) kk tp rw rc sh sf de, wCt G An la ns sd to he sw nh ki te mi ar z]) (some (.int (-1))) (wF [wMe o (An 0) (Ak 0) (At 0) (Ad 0) kk tp rw rc sh sf de, wCt G An la ns sd to he sw nh ki te mi ar z]) := by
  refine Ct.of "GooseArms" [some (.ref o), some (.int x), some (.int y), some (.int w)] (by decide +kernel) rfl (Nat.le_of_ble_eq_true rfl) rfl ?_
  refine J_iload_n 0 1 dX5_saying_0 rfl rfl ?_
  refine J_iconst (v := 0) 1 dX5_saying_1 rfl ?_
  refine J_bipush (v := 7) 2 dX5_saying_2 rfl ?_
  refine kb_RX5_65 (bs' := [wMe o (An 0) (Ak 0) (At 0) (Ad 0) kk tp rw rc sh sf de, wCt G An la ns sd to he sw nh ki te mi ar z]) (rest := []) (st' := [.int (bI (0 ≤ x ∧ x ≤ 7))]) 4 (c_X5_within l G x 0 7 ) [] rfl rfl [] rfl rfl rfl rfl rfl rfl (Nat.le_of_ble_eq_true rfl) rfl dX5_saying_4 ?_
  refine J_ifB_eq (tgt := 29) 7 dX5_saying_7 (by decide) (fun c_1_ => ?_) (fun c_1_ => ?_)
  · skip
    refine J_iconst (v := (-1)) 29 dX5_saying_29 rfl ?_
    exact J_iret 30 dX5_saying_30 rfl rfl
  · skip
    refine J_iload_n 10 2 dX5_saying_10 rfl rfl ?_
    refine J_iconst (v := 0) 11 dX5_saying_11 rfl ?_
    refine J_bipush (v := 9) 12 dX5_saying_12 rfl ?_
    refine kb_RX5_65 (bs' := [wMe o (An 0) (Ak 0) (At 0) (Ad 0) kk tp rw rc sh sf de, wCt G An la ns sd to he sw nh ki te mi ar z]) (rest := []) (st' := [.int (bI (0 ≤ y ∧ y ≤ 9))]) 14 (c_X5_within l G y 0 9 ) [] rfl rfl [] rfl rfl rfl rfl rfl rfl (Nat.le_of_ble_eq_true rfl) rfl dX5_saying_14 ?_
    refine J_ifB_eq (tgt := 29) 17 dX5_saying_17 (by decide) (fun c_2_ => ?_) (fun c_2_ => ?_)
    · skip
      refine J_iconst (v := (-1)) 29 dX5_saying_29 rfl ?_
      exact J_iret 30 dX5_saying_30 rfl rfl
    · skip
      refine J_iload_n 20 3 dX5_saying_20 rfl rfl ?_
      refine J_iconst (v := 0) 21 dX5_saying_21 rfl ?_
      refine J_iconst (v := 1) 22 dX5_saying_22 rfl ?_
      refine kb_RX5_65 (bs' := [wMe o (An 0) (Ak 0) (At 0) (Ad 0) kk tp rw rc sh sf de, wCt G An la ns sd to he sw nh ki te mi ar z]) (rest := []) (st' := [.int (bI (0 ≤ w ∧ w ≤ 1))]) 23 (c_X5_within l G w 0 1 ) [] rfl rfl [] rfl rfl rfl rfl rfl rfl (Nat.le_of_ble_eq_true rfl) rfl dX5_saying_23 ?_
      refine J_ifB_ne (tgt := 31) 26 dX5_saying_26 (by decide) (fun c_3_ => ?_) (fun c_3_ => ?_)
      · skip
        exact absurd ⟨by assumption, by assumption, by assumption⟩ hw
      · skip
        refine J_iconst (v := (-1)) 29 dX5_saying_29 rfl ?_
        exact J_iret 30 dX5_saying_30 rfl rfl
set_option maxRecDepth 100000 in
set_option maxHeartbeats 4000000 in
theorem c_X5_saying_full (l : Launch) (G : Gd) (x : Int32) (y : Int32) (w : Int32) (o : Nat) (An : Nat → Nat) (Ak : Nat → Nat) (At : Nat → Nat) (Ad : Nat → Nat) (kk : Int32) (tp : Nat) (rw : Nat) (rc : Nat) (sh : Nat) (sf : Nat) (de : Nat) (la : Nat → Int32) (ns : Nat) (sd : Nat) (to : Nat → Int32) (he : Nat → Int32) (sw : Nat → Int32) (nh : Nat) (ki : Nat → Int32) (te : Nat → Int32) (mi : Nat → Int32) (ar : Nat → Int32) (z : Int32) (hw : (0 ≤ x ∧ x ≤ 7) ∧ (0 ≤ y ∧ y ≤ 9) ∧ (0 ≤ w ∧ w ≤ 1)) (hns : ns = 12) : Ct l G yX5_saying cX5_saying 4 (some (FieldType.int)) 2 [.ref o, .int x, .int y, .int w] (wF [wMe o (An 0) (Ak 0) (At 0) (Ad 0) kk tp rw rc sh sf de, wCt G An la ns sd to he sw nh ki te mi ar z]) (some (.int (-2))) (wF [wMe o (An 0) (Ak 0) (At 0) (Ad 0) kk tp rw rc sh sf de, wCt G An la ns sd to he sw nh ki te mi ar z]) := by
  refine Ct.of "GooseArms" [some (.ref o), some (.int x), some (.int y), some (.int w)] (by decide +kernel) rfl (Nat.le_of_ble_eq_true rfl) rfl ?_
  refine J_iload_n 0 1 dX5_saying_0 rfl rfl ?_
  refine J_iconst (v := 0) 1 dX5_saying_1 rfl ?_
  refine J_bipush (v := 7) 2 dX5_saying_2 rfl ?_
  refine kb_RX5_65 (bs' := [wMe o (An 0) (Ak 0) (At 0) (Ad 0) kk tp rw rc sh sf de, wCt G An la ns sd to he sw nh ki te mi ar z]) (rest := []) (st' := [.int 1]) 4 (c_X5_within_t l G x 0 7 hw.1) [] rfl rfl [] rfl rfl rfl rfl rfl rfl (Nat.le_of_ble_eq_true rfl) rfl dX5_saying_4 ?_
  refine J_if_eq (tgt := 29) 7 dX5_saying_7 (by decide) (fun c_1_ => absurd c_1_ (by decide)) (fun _ => ?_)
  refine J_iload_n 10 2 dX5_saying_10 rfl rfl ?_
  refine J_iconst (v := 0) 11 dX5_saying_11 rfl ?_
  refine J_bipush (v := 9) 12 dX5_saying_12 rfl ?_
  refine kb_RX5_65 (bs' := [wMe o (An 0) (Ak 0) (At 0) (Ad 0) kk tp rw rc sh sf de, wCt G An la ns sd to he sw nh ki te mi ar z]) (rest := []) (st' := [.int 1]) 14 (c_X5_within_t l G y 0 9 hw.2.1) [] rfl rfl [] rfl rfl rfl rfl rfl rfl (Nat.le_of_ble_eq_true rfl) rfl dX5_saying_14 ?_
  refine J_if_eq (tgt := 29) 17 dX5_saying_17 (by decide) (fun c_2_ => absurd c_2_ (by decide)) (fun _ => ?_)
  refine J_iload_n 20 3 dX5_saying_20 rfl rfl ?_
  refine J_iconst (v := 0) 21 dX5_saying_21 rfl ?_
  refine J_iconst (v := 1) 22 dX5_saying_22 rfl ?_
  refine kb_RX5_65 (bs' := [wMe o (An 0) (Ak 0) (At 0) (Ad 0) kk tp rw rc sh sf de, wCt G An la ns sd to he sw nh ki te mi ar z]) (rest := []) (st' := [.int 1]) 23 (c_X5_within_t l G w 0 1 hw.2.2) [] rfl rfl [] rfl rfl rfl rfl rfl rfl (Nat.le_of_ble_eq_true rfl) rfl dX5_saying_23 ?_
  refine J_if_ne (tgt := 31) 26 dX5_saying_26 (by decide) (fun _ => ?_) (fun c_3_ => absurd c_3_ (by decide))
  refine J_aload_n 31 0 dX5_saying_31 rfl rfl ?_
  refine g_196 (v := .ref (An 0)) 32 0 rfl rfl dX5_saying_32 ?_
  refine g_43 (v := .int (nI ns)) 35 1 rfl rfl dX5_saying_35 ?_
  refine J_bipush (v := 12) 38 dX5_saying_38 rfl ?_
  refine J_icmp_lt (tgt := 46) 40 dX5_saying_40 (by decide) (fun c_4_ => ?_) (fun c_4_ => ?_)
  · skip
    have c_4_ : ns < 12 := (nI_ltI (a := ns) (b := 12) (by omega) (by omega)).mp c_4_
    omega
  · skip
    have c_4_ : ¬ ns < 12 := fun z_ => c_4_ ((nI_ltI (a := ns) (b := 12) (by omega) (by omega)).mpr z_)
    refine J_bipush (v := (-2)) 43 dX5_saying_43 rfl ?_
    exact J_iret 45 dX5_saying_45 rfl rfl
set_option maxRecDepth 100000 in
set_option maxHeartbeats 4000000 in
theorem c_X5_saying_ok (l : Launch) (G : Gd) (x : Int32) (y : Int32) (w : Int32) (o : Nat) (An : Nat → Nat) (Ak : Nat → Nat) (At : Nat → Nat) (Ad : Nat → Nat) (kk : Int32) (tp : Nat) (rw : Nat) (rc : Nat) (sh : Nat) (sf : Nat) (de : Nat) (la : Nat → Int32) (ns : Nat) (sd : Nat) (to : Nat → Int32) (he : Nat → Int32) (sw : Nat → Int32) (nh : Nat) (ki : Nat → Int32) (te : Nat → Int32) (mi : Nat → Int32) (ar : Nat → Int32) (z : Int32) (hw : (0 ≤ x ∧ x ≤ 7) ∧ (0 ≤ y ∧ y ≤ 9) ∧ (0 ≤ w ∧ w ≤ 1)) (hns : ns < 12) : Ct l G yX5_saying cX5_saying 4 (some (FieldType.int)) 2 [.ref o, .int x, .int y, .int w] (wF [wMe o (An 0) (Ak 0) (At 0) (Ad 0) kk tp rw rc sh sf de, wCt G An la ns sd to he sw nh ki te mi ar z]) (some (.int (nI ns))) (wF [wMe o (An 0) (Ak 0) (At 0) (Ad 0) kk tp rw rc sh sf de, wCt G An la (ns + 1) sd (upd to ns x) (upd he ns y) (upd sw ns w) nh ki te mi ar z]) := by
  refine Ct.of "GooseArms" [some (.ref o), some (.int x), some (.int y), some (.int w)] (by decide +kernel) rfl (Nat.le_of_ble_eq_true rfl) rfl ?_
  refine J_iload_n 0 1 dX5_saying_0 rfl rfl ?_
  refine J_iconst (v := 0) 1 dX5_saying_1 rfl ?_
  refine J_bipush (v := 7) 2 dX5_saying_2 rfl ?_
  refine kb_RX5_65 (bs' := [wMe o (An 0) (Ak 0) (At 0) (Ad 0) kk tp rw rc sh sf de, wCt G An la ns sd to he sw nh ki te mi ar z]) (rest := []) (st' := [.int 1]) 4 (c_X5_within_t l G x 0 7 hw.1) [] rfl rfl [] rfl rfl rfl rfl rfl rfl (Nat.le_of_ble_eq_true rfl) rfl dX5_saying_4 ?_
  refine J_if_eq (tgt := 29) 7 dX5_saying_7 (by decide) (fun c_1_ => absurd c_1_ (by decide)) (fun _ => ?_)
  refine J_iload_n 10 2 dX5_saying_10 rfl rfl ?_
  refine J_iconst (v := 0) 11 dX5_saying_11 rfl ?_
  refine J_bipush (v := 9) 12 dX5_saying_12 rfl ?_
  refine kb_RX5_65 (bs' := [wMe o (An 0) (Ak 0) (At 0) (Ad 0) kk tp rw rc sh sf de, wCt G An la ns sd to he sw nh ki te mi ar z]) (rest := []) (st' := [.int 1]) 14 (c_X5_within_t l G y 0 9 hw.2.1) [] rfl rfl [] rfl rfl rfl rfl rfl rfl (Nat.le_of_ble_eq_true rfl) rfl dX5_saying_14 ?_
  refine J_if_eq (tgt := 29) 17 dX5_saying_17 (by decide) (fun c_2_ => absurd c_2_ (by decide)) (fun _ => ?_)
  refine J_iload_n 20 3 dX5_saying_20 rfl rfl ?_
  refine J_iconst (v := 0) 21 dX5_saying_21 rfl ?_
  refine J_iconst (v := 1) 22 dX5_saying_22 rfl ?_
  refine kb_RX5_65 (bs' := [wMe o (An 0) (Ak 0) (At 0) (Ad 0) kk tp rw rc sh sf de, wCt G An la ns sd to he sw nh ki te mi ar z]) (rest := []) (st' := [.int 1]) 23 (c_X5_within_t l G w 0 1 hw.2.2) [] rfl rfl [] rfl rfl rfl rfl rfl rfl (Nat.le_of_ble_eq_true rfl) rfl dX5_saying_23 ?_
  refine J_if_ne (tgt := 31) 26 dX5_saying_26 (by decide) (fun _ => ?_) (fun c_3_ => absurd c_3_ (by decide))
  refine J_aload_n 31 0 dX5_saying_31 rfl rfl ?_
  refine g_196 (v := .ref (An 0)) 32 0 rfl rfl dX5_saying_32 ?_
  refine g_43 (v := .int (nI ns)) 35 1 rfl rfl dX5_saying_35 ?_
  refine J_bipush (v := 12) 38 dX5_saying_38 rfl ?_
  refine J_icmp_lt (tgt := 46) 40 dX5_saying_40 (by decide) (fun c_4_ => ?_) (fun c_4_ => ?_)
  · skip
    have c_4_ : ns < 12 := (nI_ltI (a := ns) (b := 12) (by omega) (by omega)).mp c_4_
    refine J_aload_n 46 0 dX5_saying_46 rfl rfl ?_
    refine g_196 (v := .ref (An 0)) 47 0 rfl rfl dX5_saying_47 ?_
    refine J_iload_n 50 1 dX5_saying_50 rfl rfl ?_
    refine J_iload_n 51 2 dX5_saying_51 rfl rfl ?_
    refine J_iload_n 52 3 dX5_saying_52 rfl rfl ?_
    refine kb_RX5_106 (bs' := [wMe o (An 0) (Ak 0) (At 0) (Ad 0) kk tp rw rc sh sf de, wCt G An la (ns + 1) sd (upd to ns x) (upd he ns y) (upd sw ns w) nh ki te mi ar z]) (rest := []) (st' := [.int 1]) 53 (c_X0_addSaying l G x y w An la ns sd to he sw nh ki te mi ar z (by first | omega | assumption)) [1] 1 rfl rfl rfl [[An 0, An 1, An 2, An 3, An 4, An 5, An 6, An 7, An 8]] rfl rfl rfl rfl rfl rfl (Nat.le_of_ble_eq_true rfl) rfl dX5_saying_53 ?_
    refine J_pop 56 dX5_saying_56 rfl ?_
    refine J_aload_n 57 0 dX5_saying_57 rfl rfl ?_
    refine g_196 (v := .ref (An 0)) 58 0 rfl rfl dX5_saying_58 ?_
    refine g_43 (v := .int (nI (ns + 1))) 61 1 rfl rfl dX5_saying_61 ?_
    refine J_iconst (v := 1) 64 dX5_saying_64 rfl ?_
    refine J_isub 65 dX5_saying_65 ?_
    refine J_topi (y := nI ns) 66 (pk_sub (a := ns + 1) (b := 1) (by omega)) ?_
    exact J_iret 66 dX5_saying_66 rfl rfl
  · skip
    have c_4_ : ¬ ns < 12 := fun z_ => c_4_ ((nI_ltI (a := ns) (b := 12) (by omega) (by omega)).mpr z_)
    omega
set_option maxRecDepth 100000 in
set_option maxHeartbeats 4000000 in
theorem c_X5_sayingOf_0 (l : Launch) (G : Gd) (i : Nat) (o : Nat) (An : Nat → Nat) (Ak : Nat → Nat) (At : Nat → Nat) (Ad : Nat → Nat) (kk : Int32) (tp : Nat) (rw : Nat) (rc : Nat) (sh : Nat) (sf : Nat) (de : Nat) (la : Nat → Int32) (ns : Nat) (sd : Nat) (to : Nat → Int32) (he : Nat → Int32) (sw : Nat → Int32) (nh : Nat) (ki : Nat → Int32) (te : Nat → Int32) (mi : Nat → Int32) (ar : Nat → Int32) (z : Int32) (hi : i < ns) (hns : ns ≤ 12) : Ct l G yX5_sayingOf cX5_sayingOf 3 (some (FieldType.int)) 2 [.ref o, .int (nI i), .int 0] (wF [wMe o (An 0) (Ak 0) (At 0) (Ad 0) kk tp rw rc sh sf de, wCt G An la ns sd to he sw nh ki te mi ar z]) (some (.int (to i))) (wF [wMe o (An 0) (Ak 0) (At 0) (Ad 0) kk tp rw rc sh sf de, wCt G An la ns sd to he sw nh ki te mi ar z]) := by
  refine Ct.of "GooseArms" [some (.ref o), some (.int (nI i)), some (.int 0)] (by decide +kernel) rfl (Nat.le_of_ble_eq_true rfl) rfl ?_
  refine J_aload_n 0 0 dX5_sayingOf_0 rfl rfl ?_
  refine J_iload_n 1 1 dX5_sayingOf_1 rfl rfl ?_
  refine kb_RX5_109 (bs' := [wMe o (An 0) (Ak 0) (At 0) (Ad 0) kk tp rw rc sh sf de, wCt G An la ns sd to he sw nh ki te mi ar z]) (rest := []) (st' := [.int 1]) 2 (c_X5_isSaying_t l G i o An Ak At Ad kk tp rw rc sh sf de la ns sd to he sw nh ki te mi ar z (by assumption) (by omega)) [0, 1] 0 rfl rfl rfl [[o], [An 0, An 1, An 2, An 3, An 4, An 5, An 6, An 7, An 8]] rfl rfl rfl rfl rfl rfl (Nat.le_of_ble_eq_true rfl) rfl dX5_sayingOf_2 ?_
  refine J_if_ne (tgt := 10) 5 dX5_sayingOf_5 (by decide) (fun _ => ?_) (fun c_1_ => absurd c_1_ (by decide))
  refine J_iload_n 10 2 dX5_sayingOf_10 rfl rfl ?_
  refine J_tableIn (tgt := 40) (off := 29) 11 0 dX5_sayingOf_11 rfl (by decide +kernel) (by decide) ?_
  refine J_aload_n 40 0 dX5_sayingOf_40 rfl rfl ?_
  refine g_196 (v := .ref (An 0)) 41 0 rfl rfl dX5_sayingOf_41 ?_
  refine g_47 (v := .ref (An 2)) 44 1 rfl rfl dX5_sayingOf_44 ?_
  refine J_iload_n 47 1 dX5_sayingOf_47 rfl rfl ?_
  refine J_iald 48 3 i rfl rfl (by omega) (by decide) dX5_sayingOf_48 ?_
  exact J_iret 49 dX5_sayingOf_49 rfl rfl
set_option maxRecDepth 100000 in
set_option maxHeartbeats 4000000 in
theorem c_X5_sayingOf_1 (l : Launch) (G : Gd) (i : Nat) (o : Nat) (An : Nat → Nat) (Ak : Nat → Nat) (At : Nat → Nat) (Ad : Nat → Nat) (kk : Int32) (tp : Nat) (rw : Nat) (rc : Nat) (sh : Nat) (sf : Nat) (de : Nat) (la : Nat → Int32) (ns : Nat) (sd : Nat) (to : Nat → Int32) (he : Nat → Int32) (sw : Nat → Int32) (nh : Nat) (ki : Nat → Int32) (te : Nat → Int32) (mi : Nat → Int32) (ar : Nat → Int32) (z : Int32) (hi : i < ns) (hns : ns ≤ 12) : Ct l G yX5_sayingOf cX5_sayingOf 3 (some (FieldType.int)) 2 [.ref o, .int (nI i), .int 1] (wF [wMe o (An 0) (Ak 0) (At 0) (Ad 0) kk tp rw rc sh sf de, wCt G An la ns sd to he sw nh ki te mi ar z]) (some (.int (he i))) (wF [wMe o (An 0) (Ak 0) (At 0) (Ad 0) kk tp rw rc sh sf de, wCt G An la ns sd to he sw nh ki te mi ar z]) := by
  refine Ct.of "GooseArms" [some (.ref o), some (.int (nI i)), some (.int 1)] (by decide +kernel) rfl (Nat.le_of_ble_eq_true rfl) rfl ?_
  refine J_aload_n 0 0 dX5_sayingOf_0 rfl rfl ?_
  refine J_iload_n 1 1 dX5_sayingOf_1 rfl rfl ?_
  refine kb_RX5_109 (bs' := [wMe o (An 0) (Ak 0) (At 0) (Ad 0) kk tp rw rc sh sf de, wCt G An la ns sd to he sw nh ki te mi ar z]) (rest := []) (st' := [.int 1]) 2 (c_X5_isSaying_t l G i o An Ak At Ad kk tp rw rc sh sf de la ns sd to he sw nh ki te mi ar z (by assumption) (by omega)) [0, 1] 0 rfl rfl rfl [[o], [An 0, An 1, An 2, An 3, An 4, An 5, An 6, An 7, An 8]] rfl rfl rfl rfl rfl rfl (Nat.le_of_ble_eq_true rfl) rfl dX5_sayingOf_2 ?_
  refine J_if_ne (tgt := 10) 5 dX5_sayingOf_5 (by decide) (fun _ => ?_) (fun c_1_ => absurd c_1_ (by decide))
  refine J_iload_n 10 2 dX5_sayingOf_10 rfl rfl ?_
  refine J_tableIn (tgt := 50) (off := 39) 11 1 dX5_sayingOf_11 rfl (by decide +kernel) (by decide) ?_
  refine J_aload_n 50 0 dX5_sayingOf_50 rfl rfl ?_
  refine g_196 (v := .ref (An 0)) 51 0 rfl rfl dX5_sayingOf_51 ?_
  refine g_49 (v := .ref (An 3)) 54 1 rfl rfl dX5_sayingOf_54 ?_
  refine J_iload_n 57 1 dX5_sayingOf_57 rfl rfl ?_
  refine J_iald 58 4 i rfl rfl (by omega) (by decide) dX5_sayingOf_58 ?_
  exact J_iret 59 dX5_sayingOf_59 rfl rfl
set_option maxRecDepth 100000 in
set_option maxHeartbeats 4000000 in
theorem c_X5_sayingOf_2 (l : Launch) (G : Gd) (i : Nat) (o : Nat) (An : Nat → Nat) (Ak : Nat → Nat) (At : Nat → Nat) (Ad : Nat → Nat) (kk : Int32) (tp : Nat) (rw : Nat) (rc : Nat) (sh : Nat) (sf : Nat) (de : Nat) (la : Nat → Int32) (ns : Nat) (sd : Nat) (to : Nat → Int32) (he : Nat → Int32) (sw : Nat → Int32) (nh : Nat) (ki : Nat → Int32) (te : Nat → Int32) (mi : Nat → Int32) (ar : Nat → Int32) (z : Int32) (hi : i < ns) (hns : ns ≤ 12) : Ct l G yX5_sayingOf cX5_sayingOf 3 (some (FieldType.int)) 2 [.ref o, .int (nI i), .int 2] (wF [wMe o (An 0) (Ak 0) (At 0) (Ad 0) kk tp rw rc sh sf de, wCt G An la ns sd to he sw nh ki te mi ar z]) (some (.int (sw i))) (wF [wMe o (An 0) (Ak 0) (At 0) (Ad 0) kk tp rw rc sh sf de, wCt G An la ns sd to he sw nh ki te mi ar z]) := by
  refine Ct.of "GooseArms" [some (.ref o), some (.int (nI i)), some (.int 2)] (by decide +kernel) rfl (Nat.le_of_ble_eq_true rfl) rfl ?_
  refine J_aload_n 0 0 dX5_sayingOf_0 rfl rfl ?_
  refine J_iload_n 1 1 dX5_sayingOf_1 rfl rfl ?_
  refine kb_RX5_109 (bs' := [wMe o (An 0) (Ak 0) (At 0) (Ad 0) kk tp rw rc sh sf de, wCt G An la ns sd to he sw nh ki te mi ar z]) (rest := []) (st' := [.int 1]) 2 (c_X5_isSaying_t l G i o An Ak At Ad kk tp rw rc sh sf de la ns sd to he sw nh ki te mi ar z (by assumption) (by omega)) [0, 1] 0 rfl rfl rfl [[o], [An 0, An 1, An 2, An 3, An 4, An 5, An 6, An 7, An 8]] rfl rfl rfl rfl rfl rfl (Nat.le_of_ble_eq_true rfl) rfl dX5_sayingOf_2 ?_
  refine J_if_ne (tgt := 10) 5 dX5_sayingOf_5 (by decide) (fun _ => ?_) (fun c_1_ => absurd c_1_ (by decide))
  refine J_iload_n 10 2 dX5_sayingOf_10 rfl rfl ?_
  refine J_tableIn (tgt := 60) (off := 49) 11 2 dX5_sayingOf_11 rfl (by decide +kernel) (by decide) ?_
  refine J_aload_n 60 0 dX5_sayingOf_60 rfl rfl ?_
  refine g_196 (v := .ref (An 0)) 61 0 rfl rfl dX5_sayingOf_61 ?_
  refine g_51 (v := .ref (An 4)) 64 1 rfl rfl dX5_sayingOf_64 ?_
  refine J_iload_n 67 1 dX5_sayingOf_67 rfl rfl ?_
  refine J_iald 68 5 i rfl rfl (by omega) (by decide) dX5_sayingOf_68 ?_
  exact J_iret 69 dX5_sayingOf_69 rfl rfl
set_option maxRecDepth 100000 in
set_option maxHeartbeats 4000000 in
theorem c_X5_sayingOf_3 (l : Launch) (G : Gd) (i : Nat) (o : Nat) (An : Nat → Nat) (Ak : Nat → Nat) (At : Nat → Nat) (Ad : Nat → Nat) (kk : Int32) (tp : Nat) (rw : Nat) (rc : Nat) (sh : Nat) (sf : Nat) (de : Nat) (la : Nat → Int32) (ns : Nat) (sd : Nat) (to : Nat → Int32) (he : Nat → Int32) (sw : Nat → Int32) (nh : Nat) (ki : Nat → Int32) (te : Nat → Int32) (mi : Nat → Int32) (ar : Nat → Int32) (z : Int32) (hi : i < ns) (hns : ns ≤ 12) (hnh : nh ≤ 8) : Ct l G yX5_sayingOf cX5_sayingOf 3 (some (FieldType.int)) 2 [.ref o, .int (nI i), .int 3] (wF [wMe o (An 0) (Ak 0) (At 0) (Ad 0) kk tp rw rc sh sf de, wCt G An la ns sd to he sw nh ki te mi ar z]) (some (.int (fMask (fun h_ => hasP (ar h_) (nI i)) nh))) (wF [wMe o (An 0) (Ak 0) (At 0) (Ad 0) kk tp rw rc sh sf de, wCt G An la ns sd to he sw nh ki te mi ar z]) := by
  refine Ct.of "GooseArms" [some (.ref o), some (.int (nI i)), some (.int 3)] (by decide +kernel) rfl (Nat.le_of_ble_eq_true rfl) rfl ?_
  refine J_aload_n 0 0 dX5_sayingOf_0 rfl rfl ?_
  refine J_iload_n 1 1 dX5_sayingOf_1 rfl rfl ?_
  refine kb_RX5_109 (bs' := [wMe o (An 0) (Ak 0) (At 0) (Ad 0) kk tp rw rc sh sf de, wCt G An la ns sd to he sw nh ki te mi ar z]) (rest := []) (st' := [.int 1]) 2 (c_X5_isSaying_t l G i o An Ak At Ad kk tp rw rc sh sf de la ns sd to he sw nh ki te mi ar z (by assumption) (by omega)) [0, 1] 0 rfl rfl rfl [[o], [An 0, An 1, An 2, An 3, An 4, An 5, An 6, An 7, An 8]] rfl rfl rfl rfl rfl rfl (Nat.le_of_ble_eq_true rfl) rfl dX5_sayingOf_2 ?_
  refine J_if_ne (tgt := 10) 5 dX5_sayingOf_5 (by decide) (fun _ => ?_) (fun c_1_ => absurd c_1_ (by decide))
  refine J_iload_n 10 2 dX5_sayingOf_10 rfl rfl ?_
  refine J_tableIn (tgt := 70) (off := 59) 11 3 dX5_sayingOf_11 rfl (by decide +kernel) (by decide) ?_
  refine J_aload_n 70 0 dX5_sayingOf_70 rfl rfl ?_
  refine g_196 (v := .ref (An 0)) 71 0 rfl rfl dX5_sayingOf_71 ?_
  refine J_iload_n 74 1 dX5_sayingOf_74 rfl rfl ?_
  refine kb_RX5_121 (bs' := [wMe o (An 0) (Ak 0) (At 0) (Ad 0) kk tp rw rc sh sf de, wCt G An la ns sd to he sw nh ki te mi ar z]) (rest := []) (st' := [.int (fMask (fun h_ => hasP (ar h_) (nI i)) nh)]) 75 (c_X0_raisedBy l G i An la ns sd to he sw nh ki te mi ar z (by first | omega | assumption)) [1] 1 rfl rfl rfl [[An 0, An 1, An 2, An 3, An 4, An 5, An 6, An 7, An 8]] rfl rfl rfl rfl rfl rfl (Nat.le_of_ble_eq_true rfl) rfl dX5_sayingOf_75 ?_
  exact J_iret 78 dX5_sayingOf_78 rfl rfl
set_option maxRecDepth 100000 in
set_option maxHeartbeats 4000000 in
theorem c_X5_sayingOf_badw (l : Launch) (G : Gd) (i : Nat) (w : Int32) (o : Nat) (An : Nat → Nat) (Ak : Nat → Nat) (At : Nat → Nat) (Ad : Nat → Nat) (kk : Int32) (tp : Nat) (rw : Nat) (rc : Nat) (sh : Nat) (sf : Nat) (de : Nat) (la : Nat → Int32) (ns : Nat) (sd : Nat) (to : Nat → Int32) (he : Nat → Int32) (sw : Nat → Int32) (nh : Nat) (ki : Nat → Int32) (te : Nat → Int32) (mi : Nat → Int32) (ar : Nat → Int32) (z : Int32) (hi : i < ns) (hns : ns ≤ 12) (hw : ¬ (0 ≤ w ∧ w ≤ 3)) : Ct l G yX5_sayingOf cX5_sayingOf 3 (some (FieldType.int)) 2 [.ref o, .int (nI i), .int w] (wF [wMe o (An 0) (Ak 0) (At 0) (Ad 0) kk tp rw rc sh sf de, wCt G An la ns sd to he sw nh ki te mi ar z]) (some (.int (-1))) (wF [wMe o (An 0) (Ak 0) (At 0) (Ad 0) kk tp rw rc sh sf de, wCt G An la ns sd to he sw nh ki te mi ar z]) := by
  refine Ct.of "GooseArms" [some (.ref o), some (.int (nI i)), some (.int w)] (by decide +kernel) rfl (Nat.le_of_ble_eq_true rfl) rfl ?_
  refine J_aload_n 0 0 dX5_sayingOf_0 rfl rfl ?_
  refine J_iload_n 1 1 dX5_sayingOf_1 rfl rfl ?_
  refine kb_RX5_109 (bs' := [wMe o (An 0) (Ak 0) (At 0) (Ad 0) kk tp rw rc sh sf de, wCt G An la ns sd to he sw nh ki te mi ar z]) (rest := []) (st' := [.int 1]) 2 (c_X5_isSaying_t l G i o An Ak At Ad kk tp rw rc sh sf de la ns sd to he sw nh ki te mi ar z (by assumption) (by omega)) [0, 1] 0 rfl rfl rfl [[o], [An 0, An 1, An 2, An 3, An 4, An 5, An 6, An 7, An 8]] rfl rfl rfl rfl rfl rfl (Nat.le_of_ble_eq_true rfl) rfl dX5_sayingOf_2 ?_
  refine J_if_ne (tgt := 10) 5 dX5_sayingOf_5 (by decide) (fun _ => ?_) (fun c_1_ => absurd c_1_ (by decide))
  refine J_iload_n 10 2 dX5_sayingOf_10 rfl rfl ?_
  by_cases e_2_ : w = 0
  · skip
    exact (hw (by rw [e_2_]; decide)).elim
  by_cases e_3_ : w = 1
  · skip
    exact (hw (by rw [e_3_]; decide)).elim
  by_cases e_4_ : w = 2
  · skip
    exact (hw (by rw [e_4_]; decide)).elim
  by_cases e_5_ : w = 3
  · skip
    exact (hw (by rw [e_5_]; decide)).elim
  refine J_tableOut (tgt := 79) 11 dX5_sayingOf_11 (by have q0_ := lv_neT (a := 0) e_2_ (by decide); have q1_ := lv_neT (a := 1) e_3_ (by decide); have q2_ := lv_neT (a := 2) e_4_ (by decide); have q3_ := lv_neT (a := 3) e_5_ (by decide); omega) (by decide) ?_
  refine J_iconst (v := (-1)) 79 dX5_sayingOf_79 rfl ?_
  exact J_iret 80 dX5_sayingOf_80 rfl rfl
set_option maxRecDepth 100000 in
set_option maxHeartbeats 4000000 in
theorem c_X5_sayingOf_bad (l : Launch) (G : Gd) (i : Int32) (w : Int32) (o : Nat) (An : Nat → Nat) (Ak : Nat → Nat) (At : Nat → Nat) (Ad : Nat → Nat) (kk : Int32) (tp : Nat) (rw : Nat) (rc : Nat) (sh : Nat) (sf : Nat) (de : Nat) (la : Nat → Int32) (ns : Nat) (sd : Nat) (to : Nat → Int32) (he : Nat → Int32) (sw : Nat → Int32) (nh : Nat) (ki : Nat → Int32) (te : Nat → Int32) (mi : Nat → Int32) (ar : Nat → Int32) (z : Int32) (hw : ¬ (0 ≤ i ∧ i ≤ nI ns - 1)) : Ct l G yX5_sayingOf cX5_sayingOf 3 (some (FieldType.int)) 2 [.ref o, .int i, .int w] (wF [wMe o (An 0) (Ak 0) (At 0) (Ad 0) kk tp rw rc sh sf de, wCt G An la ns sd to he sw nh ki te mi ar z]) (some (.int (-1))) (wF [wMe o (An 0) (Ak 0) (At 0) (Ad 0) kk tp rw rc sh sf de, wCt G An la ns sd to he sw nh ki te mi ar z]) := by
  refine Ct.of "GooseArms" [some (.ref o), some (.int i), some (.int w)] (by decide +kernel) rfl (Nat.le_of_ble_eq_true rfl) rfl ?_
  refine J_aload_n 0 0 dX5_sayingOf_0 rfl rfl ?_
  refine J_iload_n 1 1 dX5_sayingOf_1 rfl rfl ?_
  refine kb_RX5_109 (bs' := [wMe o (An 0) (Ak 0) (At 0) (Ad 0) kk tp rw rc sh sf de, wCt G An la ns sd to he sw nh ki te mi ar z]) (rest := []) (st' := [.int 0]) 2 (c_X5_isSaying_f l G i o An Ak At Ad kk tp rw rc sh sf de la ns sd to he sw nh ki te mi ar z (by first | omega | assumption)) [0, 1] 0 rfl rfl rfl [[o], [An 0, An 1, An 2, An 3, An 4, An 5, An 6, An 7, An 8]] rfl rfl rfl rfl rfl rfl (Nat.le_of_ble_eq_true rfl) rfl dX5_sayingOf_2 ?_
  refine J_if_ne (tgt := 10) 5 dX5_sayingOf_5 (by decide) (fun c_1_ => absurd c_1_ (by decide)) (fun _ => ?_)
  refine J_iconst (v := (-1)) 8 dX5_sayingOf_8 rfl ?_
  exact J_iret 9 dX5_sayingOf_9 rfl rfl
set_option maxRecDepth 100000 in
set_option maxHeartbeats 4000000 in
theorem c_X5_alter_0 (l : Launch) (G : Gd) (i : Nat) (v : Int32) (o : Nat) (An : Nat → Nat) (Ak : Nat → Nat) (At : Nat → Nat) (Ad : Nat → Nat) (kk : Int32) (tp : Nat) (rw : Nat) (rc : Nat) (sh : Nat) (sf : Nat) (de : Nat) (la : Nat → Int32) (ns : Nat) (sd : Nat) (to : Nat → Int32) (he : Nat → Int32) (sw : Nat → Int32) (nh : Nat) (ki : Nat → Int32) (te : Nat → Int32) (mi : Nat → Int32) (ar : Nat → Int32) (z : Int32) (hi : i < ns) (hns : ns ≤ 12) (hw : 0 ≤ v ∧ v ≤ 7) : Ct l G yX5_alter cX5_alter 4 (some (FieldType.int)) 2 [.ref o, .int (nI i), .int 0, .int v] (wF [wMe o (An 0) (Ak 0) (At 0) (Ad 0) kk tp rw rc sh sf de, wCt G An la ns sd to he sw nh ki te mi ar z]) (some (.int (to i))) (wF [wMe o (An 0) (Ak 0) (At 0) (Ad 0) kk tp rw rc sh sf de, wCt G An la ns sd (upd to i v) he sw nh ki te mi ar z]) := by
  refine Ct.of "GooseArms" [some (.ref o), some (.int (nI i)), some (.int 0), some (.int v)] (by decide +kernel) rfl (Nat.le_of_ble_eq_true rfl) rfl ?_
  refine J_aload_n 0 0 dX5_alter_0 rfl rfl ?_
  refine J_iload_n 1 1 dX5_alter_1 rfl rfl ?_
  refine kb_RX5_109 (bs' := [wMe o (An 0) (Ak 0) (At 0) (Ad 0) kk tp rw rc sh sf de, wCt G An la ns sd to he sw nh ki te mi ar z]) (rest := []) (st' := [.int 1]) 2 (c_X5_isSaying_t l G i o An Ak At Ad kk tp rw rc sh sf de la ns sd to he sw nh ki te mi ar z (by assumption) (by omega)) [0, 1] 0 rfl rfl rfl [[o], [An 0, An 1, An 2, An 3, An 4, An 5, An 6, An 7, An 8]] rfl rfl rfl rfl rfl rfl (Nat.le_of_ble_eq_true rfl) rfl dX5_alter_2 ?_
  refine J_if_ne (tgt := 10) 5 dX5_alter_5 (by decide) (fun _ => ?_) (fun c_1_ => absurd c_1_ (by decide))
  refine J_iload_n 10 2 dX5_alter_10 rfl rfl ?_
  refine J_tableIn (tgt := 36) (off := 25) 11 0 dX5_alter_11 rfl (by decide +kernel) (by decide) ?_
  refine J_aload_n 36 0 dX5_alter_36 rfl rfl ?_
  refine g_196 (v := .ref (An 0)) 37 0 rfl rfl dX5_alter_37 ?_
  refine g_47 (v := .ref (An 2)) 40 1 rfl rfl dX5_alter_40 ?_
  refine J_iload_n 43 1 dX5_alter_43 rfl rfl ?_
  refine J_iload_n 44 3 dX5_alter_44 rfl rfl ?_
  refine J_bipush (v := 7) 45 dX5_alter_45 rfl ?_
  refine k_RX5_125 (ws' := (wF [wMe o (An 0) (Ak 0) (At 0) (Ad 0) kk tp rw rc sh sf de, wCt G An la ns sd (upd to i v) he sw nh ki te mi ar z])) (rest := []) (st' := [.int (to i)]) 47 (c_X5_replaced_t l G i 12 v 7 (An 2) to (by first | omega | assumption) (by decide) (by first | omega | assumption)) [3] rfl rfl [(An 2)] rfl rfl rfl rfl rfl rfl (Nat.le_of_ble_eq_true rfl) rfl dX5_alter_47 ?_
  exact J_iret 50 dX5_alter_50 rfl rfl
set_option maxRecDepth 100000 in
set_option maxHeartbeats 4000000 in
theorem c_X5_alter_0f (l : Launch) (G : Gd) (i : Nat) (v : Int32) (o : Nat) (An : Nat → Nat) (Ak : Nat → Nat) (At : Nat → Nat) (Ad : Nat → Nat) (kk : Int32) (tp : Nat) (rw : Nat) (rc : Nat) (sh : Nat) (sf : Nat) (de : Nat) (la : Nat → Int32) (ns : Nat) (sd : Nat) (to : Nat → Int32) (he : Nat → Int32) (sw : Nat → Int32) (nh : Nat) (ki : Nat → Int32) (te : Nat → Int32) (mi : Nat → Int32) (ar : Nat → Int32) (z : Int32) (hi : i < ns) (hns : ns ≤ 12) (hw : ¬ (0 ≤ v ∧ v ≤ 7)) : Ct l G yX5_alter cX5_alter 4 (some (FieldType.int)) 2 [.ref o, .int (nI i), .int 0, .int v] (wF [wMe o (An 0) (Ak 0) (At 0) (Ad 0) kk tp rw rc sh sf de, wCt G An la ns sd to he sw nh ki te mi ar z]) (some (.int (-1))) (wF [wMe o (An 0) (Ak 0) (At 0) (Ad 0) kk tp rw rc sh sf de, wCt G An la ns sd to he sw nh ki te mi ar z]) := by
  refine Ct.of "GooseArms" [some (.ref o), some (.int (nI i)), some (.int 0), some (.int v)] (by decide +kernel) rfl (Nat.le_of_ble_eq_true rfl) rfl ?_
  refine J_aload_n 0 0 dX5_alter_0 rfl rfl ?_
  refine J_iload_n 1 1 dX5_alter_1 rfl rfl ?_
  refine kb_RX5_109 (bs' := [wMe o (An 0) (Ak 0) (At 0) (Ad 0) kk tp rw rc sh sf de, wCt G An la ns sd to he sw nh ki te mi ar z]) (rest := []) (st' := [.int 1]) 2 (c_X5_isSaying_t l G i o An Ak At Ad kk tp rw rc sh sf de la ns sd to he sw nh ki te mi ar z (by assumption) (by omega)) [0, 1] 0 rfl rfl rfl [[o], [An 0, An 1, An 2, An 3, An 4, An 5, An 6, An 7, An 8]] rfl rfl rfl rfl rfl rfl (Nat.le_of_ble_eq_true rfl) rfl dX5_alter_2 ?_
  refine J_if_ne (tgt := 10) 5 dX5_alter_5 (by decide) (fun _ => ?_) (fun c_1_ => absurd c_1_ (by decide))
  refine J_iload_n 10 2 dX5_alter_10 rfl rfl ?_
  refine J_tableIn (tgt := 36) (off := 25) 11 0 dX5_alter_11 rfl (by decide +kernel) (by decide) ?_
  refine J_aload_n 36 0 dX5_alter_36 rfl rfl ?_
  refine g_196 (v := .ref (An 0)) 37 0 rfl rfl dX5_alter_37 ?_
  refine g_47 (v := .ref (An 2)) 40 1 rfl rfl dX5_alter_40 ?_
  refine J_iload_n 43 1 dX5_alter_43 rfl rfl ?_
  refine J_iload_n 44 3 dX5_alter_44 rfl rfl ?_
  refine J_bipush (v := 7) 45 dX5_alter_45 rfl ?_
  refine k_RX5_125 (ws' := (wF [wMe o (An 0) (Ak 0) (At 0) (Ad 0) kk tp rw rc sh sf de, wCt G An la ns sd to he sw nh ki te mi ar z])) (rest := []) (st' := [.int (-1)]) 47 (c_X5_replaced_f l G 12 (nI i) v 7 (An 2) to (by first | omega | assumption)) [3] rfl rfl [(An 2)] rfl rfl rfl rfl rfl rfl (Nat.le_of_ble_eq_true rfl) rfl dX5_alter_47 ?_
  exact J_iret 50 dX5_alter_50 rfl rfl
set_option maxRecDepth 100000 in
set_option maxHeartbeats 4000000 in
theorem c_X5_alter_1 (l : Launch) (G : Gd) (i : Nat) (v : Int32) (o : Nat) (An : Nat → Nat) (Ak : Nat → Nat) (At : Nat → Nat) (Ad : Nat → Nat) (kk : Int32) (tp : Nat) (rw : Nat) (rc : Nat) (sh : Nat) (sf : Nat) (de : Nat) (la : Nat → Int32) (ns : Nat) (sd : Nat) (to : Nat → Int32) (he : Nat → Int32) (sw : Nat → Int32) (nh : Nat) (ki : Nat → Int32) (te : Nat → Int32) (mi : Nat → Int32) (ar : Nat → Int32) (z : Int32) (hi : i < ns) (hns : ns ≤ 12) (hw : 0 ≤ v ∧ v ≤ 9) : Ct l G yX5_alter cX5_alter 4 (some (FieldType.int)) 2 [.ref o, .int (nI i), .int 1, .int v] (wF [wMe o (An 0) (Ak 0) (At 0) (Ad 0) kk tp rw rc sh sf de, wCt G An la ns sd to he sw nh ki te mi ar z]) (some (.int (he i))) (wF [wMe o (An 0) (Ak 0) (At 0) (Ad 0) kk tp rw rc sh sf de, wCt G An la ns sd to (upd he i v) sw nh ki te mi ar z]) := by
  refine Ct.of "GooseArms" [some (.ref o), some (.int (nI i)), some (.int 1), some (.int v)] (by decide +kernel) rfl (Nat.le_of_ble_eq_true rfl) rfl ?_
  refine J_aload_n 0 0 dX5_alter_0 rfl rfl ?_
  refine J_iload_n 1 1 dX5_alter_1 rfl rfl ?_
  refine kb_RX5_109 (bs' := [wMe o (An 0) (Ak 0) (At 0) (Ad 0) kk tp rw rc sh sf de, wCt G An la ns sd to he sw nh ki te mi ar z]) (rest := []) (st' := [.int 1]) 2 (c_X5_isSaying_t l G i o An Ak At Ad kk tp rw rc sh sf de la ns sd to he sw nh ki te mi ar z (by assumption) (by omega)) [0, 1] 0 rfl rfl rfl [[o], [An 0, An 1, An 2, An 3, An 4, An 5, An 6, An 7, An 8]] rfl rfl rfl rfl rfl rfl (Nat.le_of_ble_eq_true rfl) rfl dX5_alter_2 ?_
  refine J_if_ne (tgt := 10) 5 dX5_alter_5 (by decide) (fun _ => ?_) (fun c_1_ => absurd c_1_ (by decide))
  refine J_iload_n 10 2 dX5_alter_10 rfl rfl ?_
  refine J_tableIn (tgt := 51) (off := 40) 11 1 dX5_alter_11 rfl (by decide +kernel) (by decide) ?_
  refine J_aload_n 51 0 dX5_alter_51 rfl rfl ?_
  refine g_196 (v := .ref (An 0)) 52 0 rfl rfl dX5_alter_52 ?_
  refine g_49 (v := .ref (An 3)) 55 1 rfl rfl dX5_alter_55 ?_
  refine J_iload_n 58 1 dX5_alter_58 rfl rfl ?_
  refine J_iload_n 59 3 dX5_alter_59 rfl rfl ?_
  refine J_bipush (v := 9) 60 dX5_alter_60 rfl ?_
  refine k_RX5_125 (ws' := (wF [wMe o (An 0) (Ak 0) (At 0) (Ad 0) kk tp rw rc sh sf de, wCt G An la ns sd to (upd he i v) sw nh ki te mi ar z])) (rest := []) (st' := [.int (he i)]) 62 (c_X5_replaced_t l G i 12 v 9 (An 3) he (by first | omega | assumption) (by decide) (by first | omega | assumption)) [4] rfl rfl [(An 3)] rfl rfl rfl rfl rfl rfl (Nat.le_of_ble_eq_true rfl) rfl dX5_alter_62 ?_
  exact J_iret 65 dX5_alter_65 rfl rfl
set_option maxRecDepth 100000 in
set_option maxHeartbeats 4000000 in
theorem c_X5_alter_1f (l : Launch) (G : Gd) (i : Nat) (v : Int32) (o : Nat) (An : Nat → Nat) (Ak : Nat → Nat) (At : Nat → Nat) (Ad : Nat → Nat) (kk : Int32) (tp : Nat) (rw : Nat) (rc : Nat) (sh : Nat) (sf : Nat) (de : Nat) (la : Nat → Int32) (ns : Nat) (sd : Nat) (to : Nat → Int32) (he : Nat → Int32) (sw : Nat → Int32) (nh : Nat) (ki : Nat → Int32) (te : Nat → Int32) (mi : Nat → Int32) (ar : Nat → Int32) (z : Int32) (hi : i < ns) (hns : ns ≤ 12) (hw : ¬ (0 ≤ v ∧ v ≤ 9)) : Ct l G yX5_alter cX5_alter 4 (some (FieldType.int)) 2 [.ref o, .int (nI i), .int 1, .int v] (wF [wMe o (An 0) (Ak 0) (At 0) (Ad 0) kk tp rw rc sh sf de, wCt G An la ns sd to he sw nh ki te mi ar z]) (some (.int (-1))) (wF [wMe o (An 0) (Ak 0) (At 0) (Ad 0) kk tp rw rc sh sf de, wCt G An la ns sd to he sw nh ki te mi ar z]) := by
  refine Ct.of "GooseArms" [some (.ref o), some (.int (nI i)), some (.int 1), some (.int v)] (by decide +kernel) rfl (Nat.le_of_ble_eq_true rfl) rfl ?_
  refine J_aload_n 0 0 dX5_alter_0 rfl rfl ?_
  refine J_iload_n 1 1 dX5_alter_1 rfl rfl ?_
  refine kb_RX5_109 (bs' := [wMe o (An 0) (Ak 0) (At 0) (Ad 0) kk tp rw rc sh sf de, wCt G An la ns sd to he sw nh ki te mi ar z]) (rest := []) (st' := [.int 1]) 2 (c_X5_isSaying_t l G i o An Ak At Ad kk tp rw rc sh sf de la ns sd to he sw nh ki te mi ar z (by assumption) (by omega)) [0, 1] 0 rfl rfl rfl [[o], [An 0, An 1, An 2, An 3, An 4, An 5, An 6, An 7, An 8]] rfl rfl rfl rfl rfl rfl (Nat.le_of_ble_eq_true rfl) rfl dX5_alter_2 ?_
  refine J_if_ne (tgt := 10) 5 dX5_alter_5 (by decide) (fun _ => ?_) (fun c_1_ => absurd c_1_ (by decide))
  refine J_iload_n 10 2 dX5_alter_10 rfl rfl ?_
  refine J_tableIn (tgt := 51) (off := 40) 11 1 dX5_alter_11 rfl (by decide +kernel) (by decide) ?_
  refine J_aload_n 51 0 dX5_alter_51 rfl rfl ?_
  refine g_196 (v := .ref (An 0)) 52 0 rfl rfl dX5_alter_52 ?_
  refine g_49 (v := .ref (An 3)) 55 1 rfl rfl dX5_alter_55 ?_
  refine J_iload_n 58 1 dX5_alter_58 rfl rfl ?_
  refine J_iload_n 59 3 dX5_alter_59 rfl rfl ?_
  refine J_bipush (v := 9) 60 dX5_alter_60 rfl ?_
  refine k_RX5_125 (ws' := (wF [wMe o (An 0) (Ak 0) (At 0) (Ad 0) kk tp rw rc sh sf de, wCt G An la ns sd to he sw nh ki te mi ar z])) (rest := []) (st' := [.int (-1)]) 62 (c_X5_replaced_f l G 12 (nI i) v 9 (An 3) he (by first | omega | assumption)) [4] rfl rfl [(An 3)] rfl rfl rfl rfl rfl rfl (Nat.le_of_ble_eq_true rfl) rfl dX5_alter_62 ?_
  exact J_iret 65 dX5_alter_65 rfl rfl
set_option maxRecDepth 100000 in
set_option maxHeartbeats 4000000 in
theorem c_X5_alter_2 (l : Launch) (G : Gd) (i : Nat) (v : Int32) (o : Nat) (An : Nat → Nat) (Ak : Nat → Nat) (At : Nat → Nat) (Ad : Nat → Nat) (kk : Int32) (tp : Nat) (rw : Nat) (rc : Nat) (sh : Nat) (sf : Nat) (de : Nat) (la : Nat → Int32) (ns : Nat) (sd : Nat) (to : Nat → Int32) (he : Nat → Int32) (sw : Nat → Int32) (nh : Nat) (ki : Nat → Int32) (te : Nat → Int32) (mi : Nat → Int32) (ar : Nat → Int32) (z : Int32) (hi : i < ns) (hns : ns ≤ 12) (hw : 0 ≤ v ∧ v ≤ 1) : Ct l G yX5_alter cX5_alter 4 (some (FieldType.int)) 2 [.ref o, .int (nI i), .int 2, .int v] (wF [wMe o (An 0) (Ak 0) (At 0) (Ad 0) kk tp rw rc sh sf de, wCt G An la ns sd to he sw nh ki te mi ar z]) (some (.int (sw i))) (wF [wMe o (An 0) (Ak 0) (At 0) (Ad 0) kk tp rw rc sh sf de, wCt G An la ns sd to he (upd sw i v) nh ki te mi ar z]) := by
  refine Ct.of "GooseArms" [some (.ref o), some (.int (nI i)), some (.int 2), some (.int v)] (by decide +kernel) rfl (Nat.le_of_ble_eq_true rfl) rfl ?_
  refine J_aload_n 0 0 dX5_alter_0 rfl rfl ?_
  refine J_iload_n 1 1 dX5_alter_1 rfl rfl ?_
  refine kb_RX5_109 (bs' := [wMe o (An 0) (Ak 0) (At 0) (Ad 0) kk tp rw rc sh sf de, wCt G An la ns sd to he sw nh ki te mi ar z]) (rest := []) (st' := [.int 1]) 2 (c_X5_isSaying_t l G i o An Ak At Ad kk tp rw rc sh sf de la ns sd to he sw nh ki te mi ar z (by assumption) (by omega)) [0, 1] 0 rfl rfl rfl [[o], [An 0, An 1, An 2, An 3, An 4, An 5, An 6, An 7, An 8]] rfl rfl rfl rfl rfl rfl (Nat.le_of_ble_eq_true rfl) rfl dX5_alter_2 ?_
  refine J_if_ne (tgt := 10) 5 dX5_alter_5 (by decide) (fun _ => ?_) (fun c_1_ => absurd c_1_ (by decide))
  refine J_iload_n 10 2 dX5_alter_10 rfl rfl ?_
  refine J_tableIn (tgt := 66) (off := 55) 11 2 dX5_alter_11 rfl (by decide +kernel) (by decide) ?_
  refine J_aload_n 66 0 dX5_alter_66 rfl rfl ?_
  refine g_196 (v := .ref (An 0)) 67 0 rfl rfl dX5_alter_67 ?_
  refine g_51 (v := .ref (An 4)) 70 1 rfl rfl dX5_alter_70 ?_
  refine J_iload_n 73 1 dX5_alter_73 rfl rfl ?_
  refine J_iload_n 74 3 dX5_alter_74 rfl rfl ?_
  refine J_iconst (v := 1) 75 dX5_alter_75 rfl ?_
  refine k_RX5_125 (ws' := (wF [wMe o (An 0) (Ak 0) (At 0) (Ad 0) kk tp rw rc sh sf de, wCt G An la ns sd to he (upd sw i v) nh ki te mi ar z])) (rest := []) (st' := [.int (sw i)]) 76 (c_X5_replaced_t l G i 12 v 1 (An 4) sw (by first | omega | assumption) (by decide) (by first | omega | assumption)) [5] rfl rfl [(An 4)] rfl rfl rfl rfl rfl rfl (Nat.le_of_ble_eq_true rfl) rfl dX5_alter_76 ?_
  exact J_iret 79 dX5_alter_79 rfl rfl
set_option maxRecDepth 100000 in
set_option maxHeartbeats 4000000 in
theorem c_X5_alter_2f (l : Launch) (G : Gd) (i : Nat) (v : Int32) (o : Nat) (An : Nat → Nat) (Ak : Nat → Nat) (At : Nat → Nat) (Ad : Nat → Nat) (kk : Int32) (tp : Nat) (rw : Nat) (rc : Nat) (sh : Nat) (sf : Nat) (de : Nat) (la : Nat → Int32) (ns : Nat) (sd : Nat) (to : Nat → Int32) (he : Nat → Int32) (sw : Nat → Int32) (nh : Nat) (ki : Nat → Int32) (te : Nat → Int32) (mi : Nat → Int32) (ar : Nat → Int32) (z : Int32) (hi : i < ns) (hns : ns ≤ 12) (hw : ¬ (0 ≤ v ∧ v ≤ 1)) : Ct l G yX5_alter cX5_alter 4 (some (FieldType.int)) 2 [.ref o, .int (nI i), .int 2, .int v] (wF [wMe o (An 0) (Ak 0) (At 0) (Ad 0) kk tp rw rc sh sf de, wCt G An la ns sd to he sw nh ki te mi ar z]) (some (.int (-1))) (wF [wMe o (An 0) (Ak 0) (At 0) (Ad 0) kk tp rw rc sh sf de, wCt G An la ns sd to he sw nh ki te mi ar z]) := by
  refine Ct.of "GooseArms" [some (.ref o), some (.int (nI i)), some (.int 2), some (.int v)] (by decide +kernel) rfl (Nat.le_of_ble_eq_true rfl) rfl ?_
  refine J_aload_n 0 0 dX5_alter_0 rfl rfl ?_
  refine J_iload_n 1 1 dX5_alter_1 rfl rfl ?_
  refine kb_RX5_109 (bs' := [wMe o (An 0) (Ak 0) (At 0) (Ad 0) kk tp rw rc sh sf de, wCt G An la ns sd to he sw nh ki te mi ar z]) (rest := []) (st' := [.int 1]) 2 (c_X5_isSaying_t l G i o An Ak At Ad kk tp rw rc sh sf de la ns sd to he sw nh ki te mi ar z (by assumption) (by omega)) [0, 1] 0 rfl rfl rfl [[o], [An 0, An 1, An 2, An 3, An 4, An 5, An 6, An 7, An 8]] rfl rfl rfl rfl rfl rfl (Nat.le_of_ble_eq_true rfl) rfl dX5_alter_2 ?_
  refine J_if_ne (tgt := 10) 5 dX5_alter_5 (by decide) (fun _ => ?_) (fun c_1_ => absurd c_1_ (by decide))
  refine J_iload_n 10 2 dX5_alter_10 rfl rfl ?_
  refine J_tableIn (tgt := 66) (off := 55) 11 2 dX5_alter_11 rfl (by decide +kernel) (by decide) ?_
  refine J_aload_n 66 0 dX5_alter_66 rfl rfl ?_
  refine g_196 (v := .ref (An 0)) 67 0 rfl rfl dX5_alter_67 ?_
  refine g_51 (v := .ref (An 4)) 70 1 rfl rfl dX5_alter_70 ?_
  refine J_iload_n 73 1 dX5_alter_73 rfl rfl ?_
  refine J_iload_n 74 3 dX5_alter_74 rfl rfl ?_
  refine J_iconst (v := 1) 75 dX5_alter_75 rfl ?_
  refine k_RX5_125 (ws' := (wF [wMe o (An 0) (Ak 0) (At 0) (Ad 0) kk tp rw rc sh sf de, wCt G An la ns sd to he sw nh ki te mi ar z])) (rest := []) (st' := [.int (-1)]) 76 (c_X5_replaced_f l G 12 (nI i) v 1 (An 4) sw (by first | omega | assumption)) [5] rfl rfl [(An 4)] rfl rfl rfl rfl rfl rfl (Nat.le_of_ble_eq_true rfl) rfl dX5_alter_76 ?_
  exact J_iret 79 dX5_alter_79 rfl rfl
set_option maxRecDepth 100000 in
set_option maxHeartbeats 4000000 in
theorem c_X5_alter_badw (l : Launch) (G : Gd) (i : Nat) (w : Int32) (v : Int32) (o : Nat) (An : Nat → Nat) (Ak : Nat → Nat) (At : Nat → Nat) (Ad : Nat → Nat) (kk : Int32) (tp : Nat) (rw : Nat) (rc : Nat) (sh : Nat) (sf : Nat) (de : Nat) (la : Nat → Int32) (ns : Nat) (sd : Nat) (to : Nat → Int32) (he : Nat → Int32) (sw : Nat → Int32) (nh : Nat) (ki : Nat → Int32) (te : Nat → Int32) (mi : Nat → Int32) (ar : Nat → Int32) (z : Int32) (hi : i < ns) (hns : ns ≤ 12) (hw : ¬ (0 ≤ w ∧ w ≤ 2)) : Ct l G yX5_alter cX5_alter 4 (some (FieldType.int)) 2 [.ref o, .int (nI i), .int w, .int v] (wF [wMe o (An 0) (Ak 0) (At 0) (Ad 0) kk tp rw rc sh sf de, wCt G An la ns sd to he sw nh ki te mi ar z]) (some (.int (-1))) (wF [wMe o (An 0) (Ak 0) (At 0) (Ad 0) kk tp rw rc sh sf de, wCt G An la ns sd to he sw nh ki te mi ar z]) := by
  refine Ct.of "GooseArms" [some (.ref o), some (.int (nI i)), some (.int w), some (.int v)] (by decide +kernel) rfl (Nat.le_of_ble_eq_true rfl) rfl ?_
  refine J_aload_n 0 0 dX5_alter_0 rfl rfl ?_
  refine J_iload_n 1 1 dX5_alter_1 rfl rfl ?_
  refine kb_RX5_109 (bs' := [wMe o (An 0) (Ak 0) (At 0) (Ad 0) kk tp rw rc sh sf de, wCt G An la ns sd to he sw nh ki te mi ar z]) (rest := []) (st' := [.int 1]) 2 (c_X5_isSaying_t l G i o An Ak At Ad kk tp rw rc sh sf de la ns sd to he sw nh ki te mi ar z (by assumption) (by omega)) [0, 1] 0 rfl rfl rfl [[o], [An 0, An 1, An 2, An 3, An 4, An 5, An 6, An 7, An 8]] rfl rfl rfl rfl rfl rfl (Nat.le_of_ble_eq_true rfl) rfl dX5_alter_2 ?_
  refine J_if_ne (tgt := 10) 5 dX5_alter_5 (by decide) (fun _ => ?_) (fun c_1_ => absurd c_1_ (by decide))
  refine J_iload_n 10 2 dX5_alter_10 rfl rfl ?_
  by_cases e_2_ : w = 0
  · skip
    exact (hw (by rw [e_2_]; decide)).elim
  by_cases e_3_ : w = 1
  · skip
    exact (hw (by rw [e_3_]; decide)).elim
  by_cases e_4_ : w = 2
  · skip
    exact (hw (by rw [e_4_]; decide)).elim
  refine J_tableOut (tgt := 80) 11 dX5_alter_11 (by have q0_ := lv_neT (a := 0) e_2_ (by decide); have q1_ := lv_neT (a := 1) e_3_ (by decide); have q2_ := lv_neT (a := 2) e_4_ (by decide); omega) (by decide) ?_
  refine J_iconst (v := (-1)) 80 dX5_alter_80 rfl ?_
  exact J_iret 81 dX5_alter_81 rfl rfl
set_option maxRecDepth 100000 in
set_option maxHeartbeats 4000000 in
theorem c_X5_alter_bad (l : Launch) (G : Gd) (i : Int32) (w : Int32) (v : Int32) (o : Nat) (An : Nat → Nat) (Ak : Nat → Nat) (At : Nat → Nat) (Ad : Nat → Nat) (kk : Int32) (tp : Nat) (rw : Nat) (rc : Nat) (sh : Nat) (sf : Nat) (de : Nat) (la : Nat → Int32) (ns : Nat) (sd : Nat) (to : Nat → Int32) (he : Nat → Int32) (sw : Nat → Int32) (nh : Nat) (ki : Nat → Int32) (te : Nat → Int32) (mi : Nat → Int32) (ar : Nat → Int32) (z : Int32) (hw : ¬ (0 ≤ i ∧ i ≤ nI ns - 1)) : Ct l G yX5_alter cX5_alter 4 (some (FieldType.int)) 2 [.ref o, .int i, .int w, .int v] (wF [wMe o (An 0) (Ak 0) (At 0) (Ad 0) kk tp rw rc sh sf de, wCt G An la ns sd to he sw nh ki te mi ar z]) (some (.int (-1))) (wF [wMe o (An 0) (Ak 0) (At 0) (Ad 0) kk tp rw rc sh sf de, wCt G An la ns sd to he sw nh ki te mi ar z]) := by
  refine Ct.of "GooseArms" [some (.ref o), some (.int i), some (.int w), some (.int v)] (by decide +kernel) rfl (Nat.le_of_ble_eq_true rfl) rfl ?_
  refine J_aload_n 0 0 dX5_alter_0 rfl rfl ?_
  refine J_iload_n 1 1 dX5_alter_1 rfl rfl ?_
  refine kb_RX5_109 (bs' := [wMe o (An 0) (Ak 0) (At 0) (Ad 0) kk tp rw rc sh sf de, wCt G An la ns sd to he sw nh ki te mi ar z]) (rest := []) (st' := [.int 0]) 2 (c_X5_isSaying_f l G i o An Ak At Ad kk tp rw rc sh sf de la ns sd to he sw nh ki te mi ar z (by first | omega | assumption)) [0, 1] 0 rfl rfl rfl [[o], [An 0, An 1, An 2, An 3, An 4, An 5, An 6, An 7, An 8]] rfl rfl rfl rfl rfl rfl (Nat.le_of_ble_eq_true rfl) rfl dX5_alter_2 ?_
  refine J_if_ne (tgt := 10) 5 dX5_alter_5 (by decide) (fun c_1_ => absurd c_1_ (by decide)) (fun _ => ?_)
  refine J_iconst (v := (-1)) 8 dX5_alter_8 rfl ?_
  exact J_iret 9 dX5_alter_9 rfl rfl
set_option maxRecDepth 100000 in
set_option maxHeartbeats 4000000 in
theorem c_X5_hearer_bad (l : Launch) (G : Gd) (x : Int32) (y : Int32) (w : Int32) (o : Nat) (An : Nat → Nat) (Ak : Nat → Nat) (At : Nat → Nat) (Ad : Nat → Nat) (kk : Int32) (tp : Nat) (rw : Nat) (rc : Nat) (sh : Nat) (sf : Nat) (de : Nat) (la : Nat → Int32) (ns : Nat) (sd : Nat) (to : Nat → Int32) (he : Nat → Int32) (sw : Nat → Int32) (nh : Nat) (ki : Nat → Int32) (te : Nat → Int32) (mi : Nat → Int32) (ar : Nat → Int32) (z : Int32) (hw : ¬ ((0 ≤ x ∧ x ≤ 5) ∧ (0 ≤ y ∧ y ≤ 99) ∧ (0 ≤ w ∧ w ≤ 255))) : Ct l G yX5_hearer cX5_hearer 4 (some (FieldType.int)) 2 [.ref o, .int x, .int y, .int w] (wF [wMe o (An 0) (Ak 0) (At 0) (Ad 0) kk tp rw rc sh sf de, wCt G An la ns sd to he sw nh ki te mi ar z]) (some (.int (-1))) (wF [wMe o (An 0) (Ak 0) (At 0) (Ad 0) kk tp rw rc sh sf de, wCt G An la ns sd to he sw nh ki te mi ar z]) := by
  refine Ct.of "GooseArms" [some (.ref o), some (.int x), some (.int y), some (.int w)] (by decide +kernel) rfl (Nat.le_of_ble_eq_true rfl) rfl ?_
  refine J_iload_n 0 1 dX5_hearer_0 rfl rfl ?_
  refine kb_RX5_129 (bs' := [wMe o (An 0) (Ak 0) (At 0) (Ad 0) kk tp rw rc sh sf de, wCt G An la ns sd to he sw nh ki te mi ar z]) (rest := []) (st' := [.int (bI (0 ≤ x ∧ x ≤ 5))]) 1 (c_X5_isKind l G x ) [] rfl rfl [] rfl rfl rfl rfl rfl rfl (Nat.le_of_ble_eq_true rfl) rfl dX5_hearer_1 ?_
  refine J_ifB_eq (tgt := 28) 4 dX5_hearer_4 (by decide) (fun c_1_ => ?_) (fun c_1_ => ?_)
  · skip
    refine J_iconst (v := (-1)) 28 dX5_hearer_28 rfl ?_
    exact J_iret 29 dX5_hearer_29 rfl rfl
  · skip
    refine J_iload_n 7 2 dX5_hearer_7 rfl rfl ?_
    refine J_iconst (v := 0) 8 dX5_hearer_8 rfl ?_
    refine J_bipush (v := 99) 9 dX5_hearer_9 rfl ?_
    refine kb_RX5_65 (bs' := [wMe o (An 0) (Ak 0) (At 0) (Ad 0) kk tp rw rc sh sf de, wCt G An la ns sd to he sw nh ki te mi ar z]) (rest := []) (st' := [.int (bI (0 ≤ y ∧ y ≤ 99))]) 11 (c_X5_within l G y 0 99 ) [] rfl rfl [] rfl rfl rfl rfl rfl rfl (Nat.le_of_ble_eq_true rfl) rfl dX5_hearer_11 ?_
    refine J_ifB_eq (tgt := 28) 14 dX5_hearer_14 (by decide) (fun c_2_ => ?_) (fun c_2_ => ?_)
    · skip
      refine J_iconst (v := (-1)) 28 dX5_hearer_28 rfl ?_
      exact J_iret 29 dX5_hearer_29 rfl rfl
    · skip
      refine J_iload_n 17 3 dX5_hearer_17 rfl rfl ?_
      refine J_iconst (v := 0) 18 dX5_hearer_18 rfl ?_
      refine J_sipush (v := 255) 19 dX5_hearer_19 rfl ?_
      refine kb_RX5_65 (bs' := [wMe o (An 0) (Ak 0) (At 0) (Ad 0) kk tp rw rc sh sf de, wCt G An la ns sd to he sw nh ki te mi ar z]) (rest := []) (st' := [.int (bI (0 ≤ w ∧ w ≤ 255))]) 22 (c_X5_within l G w 0 255 ) [] rfl rfl [] rfl rfl rfl rfl rfl rfl (Nat.le_of_ble_eq_true rfl) rfl dX5_hearer_22 ?_
      refine J_ifB_ne (tgt := 30) 25 dX5_hearer_25 (by decide) (fun c_3_ => ?_) (fun c_3_ => ?_)
      · skip
        exact absurd ⟨by assumption, by assumption, by assumption⟩ hw
      · skip
        refine J_iconst (v := (-1)) 28 dX5_hearer_28 rfl ?_
        exact J_iret 29 dX5_hearer_29 rfl rfl
set_option maxRecDepth 100000 in
set_option maxHeartbeats 4000000 in
theorem c_X5_hearer_full (l : Launch) (G : Gd) (x : Int32) (y : Int32) (w : Int32) (o : Nat) (An : Nat → Nat) (Ak : Nat → Nat) (At : Nat → Nat) (Ad : Nat → Nat) (kk : Int32) (tp : Nat) (rw : Nat) (rc : Nat) (sh : Nat) (sf : Nat) (de : Nat) (la : Nat → Int32) (ns : Nat) (sd : Nat) (to : Nat → Int32) (he : Nat → Int32) (sw : Nat → Int32) (nh : Nat) (ki : Nat → Int32) (te : Nat → Int32) (mi : Nat → Int32) (ar : Nat → Int32) (z : Int32) (hw : (0 ≤ x ∧ x ≤ 5) ∧ (0 ≤ y ∧ y ≤ 99) ∧ (0 ≤ w ∧ w ≤ 255)) (hnh : nh = 8) : Ct l G yX5_hearer cX5_hearer 4 (some (FieldType.int)) 2 [.ref o, .int x, .int y, .int w] (wF [wMe o (An 0) (Ak 0) (At 0) (Ad 0) kk tp rw rc sh sf de, wCt G An la ns sd to he sw nh ki te mi ar z]) (some (.int (-2))) (wF [wMe o (An 0) (Ak 0) (At 0) (Ad 0) kk tp rw rc sh sf de, wCt G An la ns sd to he sw nh ki te mi ar z]) := by
  refine Ct.of "GooseArms" [some (.ref o), some (.int x), some (.int y), some (.int w)] (by decide +kernel) rfl (Nat.le_of_ble_eq_true rfl) rfl ?_
  refine J_iload_n 0 1 dX5_hearer_0 rfl rfl ?_
  refine kb_RX5_129 (bs' := [wMe o (An 0) (Ak 0) (At 0) (Ad 0) kk tp rw rc sh sf de, wCt G An la ns sd to he sw nh ki te mi ar z]) (rest := []) (st' := [.int (bI (0 ≤ x ∧ x ≤ 5))]) 1 (c_X5_isKind l G x ) [] rfl rfl [] rfl rfl rfl rfl rfl rfl (Nat.le_of_ble_eq_true rfl) rfl dX5_hearer_1 ?_
  refine J_ifB_eq (tgt := 28) 4 dX5_hearer_4 (by decide) (fun c_1_ => ?_) (fun c_1_ => ?_)
  · skip
    exact absurd hw.1 c_1_
  · skip
    refine J_iload_n 7 2 dX5_hearer_7 rfl rfl ?_
    refine J_iconst (v := 0) 8 dX5_hearer_8 rfl ?_
    refine J_bipush (v := 99) 9 dX5_hearer_9 rfl ?_
    refine kb_RX5_65 (bs' := [wMe o (An 0) (Ak 0) (At 0) (Ad 0) kk tp rw rc sh sf de, wCt G An la ns sd to he sw nh ki te mi ar z]) (rest := []) (st' := [.int 1]) 11 (c_X5_within_t l G y 0 99 hw.2.1) [] rfl rfl [] rfl rfl rfl rfl rfl rfl (Nat.le_of_ble_eq_true rfl) rfl dX5_hearer_11 ?_
    refine J_if_eq (tgt := 28) 14 dX5_hearer_14 (by decide) (fun c_2_ => absurd c_2_ (by decide)) (fun _ => ?_)
    refine J_iload_n 17 3 dX5_hearer_17 rfl rfl ?_
    refine J_iconst (v := 0) 18 dX5_hearer_18 rfl ?_
    refine J_sipush (v := 255) 19 dX5_hearer_19 rfl ?_
    refine kb_RX5_65 (bs' := [wMe o (An 0) (Ak 0) (At 0) (Ad 0) kk tp rw rc sh sf de, wCt G An la ns sd to he sw nh ki te mi ar z]) (rest := []) (st' := [.int 1]) 22 (c_X5_within_t l G w 0 255 hw.2.2) [] rfl rfl [] rfl rfl rfl rfl rfl rfl (Nat.le_of_ble_eq_true rfl) rfl dX5_hearer_22 ?_
    refine J_if_ne (tgt := 30) 25 dX5_hearer_25 (by decide) (fun _ => ?_) (fun c_3_ => absurd c_3_ (by decide))
    refine J_aload_n 30 0 dX5_hearer_30 rfl rfl ?_
    refine g_196 (v := .ref (An 0)) 31 0 rfl rfl dX5_hearer_31 ?_
    refine g_53 (v := .int (nI nh)) 34 1 rfl rfl dX5_hearer_34 ?_
    refine J_bipush (v := 8) 37 dX5_hearer_37 rfl ?_
    refine J_icmp_lt (tgt := 45) 39 dX5_hearer_39 (by decide) (fun c_4_ => ?_) (fun c_4_ => ?_)
    · skip
      have c_4_ : nh < 8 := (nI_ltI (a := nh) (b := 8) (by omega) (by omega)).mp c_4_
      omega
    · skip
      have c_4_ : ¬ nh < 8 := fun z_ => c_4_ ((nI_ltI (a := nh) (b := 8) (by omega) (by omega)).mpr z_)
      refine J_bipush (v := (-2)) 42 dX5_hearer_42 rfl ?_
      exact J_iret 44 dX5_hearer_44 rfl rfl
set_option maxRecDepth 100000 in
set_option maxHeartbeats 4000000 in
theorem c_X5_hearer_ok (l : Launch) (G : Gd) (x : Int32) (y : Int32) (w : Int32) (o : Nat) (An : Nat → Nat) (Ak : Nat → Nat) (At : Nat → Nat) (Ad : Nat → Nat) (kk : Int32) (tp : Nat) (rw : Nat) (rc : Nat) (sh : Nat) (sf : Nat) (de : Nat) (la : Nat → Int32) (ns : Nat) (sd : Nat) (to : Nat → Int32) (he : Nat → Int32) (sw : Nat → Int32) (nh : Nat) (ki : Nat → Int32) (te : Nat → Int32) (mi : Nat → Int32) (ar : Nat → Int32) (z : Int32) (hw : (0 ≤ x ∧ x ≤ 5) ∧ (0 ≤ y ∧ y ≤ 99) ∧ (0 ≤ w ∧ w ≤ 255)) (hnh : nh < 8) : Ct l G yX5_hearer cX5_hearer 4 (some (FieldType.int)) 2 [.ref o, .int x, .int y, .int w] (wF [wMe o (An 0) (Ak 0) (At 0) (Ad 0) kk tp rw rc sh sf de, wCt G An la ns sd to he sw nh ki te mi ar z]) (some (.int (nI nh))) (wF [wMe o (An 0) (Ak 0) (At 0) (Ad 0) kk tp rw rc sh sf de, wCt G An la ns sd to he sw (nh + 1) (upd ki nh x) (upd te nh y) (upd mi nh w) (upd ar nh 0) z]) := by
  refine Ct.of "GooseArms" [some (.ref o), some (.int x), some (.int y), some (.int w)] (by decide +kernel) rfl (Nat.le_of_ble_eq_true rfl) rfl ?_
  refine J_iload_n 0 1 dX5_hearer_0 rfl rfl ?_
  refine kb_RX5_129 (bs' := [wMe o (An 0) (Ak 0) (At 0) (Ad 0) kk tp rw rc sh sf de, wCt G An la ns sd to he sw nh ki te mi ar z]) (rest := []) (st' := [.int (bI (0 ≤ x ∧ x ≤ 5))]) 1 (c_X5_isKind l G x ) [] rfl rfl [] rfl rfl rfl rfl rfl rfl (Nat.le_of_ble_eq_true rfl) rfl dX5_hearer_1 ?_
  refine J_ifB_eq (tgt := 28) 4 dX5_hearer_4 (by decide) (fun c_1_ => ?_) (fun c_1_ => ?_)
  · skip
    exact absurd hw.1 c_1_
  · skip
    refine J_iload_n 7 2 dX5_hearer_7 rfl rfl ?_
    refine J_iconst (v := 0) 8 dX5_hearer_8 rfl ?_
    refine J_bipush (v := 99) 9 dX5_hearer_9 rfl ?_
    refine kb_RX5_65 (bs' := [wMe o (An 0) (Ak 0) (At 0) (Ad 0) kk tp rw rc sh sf de, wCt G An la ns sd to he sw nh ki te mi ar z]) (rest := []) (st' := [.int 1]) 11 (c_X5_within_t l G y 0 99 hw.2.1) [] rfl rfl [] rfl rfl rfl rfl rfl rfl (Nat.le_of_ble_eq_true rfl) rfl dX5_hearer_11 ?_
    refine J_if_eq (tgt := 28) 14 dX5_hearer_14 (by decide) (fun c_2_ => absurd c_2_ (by decide)) (fun _ => ?_)
    refine J_iload_n 17 3 dX5_hearer_17 rfl rfl ?_
    refine J_iconst (v := 0) 18 dX5_hearer_18 rfl ?_
    refine J_sipush (v := 255) 19 dX5_hearer_19 rfl ?_
    refine kb_RX5_65 (bs' := [wMe o (An 0) (Ak 0) (At 0) (Ad 0) kk tp rw rc sh sf de, wCt G An la ns sd to he sw nh ki te mi ar z]) (rest := []) (st' := [.int 1]) 22 (c_X5_within_t l G w 0 255 hw.2.2) [] rfl rfl [] rfl rfl rfl rfl rfl rfl (Nat.le_of_ble_eq_true rfl) rfl dX5_hearer_22 ?_
    refine J_if_ne (tgt := 30) 25 dX5_hearer_25 (by decide) (fun _ => ?_) (fun c_3_ => absurd c_3_ (by decide))
    refine J_aload_n 30 0 dX5_hearer_30 rfl rfl ?_
    refine g_196 (v := .ref (An 0)) 31 0 rfl rfl dX5_hearer_31 ?_
    refine g_53 (v := .int (nI nh)) 34 1 rfl rfl dX5_hearer_34 ?_
    refine J_bipush (v := 8) 37 dX5_hearer_37 rfl ?_
    refine J_icmp_lt (tgt := 45) 39 dX5_hearer_39 (by decide) (fun c_4_ => ?_) (fun c_4_ => ?_)
    · skip
      have c_4_ : nh < 8 := (nI_ltI (a := nh) (b := 8) (by omega) (by omega)).mp c_4_
      refine J_aload_n 45 0 dX5_hearer_45 rfl rfl ?_
      refine g_196 (v := .ref (An 0)) 46 0 rfl rfl dX5_hearer_46 ?_
      refine J_iload_n 49 1 dX5_hearer_49 rfl rfl ?_
      refine J_iload_n 50 2 dX5_hearer_50 rfl rfl ?_
      refine J_iload_n 51 3 dX5_hearer_51 rfl rfl ?_
      refine kb_RX5_132 (bs' := [wMe o (An 0) (Ak 0) (At 0) (Ad 0) kk tp rw rc sh sf de, wCt G An la ns sd to he sw (nh + 1) (upd ki nh x) (upd te nh y) (upd mi nh w) (upd ar nh 0) z]) (rest := []) (st' := [.int 1]) 52 (c_X0_addHearer l G x y w An la ns sd to he sw nh ki te mi ar z (by first | omega | assumption)) [1] 1 rfl rfl rfl [[An 0, An 1, An 2, An 3, An 4, An 5, An 6, An 7, An 8]] rfl rfl rfl rfl rfl rfl (Nat.le_of_ble_eq_true rfl) rfl dX5_hearer_52 ?_
      refine J_pop 55 dX5_hearer_55 rfl ?_
      refine J_aload_n 56 0 dX5_hearer_56 rfl rfl ?_
      refine g_196 (v := .ref (An 0)) 57 0 rfl rfl dX5_hearer_57 ?_
      refine g_53 (v := .int (nI (nh + 1))) 60 1 rfl rfl dX5_hearer_60 ?_
      refine J_iconst (v := 1) 63 dX5_hearer_63 rfl ?_
      refine J_isub 64 dX5_hearer_64 ?_
      refine J_topi (y := nI nh) 65 (pk_sub (a := nh + 1) (b := 1) (by omega)) ?_
      exact J_iret 65 dX5_hearer_65 rfl rfl
    · skip
      have c_4_ : ¬ nh < 8 := fun z_ => c_4_ ((nI_ltI (a := nh) (b := 8) (by omega) (by omega)).mpr z_)
      omega
set_option maxRecDepth 100000 in
set_option maxHeartbeats 4000000 in
theorem c_X5_of_0 (l : Launch) (G : Gd) (h : Nat) (o : Nat) (An : Nat → Nat) (Ak : Nat → Nat) (At : Nat → Nat) (Ad : Nat → Nat) (kk : Int32) (tp : Nat) (rw : Nat) (rc : Nat) (sh : Nat) (sf : Nat) (de : Nat) (la : Nat → Int32) (ns : Nat) (sd : Nat) (to : Nat → Int32) (he : Nat → Int32) (sw : Nat → Int32) (nh : Nat) (ki : Nat → Int32) (te : Nat → Int32) (mi : Nat → Int32) (ar : Nat → Int32) (z : Int32) (hh : h < nh) (hnh : nh ≤ 8) : Ct l G yX5_of cX5_of 3 (some (FieldType.int)) 2 [.ref o, .int (nI h), .int 0] (wF [wMe o (An 0) (Ak 0) (At 0) (Ad 0) kk tp rw rc sh sf de, wCt G An la ns sd to he sw nh ki te mi ar z]) (some (.int (ki h))) (wF [wMe o (An 0) (Ak 0) (At 0) (Ad 0) kk tp rw rc sh sf de, wCt G An la ns sd to he sw nh ki te mi ar z]) := by
  refine Ct.of "GooseArms" [some (.ref o), some (.int (nI h)), some (.int 0)] (by decide +kernel) rfl (Nat.le_of_ble_eq_true rfl) rfl ?_
  refine J_aload_n 0 0 dX5_of_0 rfl rfl ?_
  refine J_iload_n 1 1 dX5_of_1 rfl rfl ?_
  refine kb_RX5_135 (bs' := [wMe o (An 0) (Ak 0) (At 0) (Ad 0) kk tp rw rc sh sf de, wCt G An la ns sd to he sw nh ki te mi ar z]) (rest := []) (st' := [.int 1]) 2 (c_X5_isHearer_t l G h o An Ak At Ad kk tp rw rc sh sf de la ns sd to he sw nh ki te mi ar z (by assumption) (by omega)) [0, 1] 0 rfl rfl rfl [[o], [An 0, An 1, An 2, An 3, An 4, An 5, An 6, An 7, An 8]] rfl rfl rfl rfl rfl rfl (Nat.le_of_ble_eq_true rfl) rfl dX5_of_2 ?_
  refine J_if_ne (tgt := 10) 5 dX5_of_5 (by decide) (fun _ => ?_) (fun c_1_ => absurd c_1_ (by decide))
  refine J_iload_n 10 2 dX5_of_10 rfl rfl ?_
  refine J_tableIn (tgt := 40) (off := 29) 11 0 dX5_of_11 rfl (by decide +kernel) (by decide) ?_
  refine J_aload_n 40 0 dX5_of_40 rfl rfl ?_
  refine g_196 (v := .ref (An 0)) 41 0 rfl rfl dX5_of_41 ?_
  refine g_56 (v := .ref (An 5)) 44 1 rfl rfl dX5_of_44 ?_
  refine J_iload_n 47 1 dX5_of_47 rfl rfl ?_
  refine J_iald 48 6 h rfl rfl (by omega) (by decide) dX5_of_48 ?_
  exact J_iret 49 dX5_of_49 rfl rfl
set_option maxRecDepth 100000 in
set_option maxHeartbeats 4000000 in
theorem c_X5_of_1 (l : Launch) (G : Gd) (h : Nat) (o : Nat) (An : Nat → Nat) (Ak : Nat → Nat) (At : Nat → Nat) (Ad : Nat → Nat) (kk : Int32) (tp : Nat) (rw : Nat) (rc : Nat) (sh : Nat) (sf : Nat) (de : Nat) (la : Nat → Int32) (ns : Nat) (sd : Nat) (to : Nat → Int32) (he : Nat → Int32) (sw : Nat → Int32) (nh : Nat) (ki : Nat → Int32) (te : Nat → Int32) (mi : Nat → Int32) (ar : Nat → Int32) (z : Int32) (hh : h < nh) (hnh : nh ≤ 8) : Ct l G yX5_of cX5_of 3 (some (FieldType.int)) 2 [.ref o, .int (nI h), .int 1] (wF [wMe o (An 0) (Ak 0) (At 0) (Ad 0) kk tp rw rc sh sf de, wCt G An la ns sd to he sw nh ki te mi ar z]) (some (.int (te h))) (wF [wMe o (An 0) (Ak 0) (At 0) (Ad 0) kk tp rw rc sh sf de, wCt G An la ns sd to he sw nh ki te mi ar z]) := by
  refine Ct.of "GooseArms" [some (.ref o), some (.int (nI h)), some (.int 1)] (by decide +kernel) rfl (Nat.le_of_ble_eq_true rfl) rfl ?_
  refine J_aload_n 0 0 dX5_of_0 rfl rfl ?_
  refine J_iload_n 1 1 dX5_of_1 rfl rfl ?_
  refine kb_RX5_135 (bs' := [wMe o (An 0) (Ak 0) (At 0) (Ad 0) kk tp rw rc sh sf de, wCt G An la ns sd to he sw nh ki te mi ar z]) (rest := []) (st' := [.int 1]) 2 (c_X5_isHearer_t l G h o An Ak At Ad kk tp rw rc sh sf de la ns sd to he sw nh ki te mi ar z (by assumption) (by omega)) [0, 1] 0 rfl rfl rfl [[o], [An 0, An 1, An 2, An 3, An 4, An 5, An 6, An 7, An 8]] rfl rfl rfl rfl rfl rfl (Nat.le_of_ble_eq_true rfl) rfl dX5_of_2 ?_
  refine J_if_ne (tgt := 10) 5 dX5_of_5 (by decide) (fun _ => ?_) (fun c_1_ => absurd c_1_ (by decide))
  refine J_iload_n 10 2 dX5_of_10 rfl rfl ?_
  refine J_tableIn (tgt := 50) (off := 39) 11 1 dX5_of_11 rfl (by decide +kernel) (by decide) ?_
  refine J_aload_n 50 0 dX5_of_50 rfl rfl ?_
  refine g_196 (v := .ref (An 0)) 51 0 rfl rfl dX5_of_51 ?_
  refine g_58 (v := .ref (An 6)) 54 1 rfl rfl dX5_of_54 ?_
  refine J_iload_n 57 1 dX5_of_57 rfl rfl ?_
  refine J_iald 58 7 h rfl rfl (by omega) (by decide) dX5_of_58 ?_
  exact J_iret 59 dX5_of_59 rfl rfl
set_option maxRecDepth 100000 in
set_option maxHeartbeats 4000000 in
theorem c_X5_of_2 (l : Launch) (G : Gd) (h : Nat) (o : Nat) (An : Nat → Nat) (Ak : Nat → Nat) (At : Nat → Nat) (Ad : Nat → Nat) (kk : Int32) (tp : Nat) (rw : Nat) (rc : Nat) (sh : Nat) (sf : Nat) (de : Nat) (la : Nat → Int32) (ns : Nat) (sd : Nat) (to : Nat → Int32) (he : Nat → Int32) (sw : Nat → Int32) (nh : Nat) (ki : Nat → Int32) (te : Nat → Int32) (mi : Nat → Int32) (ar : Nat → Int32) (z : Int32) (hh : h < nh) (hnh : nh ≤ 8) : Ct l G yX5_of cX5_of 3 (some (FieldType.int)) 2 [.ref o, .int (nI h), .int 2] (wF [wMe o (An 0) (Ak 0) (At 0) (Ad 0) kk tp rw rc sh sf de, wCt G An la ns sd to he sw nh ki te mi ar z]) (some (.int (mi h))) (wF [wMe o (An 0) (Ak 0) (At 0) (Ad 0) kk tp rw rc sh sf de, wCt G An la ns sd to he sw nh ki te mi ar z]) := by
  refine Ct.of "GooseArms" [some (.ref o), some (.int (nI h)), some (.int 2)] (by decide +kernel) rfl (Nat.le_of_ble_eq_true rfl) rfl ?_
  refine J_aload_n 0 0 dX5_of_0 rfl rfl ?_
  refine J_iload_n 1 1 dX5_of_1 rfl rfl ?_
  refine kb_RX5_135 (bs' := [wMe o (An 0) (Ak 0) (At 0) (Ad 0) kk tp rw rc sh sf de, wCt G An la ns sd to he sw nh ki te mi ar z]) (rest := []) (st' := [.int 1]) 2 (c_X5_isHearer_t l G h o An Ak At Ad kk tp rw rc sh sf de la ns sd to he sw nh ki te mi ar z (by assumption) (by omega)) [0, 1] 0 rfl rfl rfl [[o], [An 0, An 1, An 2, An 3, An 4, An 5, An 6, An 7, An 8]] rfl rfl rfl rfl rfl rfl (Nat.le_of_ble_eq_true rfl) rfl dX5_of_2 ?_
  refine J_if_ne (tgt := 10) 5 dX5_of_5 (by decide) (fun _ => ?_) (fun c_1_ => absurd c_1_ (by decide))
  refine J_iload_n 10 2 dX5_of_10 rfl rfl ?_
  refine J_tableIn (tgt := 60) (off := 49) 11 2 dX5_of_11 rfl (by decide +kernel) (by decide) ?_
  refine J_aload_n 60 0 dX5_of_60 rfl rfl ?_
  refine g_196 (v := .ref (An 0)) 61 0 rfl rfl dX5_of_61 ?_
  refine g_60 (v := .ref (An 7)) 64 1 rfl rfl dX5_of_64 ?_
  refine J_iload_n 67 1 dX5_of_67 rfl rfl ?_
  refine J_iald 68 8 h rfl rfl (by omega) (by decide) dX5_of_68 ?_
  exact J_iret 69 dX5_of_69 rfl rfl
set_option maxRecDepth 100000 in
set_option maxHeartbeats 4000000 in
theorem c_X5_of_3 (l : Launch) (G : Gd) (h : Nat) (o : Nat) (An : Nat → Nat) (Ak : Nat → Nat) (At : Nat → Nat) (Ad : Nat → Nat) (kk : Int32) (tp : Nat) (rw : Nat) (rc : Nat) (sh : Nat) (sf : Nat) (de : Nat) (la : Nat → Int32) (ns : Nat) (sd : Nat) (to : Nat → Int32) (he : Nat → Int32) (sw : Nat → Int32) (nh : Nat) (ki : Nat → Int32) (te : Nat → Int32) (mi : Nat → Int32) (ar : Nat → Int32) (z : Int32) (hh : h < nh) (hnh : nh ≤ 8) : Ct l G yX5_of cX5_of 3 (some (FieldType.int)) 2 [.ref o, .int (nI h), .int 3] (wF [wMe o (An 0) (Ak 0) (At 0) (Ad 0) kk tp rw rc sh sf de, wCt G An la ns sd to he sw nh ki te mi ar z]) (some (.int (ar h))) (wF [wMe o (An 0) (Ak 0) (At 0) (Ad 0) kk tp rw rc sh sf de, wCt G An la ns sd to he sw nh ki te mi ar z]) := by
  refine Ct.of "GooseArms" [some (.ref o), some (.int (nI h)), some (.int 3)] (by decide +kernel) rfl (Nat.le_of_ble_eq_true rfl) rfl ?_
  refine J_aload_n 0 0 dX5_of_0 rfl rfl ?_
  refine J_iload_n 1 1 dX5_of_1 rfl rfl ?_
  refine kb_RX5_135 (bs' := [wMe o (An 0) (Ak 0) (At 0) (Ad 0) kk tp rw rc sh sf de, wCt G An la ns sd to he sw nh ki te mi ar z]) (rest := []) (st' := [.int 1]) 2 (c_X5_isHearer_t l G h o An Ak At Ad kk tp rw rc sh sf de la ns sd to he sw nh ki te mi ar z (by assumption) (by omega)) [0, 1] 0 rfl rfl rfl [[o], [An 0, An 1, An 2, An 3, An 4, An 5, An 6, An 7, An 8]] rfl rfl rfl rfl rfl rfl (Nat.le_of_ble_eq_true rfl) rfl dX5_of_2 ?_
  refine J_if_ne (tgt := 10) 5 dX5_of_5 (by decide) (fun _ => ?_) (fun c_1_ => absurd c_1_ (by decide))
  refine J_iload_n 10 2 dX5_of_10 rfl rfl ?_
  refine J_tableIn (tgt := 70) (off := 59) 11 3 dX5_of_11 rfl (by decide +kernel) (by decide) ?_
  refine J_aload_n 70 0 dX5_of_70 rfl rfl ?_
  refine g_196 (v := .ref (An 0)) 71 0 rfl rfl dX5_of_71 ?_
  refine g_62 (v := .ref (An 8)) 74 1 rfl rfl dX5_of_74 ?_
  refine J_iload_n 77 1 dX5_of_77 rfl rfl ?_
  refine J_iald 78 9 h rfl rfl (by omega) (by decide) dX5_of_78 ?_
  exact J_iret 79 dX5_of_79 rfl rfl
set_option maxRecDepth 100000 in
set_option maxHeartbeats 4000000 in
theorem c_X5_of_badw (l : Launch) (G : Gd) (h : Nat) (w : Int32) (o : Nat) (An : Nat → Nat) (Ak : Nat → Nat) (At : Nat → Nat) (Ad : Nat → Nat) (kk : Int32) (tp : Nat) (rw : Nat) (rc : Nat) (sh : Nat) (sf : Nat) (de : Nat) (la : Nat → Int32) (ns : Nat) (sd : Nat) (to : Nat → Int32) (he : Nat → Int32) (sw : Nat → Int32) (nh : Nat) (ki : Nat → Int32) (te : Nat → Int32) (mi : Nat → Int32) (ar : Nat → Int32) (z : Int32) (hh : h < nh) (hnh : nh ≤ 8) (hw : ¬ (0 ≤ w ∧ w ≤ 3)) : Ct l G yX5_of cX5_of 3 (some (FieldType.int)) 2 [.ref o, .int (nI h), .int w] (wF [wMe o (An 0) (Ak 0) (At 0) (Ad 0) kk tp rw rc sh sf de, wCt G An la ns sd to he sw nh ki te mi ar z]) (some (.int (-1))) (wF [wMe o (An 0) (Ak 0) (At 0) (Ad 0) kk tp rw rc sh sf de, wCt G An la ns sd to he sw nh ki te mi ar z]) := by
  refine Ct.of "GooseArms" [some (.ref o), some (.int (nI h)), some (.int w)] (by decide +kernel) rfl (Nat.le_of_ble_eq_true rfl) rfl ?_
  refine J_aload_n 0 0 dX5_of_0 rfl rfl ?_
  refine J_iload_n 1 1 dX5_of_1 rfl rfl ?_
  refine kb_RX5_135 (bs' := [wMe o (An 0) (Ak 0) (At 0) (Ad 0) kk tp rw rc sh sf de, wCt G An la ns sd to he sw nh ki te mi ar z]) (rest := []) (st' := [.int 1]) 2 (c_X5_isHearer_t l G h o An Ak At Ad kk tp rw rc sh sf de la ns sd to he sw nh ki te mi ar z (by assumption) (by omega)) [0, 1] 0 rfl rfl rfl [[o], [An 0, An 1, An 2, An 3, An 4, An 5, An 6, An 7, An 8]] rfl rfl rfl rfl rfl rfl (Nat.le_of_ble_eq_true rfl) rfl dX5_of_2 ?_
  refine J_if_ne (tgt := 10) 5 dX5_of_5 (by decide) (fun _ => ?_) (fun c_1_ => absurd c_1_ (by decide))
  refine J_iload_n 10 2 dX5_of_10 rfl rfl ?_
  by_cases e_2_ : w = 0
  · skip
    exact (hw (by rw [e_2_]; decide)).elim
  by_cases e_3_ : w = 1
  · skip
    exact (hw (by rw [e_3_]; decide)).elim
  by_cases e_4_ : w = 2
  · skip
    exact (hw (by rw [e_4_]; decide)).elim
  by_cases e_5_ : w = 3
  · skip
    exact (hw (by rw [e_5_]; decide)).elim
  refine J_tableOut (tgt := 80) 11 dX5_of_11 (by have q0_ := lv_neT (a := 0) e_2_ (by decide); have q1_ := lv_neT (a := 1) e_3_ (by decide); have q2_ := lv_neT (a := 2) e_4_ (by decide); have q3_ := lv_neT (a := 3) e_5_ (by decide); omega) (by decide) ?_
  refine J_iconst (v := (-1)) 80 dX5_of_80 rfl ?_
  exact J_iret 81 dX5_of_81 rfl rfl
set_option maxRecDepth 100000 in
set_option maxHeartbeats 4000000 in
theorem c_X5_of_bad (l : Launch) (G : Gd) (h : Int32) (w : Int32) (o : Nat) (An : Nat → Nat) (Ak : Nat → Nat) (At : Nat → Nat) (Ad : Nat → Nat) (kk : Int32) (tp : Nat) (rw : Nat) (rc : Nat) (sh : Nat) (sf : Nat) (de : Nat) (la : Nat → Int32) (ns : Nat) (sd : Nat) (to : Nat → Int32) (he : Nat → Int32) (sw : Nat → Int32) (nh : Nat) (ki : Nat → Int32) (te : Nat → Int32) (mi : Nat → Int32) (ar : Nat → Int32) (z : Int32) (hw : ¬ (0 ≤ h ∧ h ≤ nI nh - 1)) : Ct l G yX5_of cX5_of 3 (some (FieldType.int)) 2 [.ref o, .int h, .int w] (wF [wMe o (An 0) (Ak 0) (At 0) (Ad 0) kk tp rw rc sh sf de, wCt G An la ns sd to he sw nh ki te mi ar z]) (some (.int (-1))) (wF [wMe o (An 0) (Ak 0) (At 0) (Ad 0) kk tp rw rc sh sf de, wCt G An la ns sd to he sw nh ki te mi ar z]) := by
  refine Ct.of "GooseArms" [some (.ref o), some (.int h), some (.int w)] (by decide +kernel) rfl (Nat.le_of_ble_eq_true rfl) rfl ?_
  refine J_aload_n 0 0 dX5_of_0 rfl rfl ?_
  refine J_iload_n 1 1 dX5_of_1 rfl rfl ?_
  refine kb_RX5_135 (bs' := [wMe o (An 0) (Ak 0) (At 0) (Ad 0) kk tp rw rc sh sf de, wCt G An la ns sd to he sw nh ki te mi ar z]) (rest := []) (st' := [.int 0]) 2 (c_X5_isHearer_f l G h o An Ak At Ad kk tp rw rc sh sf de la ns sd to he sw nh ki te mi ar z (by first | omega | assumption)) [0, 1] 0 rfl rfl rfl [[o], [An 0, An 1, An 2, An 3, An 4, An 5, An 6, An 7, An 8]] rfl rfl rfl rfl rfl rfl (Nat.le_of_ble_eq_true rfl) rfl dX5_of_2 ?_
  refine J_if_ne (tgt := 10) 5 dX5_of_5 (by decide) (fun c_1_ => absurd c_1_ (by decide)) (fun _ => ?_)
  refine J_iconst (v := (-1)) 8 dX5_of_8 rfl ?_
  exact J_iret 9 dX5_of_9 rfl rfl
set_option maxRecDepth 100000 in
set_option maxHeartbeats 4000000 in
theorem c_X5_does_0 (l : Launch) (G : Gd) (h : Nat) (o : Nat) (An : Nat → Nat) (Ak : Nat → Nat) (At : Nat → Nat) (Ad : Nat → Nat) (kk : Int32) (tp : Nat) (rw : Nat) (rc : Nat) (sh : Nat) (sf : Nat) (de : Nat) (la : Nat → Int32) (ns : Nat) (sd : Nat) (to : Nat → Int32) (he : Nat → Int32) (sw : Nat → Int32) (nh : Nat) (ki : Nat → Int32) (te : Nat → Int32) (mi : Nat → Int32) (ar : Nat → Int32) (z : Int32) (hh : h < nh) (hnh : nh ≤ 8) (hns : ns ≤ 12) (hsd : sd < ns) : Ct l G yX5_does cX5_does 3 (some (FieldType.int)) 2 [.ref o, .int (nI h), .int 0] (wF [wMe o (An 0) (Ak 0) (At 0) (Ad 0) kk tp rw rc sh sf de, wCt G An la ns sd to he sw nh ki te mi ar z]) (some (.int (1000 + fShiv (ki h) (mi h) (te h) (la 1) (to sd) (he sd) (sw sd) (nI sd)))) (wF [wMe o (An 0) (Ak 0) (At 0) (Ad 0) kk tp rw rc sh sf de, wCt G An la ns sd to he sw nh ki te mi ar z]) := by
  refine Ct.of "GooseArms" [some (.ref o), some (.int (nI h)), some (.int 0)] (by decide +kernel) rfl (Nat.le_of_ble_eq_true rfl) rfl ?_
  refine J_aload_n 0 0 dX5_does_0 rfl rfl ?_
  refine J_iload_n 1 1 dX5_does_1 rfl rfl ?_
  refine kb_RX5_135 (bs' := [wMe o (An 0) (Ak 0) (At 0) (Ad 0) kk tp rw rc sh sf de, wCt G An la ns sd to he sw nh ki te mi ar z]) (rest := []) (st' := [.int 1]) 2 (c_X5_isHearer_t l G h o An Ak At Ad kk tp rw rc sh sf de la ns sd to he sw nh ki te mi ar z (by assumption) (by omega)) [0, 1] 0 rfl rfl rfl [[o], [An 0, An 1, An 2, An 3, An 4, An 5, An 6, An 7, An 8]] rfl rfl rfl rfl rfl rfl (Nat.le_of_ble_eq_true rfl) rfl dX5_does_2 ?_
  refine J_if_ne (tgt := 10) 5 dX5_does_5 (by decide) (fun _ => ?_) (fun c_1_ => absurd c_1_ (by decide))
  refine J_iload_n 10 2 dX5_does_10 rfl rfl ?_
  refine J_tableIn (tgt := 36) (off := 25) 11 0 dX5_does_11 rfl (by decide +kernel) (by decide) ?_
  refine J_sipush (v := 1000) 36 dX5_does_36 rfl ?_
  refine J_aload_n 39 0 dX5_does_39 rfl rfl ?_
  refine g_196 (v := .ref (An 0)) 40 0 rfl rfl dX5_does_40 ?_
  refine kb_RX5_150 (bs' := [wMe o (An 0) (Ak 0) (At 0) (Ad 0) kk tp rw rc sh sf de, wCt G An la ns sd to he sw nh ki te mi ar z]) (rest := [.int 1000]) (st' := [.int (nI (ns - sd)), .int 1000]) 43 (c_X0_left l G An la ns sd to he sw nh ki te mi ar z (by first | omega | assumption)) [1] 1 rfl rfl rfl [[An 0, An 1, An 2, An 3, An 4, An 5, An 6, An 7, An 8]] rfl rfl rfl rfl rfl rfl (Nat.le_of_ble_eq_true rfl) rfl dX5_does_43 ?_
  refine J_if_le (tgt := 67) 46 dX5_does_46 (by decide) (fun c_2_ => ?_) (fun c_2_ => ?_)
  · skip
    have c_2_ : (ns - sd) ≤ 0 := (nI_leI (a := (ns - sd)) (b := 0) (by omega) (by omega)).mp c_2_
    omega
  · skip
    have c_2_ : ¬ (ns - sd) ≤ 0 := fun z_ => c_2_ ((nI_leI (a := (ns - sd)) (b := 0) (by omega) (by omega)).mpr z_)
    refine J_aload_n 49 0 dX5_does_49 rfl rfl ?_
    refine g_196 (v := .ref (An 0)) 50 0 rfl rfl dX5_does_50 ?_
    refine J_iload_n 53 1 dX5_does_53 rfl rfl ?_
    refine J_aload_n 54 0 dX5_does_54 rfl rfl ?_
    refine g_196 (v := .ref (An 0)) 55 0 rfl rfl dX5_does_55 ?_
    refine g_45 (v := .int (nI sd)) 58 1 rfl rfl dX5_does_58 ?_
    refine kb_RX5_157 (bs' := [wMe o (An 0) (Ak 0) (At 0) (Ad 0) kk tp rw rc sh sf de, wCt G An la ns sd to he sw nh ki te mi ar z]) (rest := [.int 1000]) (st' := [.int (fShiv (ki h) (mi h) (te h) (la 1) (to sd) (he sd) (sw sd) (nI sd)), .int 1000]) 61 (c_X0_shivers l G h sd An la ns sd to he sw nh ki te mi ar z (by first | omega | assumption) (by first | omega | assumption)) [1] 1 rfl rfl rfl [[An 0, An 1, An 2, An 3, An 4, An 5, An 6, An 7, An 8]] rfl rfl rfl rfl rfl rfl (Nat.le_of_ble_eq_true rfl) rfl dX5_does_61 ?_
    refine J_goto (tgt := 68) 64 dX5_does_64 (by decide) ?_
    refine J_iadd 68 dX5_does_68 ?_
    exact J_iret 69 dX5_does_69 (congrArg (fun x_ => some (Value.int x_)) (by first | rfl | omega | grind)) rfl
set_option maxRecDepth 100000 in
set_option maxHeartbeats 4000000 in
theorem c_X5_does_0z (l : Launch) (G : Gd) (h : Nat) (o : Nat) (An : Nat → Nat) (Ak : Nat → Nat) (At : Nat → Nat) (Ad : Nat → Nat) (kk : Int32) (tp : Nat) (rw : Nat) (rc : Nat) (sh : Nat) (sf : Nat) (de : Nat) (la : Nat → Int32) (ns : Nat) (sd : Nat) (to : Nat → Int32) (he : Nat → Int32) (sw : Nat → Int32) (nh : Nat) (ki : Nat → Int32) (te : Nat → Int32) (mi : Nat → Int32) (ar : Nat → Int32) (z : Int32) (hh : h < nh) (hnh : nh ≤ 8) (hns : ns ≤ 12) (hsd : sd = ns) : Ct l G yX5_does cX5_does 3 (some (FieldType.int)) 2 [.ref o, .int (nI h), .int 0] (wF [wMe o (An 0) (Ak 0) (At 0) (Ad 0) kk tp rw rc sh sf de, wCt G An la ns sd to he sw nh ki te mi ar z]) (some (.int 1000)) (wF [wMe o (An 0) (Ak 0) (At 0) (Ad 0) kk tp rw rc sh sf de, wCt G An la ns sd to he sw nh ki te mi ar z]) := by
  refine Ct.of "GooseArms" [some (.ref o), some (.int (nI h)), some (.int 0)] (by decide +kernel) rfl (Nat.le_of_ble_eq_true rfl) rfl ?_
  refine J_aload_n 0 0 dX5_does_0 rfl rfl ?_
  refine J_iload_n 1 1 dX5_does_1 rfl rfl ?_
  refine kb_RX5_135 (bs' := [wMe o (An 0) (Ak 0) (At 0) (Ad 0) kk tp rw rc sh sf de, wCt G An la ns sd to he sw nh ki te mi ar z]) (rest := []) (st' := [.int 1]) 2 (c_X5_isHearer_t l G h o An Ak At Ad kk tp rw rc sh sf de la ns sd to he sw nh ki te mi ar z (by assumption) (by omega)) [0, 1] 0 rfl rfl rfl [[o], [An 0, An 1, An 2, An 3, An 4, An 5, An 6, An 7, An 8]] rfl rfl rfl rfl rfl rfl (Nat.le_of_ble_eq_true rfl) rfl dX5_does_2 ?_
  refine J_if_ne (tgt := 10) 5 dX5_does_5 (by decide) (fun _ => ?_) (fun c_1_ => absurd c_1_ (by decide))
  refine J_iload_n 10 2 dX5_does_10 rfl rfl ?_
  refine J_tableIn (tgt := 36) (off := 25) 11 0 dX5_does_11 rfl (by decide +kernel) (by decide) ?_
  refine J_sipush (v := 1000) 36 dX5_does_36 rfl ?_
  refine J_aload_n 39 0 dX5_does_39 rfl rfl ?_
  refine g_196 (v := .ref (An 0)) 40 0 rfl rfl dX5_does_40 ?_
  refine kb_RX5_150 (bs' := [wMe o (An 0) (Ak 0) (At 0) (Ad 0) kk tp rw rc sh sf de, wCt G An la ns sd to he sw nh ki te mi ar z]) (rest := [.int 1000]) (st' := [.int (nI (ns - sd)), .int 1000]) 43 (c_X0_left l G An la ns sd to he sw nh ki te mi ar z (by first | omega | assumption)) [1] 1 rfl rfl rfl [[An 0, An 1, An 2, An 3, An 4, An 5, An 6, An 7, An 8]] rfl rfl rfl rfl rfl rfl (Nat.le_of_ble_eq_true rfl) rfl dX5_does_43 ?_
  refine J_if_le (tgt := 67) 46 dX5_does_46 (by decide) (fun c_2_ => ?_) (fun c_2_ => ?_)
  · skip
    have c_2_ : (ns - sd) ≤ 0 := (nI_leI (a := (ns - sd)) (b := 0) (by omega) (by omega)).mp c_2_
    refine J_iconst (v := 0) 67 dX5_does_67 rfl ?_
    refine J_iadd 68 dX5_does_68 ?_
    refine J_topi (y := 1000) 69 rfl ?_
    exact J_iret 69 dX5_does_69 rfl rfl
  · skip
    have c_2_ : ¬ (ns - sd) ≤ 0 := fun z_ => c_2_ ((nI_leI (a := (ns - sd)) (b := 0) (by omega) (by omega)).mpr z_)
    omega
set_option maxRecDepth 100000 in
set_option maxHeartbeats 4000000 in
theorem c_X5_does_1 (l : Launch) (G : Gd) (h : Nat) (o : Nat) (An : Nat → Nat) (Ak : Nat → Nat) (At : Nat → Nat) (Ad : Nat → Nat) (kk : Int32) (tp : Nat) (rw : Nat) (rc : Nat) (sh : Nat) (sf : Nat) (de : Nat) (la : Nat → Int32) (ns : Nat) (sd : Nat) (to : Nat → Int32) (he : Nat → Int32) (sw : Nat → Int32) (nh : Nat) (ki : Nat → Int32) (te : Nat → Int32) (mi : Nat → Int32) (ar : Nat → Int32) (z : Int32) (hh : h < nh) (hnh : nh ≤ 8) : Ct l G yX5_does cX5_does 3 (some (FieldType.int)) 2 [.ref o, .int (nI h), .int 1] (wF [wMe o (An 0) (Ak 0) (At 0) (Ad 0) kk tp rw rc sh sf de, wCt G An la ns sd to he sw nh ki te mi ar z]) (some (.int (1000 + fNeeds (ki h) (te h) (la 0)))) (wF [wMe o (An 0) (Ak 0) (At 0) (Ad 0) kk tp rw rc sh sf de, wCt G An la ns sd to he sw nh ki te mi ar z]) := by
  refine Ct.of "GooseArms" [some (.ref o), some (.int (nI h)), some (.int 1)] (by decide +kernel) rfl (Nat.le_of_ble_eq_true rfl) rfl ?_
  refine J_aload_n 0 0 dX5_does_0 rfl rfl ?_
  refine J_iload_n 1 1 dX5_does_1 rfl rfl ?_
  refine kb_RX5_135 (bs' := [wMe o (An 0) (Ak 0) (At 0) (Ad 0) kk tp rw rc sh sf de, wCt G An la ns sd to he sw nh ki te mi ar z]) (rest := []) (st' := [.int 1]) 2 (c_X5_isHearer_t l G h o An Ak At Ad kk tp rw rc sh sf de la ns sd to he sw nh ki te mi ar z (by assumption) (by omega)) [0, 1] 0 rfl rfl rfl [[o], [An 0, An 1, An 2, An 3, An 4, An 5, An 6, An 7, An 8]] rfl rfl rfl rfl rfl rfl (Nat.le_of_ble_eq_true rfl) rfl dX5_does_2 ?_
  refine J_if_ne (tgt := 10) 5 dX5_does_5 (by decide) (fun _ => ?_) (fun c_1_ => absurd c_1_ (by decide))
  refine J_iload_n 10 2 dX5_does_10 rfl rfl ?_
  refine J_tableIn (tgt := 70) (off := 59) 11 1 dX5_does_11 rfl (by decide +kernel) (by decide) ?_
  refine J_sipush (v := 1000) 70 dX5_does_70 rfl ?_
  refine J_aload_n 73 0 dX5_does_73 rfl rfl ?_
  refine g_196 (v := .ref (An 0)) 74 0 rfl rfl dX5_does_74 ?_
  refine J_iload_n 77 1 dX5_does_77 rfl rfl ?_
  refine kb_RX5_161 (bs' := [wMe o (An 0) (Ak 0) (At 0) (Ad 0) kk tp rw rc sh sf de, wCt G An la ns sd to he sw nh ki te mi ar z]) (rest := [.int 1000]) (st' := [.int (fNeeds (ki h) (te h) (la 0)), .int 1000]) 78 (c_X0_needs l G h An la ns sd to he sw nh ki te mi ar z (by first | omega | assumption)) [1] 1 rfl rfl rfl [[An 0, An 1, An 2, An 3, An 4, An 5, An 6, An 7, An 8]] rfl rfl rfl rfl rfl rfl (Nat.le_of_ble_eq_true rfl) rfl dX5_does_78 ?_
  refine J_iadd 81 dX5_does_81 ?_
  exact J_iret 82 dX5_does_82 (congrArg (fun x_ => some (Value.int x_)) (by first | rfl | omega | grind)) rfl
set_option maxRecDepth 100000 in
set_option maxHeartbeats 4000000 in
theorem c_X5_does_2 (l : Launch) (G : Gd) (h : Nat) (o : Nat) (An : Nat → Nat) (Ak : Nat → Nat) (At : Nat → Nat) (Ad : Nat → Nat) (kk : Int32) (tp : Nat) (rw : Nat) (rc : Nat) (sh : Nat) (sf : Nat) (de : Nat) (la : Nat → Int32) (ns : Nat) (sd : Nat) (to : Nat → Int32) (he : Nat → Int32) (sw : Nat → Int32) (nh : Nat) (ki : Nat → Int32) (te : Nat → Int32) (mi : Nat → Int32) (ar : Nat → Int32) (z : Int32) (hh : h < nh) (hnh : nh ≤ 8) : Ct l G yX5_does cX5_does 3 (some (FieldType.int)) 2 [.ref o, .int (nI h), .int 2] (wF [wMe o (An 0) (Ak 0) (At 0) (Ad 0) kk tp rw rc sh sf de, wCt G An la ns sd to he sw nh ki te mi ar z]) (some (.int (1000 + fWears (ki h) (la 2)))) (wF [wMe o (An 0) (Ak 0) (At 0) (Ad 0) kk tp rw rc sh sf de, wCt G An la ns sd to he sw nh ki te mi ar z]) := by
  refine Ct.of "GooseArms" [some (.ref o), some (.int (nI h)), some (.int 2)] (by decide +kernel) rfl (Nat.le_of_ble_eq_true rfl) rfl ?_
  refine J_aload_n 0 0 dX5_does_0 rfl rfl ?_
  refine J_iload_n 1 1 dX5_does_1 rfl rfl ?_
  refine kb_RX5_135 (bs' := [wMe o (An 0) (Ak 0) (At 0) (Ad 0) kk tp rw rc sh sf de, wCt G An la ns sd to he sw nh ki te mi ar z]) (rest := []) (st' := [.int 1]) 2 (c_X5_isHearer_t l G h o An Ak At Ad kk tp rw rc sh sf de la ns sd to he sw nh ki te mi ar z (by assumption) (by omega)) [0, 1] 0 rfl rfl rfl [[o], [An 0, An 1, An 2, An 3, An 4, An 5, An 6, An 7, An 8]] rfl rfl rfl rfl rfl rfl (Nat.le_of_ble_eq_true rfl) rfl dX5_does_2 ?_
  refine J_if_ne (tgt := 10) 5 dX5_does_5 (by decide) (fun _ => ?_) (fun c_1_ => absurd c_1_ (by decide))
  refine J_iload_n 10 2 dX5_does_10 rfl rfl ?_
  refine J_tableIn (tgt := 83) (off := 72) 11 2 dX5_does_11 rfl (by decide +kernel) (by decide) ?_
  refine J_sipush (v := 1000) 83 dX5_does_83 rfl ?_
  refine J_aload_n 86 0 dX5_does_86 rfl rfl ?_
  refine g_196 (v := .ref (An 0)) 87 0 rfl rfl dX5_does_87 ?_
  refine J_iload_n 90 1 dX5_does_90 rfl rfl ?_
  refine kb_RX5_164 (bs' := [wMe o (An 0) (Ak 0) (At 0) (Ad 0) kk tp rw rc sh sf de, wCt G An la ns sd to he sw nh ki te mi ar z]) (rest := [.int 1000]) (st' := [.int (fWears (ki h) (la 2)), .int 1000]) 91 (c_X0_wears l G h An la ns sd to he sw nh ki te mi ar z (by first | omega | assumption)) [1] 1 rfl rfl rfl [[An 0, An 1, An 2, An 3, An 4, An 5, An 6, An 7, An 8]] rfl rfl rfl rfl rfl rfl (Nat.le_of_ble_eq_true rfl) rfl dX5_does_91 ?_
  refine J_iadd 94 dX5_does_94 ?_
  exact J_iret 95 dX5_does_95 (congrArg (fun x_ => some (Value.int x_)) (by first | rfl | omega | grind)) rfl
set_option maxRecDepth 100000 in
set_option maxHeartbeats 4000000 in
theorem c_X5_does_badw (l : Launch) (G : Gd) (h : Nat) (w : Int32) (o : Nat) (An : Nat → Nat) (Ak : Nat → Nat) (At : Nat → Nat) (Ad : Nat → Nat) (kk : Int32) (tp : Nat) (rw : Nat) (rc : Nat) (sh : Nat) (sf : Nat) (de : Nat) (la : Nat → Int32) (ns : Nat) (sd : Nat) (to : Nat → Int32) (he : Nat → Int32) (sw : Nat → Int32) (nh : Nat) (ki : Nat → Int32) (te : Nat → Int32) (mi : Nat → Int32) (ar : Nat → Int32) (z : Int32) (hh : h < nh) (hnh : nh ≤ 8) (hw : ¬ (0 ≤ w ∧ w ≤ 2)) : Ct l G yX5_does cX5_does 3 (some (FieldType.int)) 2 [.ref o, .int (nI h), .int w] (wF [wMe o (An 0) (Ak 0) (At 0) (Ad 0) kk tp rw rc sh sf de, wCt G An la ns sd to he sw nh ki te mi ar z]) (some (.int (-1))) (wF [wMe o (An 0) (Ak 0) (At 0) (Ad 0) kk tp rw rc sh sf de, wCt G An la ns sd to he sw nh ki te mi ar z]) := by
  refine Ct.of "GooseArms" [some (.ref o), some (.int (nI h)), some (.int w)] (by decide +kernel) rfl (Nat.le_of_ble_eq_true rfl) rfl ?_
  refine J_aload_n 0 0 dX5_does_0 rfl rfl ?_
  refine J_iload_n 1 1 dX5_does_1 rfl rfl ?_
  refine kb_RX5_135 (bs' := [wMe o (An 0) (Ak 0) (At 0) (Ad 0) kk tp rw rc sh sf de, wCt G An la ns sd to he sw nh ki te mi ar z]) (rest := []) (st' := [.int 1]) 2 (c_X5_isHearer_t l G h o An Ak At Ad kk tp rw rc sh sf de la ns sd to he sw nh ki te mi ar z (by assumption) (by omega)) [0, 1] 0 rfl rfl rfl [[o], [An 0, An 1, An 2, An 3, An 4, An 5, An 6, An 7, An 8]] rfl rfl rfl rfl rfl rfl (Nat.le_of_ble_eq_true rfl) rfl dX5_does_2 ?_
  refine J_if_ne (tgt := 10) 5 dX5_does_5 (by decide) (fun _ => ?_) (fun c_1_ => absurd c_1_ (by decide))
  refine J_iload_n 10 2 dX5_does_10 rfl rfl ?_
  by_cases e_2_ : w = 0
  · skip
    exact (hw (by rw [e_2_]; decide)).elim
  by_cases e_3_ : w = 1
  · skip
    exact (hw (by rw [e_3_]; decide)).elim
  by_cases e_4_ : w = 2
  · skip
    exact (hw (by rw [e_4_]; decide)).elim
  refine J_tableOut (tgt := 96) 11 dX5_does_11 (by have q0_ := lv_neT (a := 0) e_2_ (by decide); have q1_ := lv_neT (a := 1) e_3_ (by decide); have q2_ := lv_neT (a := 2) e_4_ (by decide); omega) (by decide) ?_
  refine J_iconst (v := (-1)) 96 dX5_does_96 rfl ?_
  exact J_iret 97 dX5_does_97 rfl rfl
set_option maxRecDepth 100000 in
set_option maxHeartbeats 4000000 in
theorem c_X5_does_bad (l : Launch) (G : Gd) (h : Int32) (w : Int32) (o : Nat) (An : Nat → Nat) (Ak : Nat → Nat) (At : Nat → Nat) (Ad : Nat → Nat) (kk : Int32) (tp : Nat) (rw : Nat) (rc : Nat) (sh : Nat) (sf : Nat) (de : Nat) (la : Nat → Int32) (ns : Nat) (sd : Nat) (to : Nat → Int32) (he : Nat → Int32) (sw : Nat → Int32) (nh : Nat) (ki : Nat → Int32) (te : Nat → Int32) (mi : Nat → Int32) (ar : Nat → Int32) (z : Int32) (hw : ¬ (0 ≤ h ∧ h ≤ nI nh - 1)) : Ct l G yX5_does cX5_does 3 (some (FieldType.int)) 2 [.ref o, .int h, .int w] (wF [wMe o (An 0) (Ak 0) (At 0) (Ad 0) kk tp rw rc sh sf de, wCt G An la ns sd to he sw nh ki te mi ar z]) (some (.int (-1))) (wF [wMe o (An 0) (Ak 0) (At 0) (Ad 0) kk tp rw rc sh sf de, wCt G An la ns sd to he sw nh ki te mi ar z]) := by
  refine Ct.of "GooseArms" [some (.ref o), some (.int h), some (.int w)] (by decide +kernel) rfl (Nat.le_of_ble_eq_true rfl) rfl ?_
  refine J_aload_n 0 0 dX5_does_0 rfl rfl ?_
  refine J_iload_n 1 1 dX5_does_1 rfl rfl ?_
  refine kb_RX5_135 (bs' := [wMe o (An 0) (Ak 0) (At 0) (Ad 0) kk tp rw rc sh sf de, wCt G An la ns sd to he sw nh ki te mi ar z]) (rest := []) (st' := [.int 0]) 2 (c_X5_isHearer_f l G h o An Ak At Ad kk tp rw rc sh sf de la ns sd to he sw nh ki te mi ar z (by first | omega | assumption)) [0, 1] 0 rfl rfl rfl [[o], [An 0, An 1, An 2, An 3, An 4, An 5, An 6, An 7, An 8]] rfl rfl rfl rfl rfl rfl (Nat.le_of_ble_eq_true rfl) rfl dX5_does_2 ?_
  refine J_if_ne (tgt := 10) 5 dX5_does_5 (by decide) (fun c_1_ => absurd c_1_ (by decide)) (fun _ => ?_)
  refine J_iconst (v := (-1)) 8 dX5_does_8 rfl ?_
  exact J_iret 9 dX5_does_9 rfl rfl
set_option maxRecDepth 100000 in
set_option maxHeartbeats 4000000 in
theorem c_X5_mind_ok (l : Launch) (G : Gd) (h : Nat) (x : Int32) (y : Int32) (o : Nat) (An : Nat → Nat) (Ak : Nat → Nat) (At : Nat → Nat) (Ad : Nat → Nat) (kk : Int32) (tp : Nat) (rw : Nat) (rc : Nat) (sh : Nat) (sf : Nat) (de : Nat) (la : Nat → Int32) (ns : Nat) (sd : Nat) (to : Nat → Int32) (he : Nat → Int32) (sw : Nat → Int32) (nh : Nat) (ki : Nat → Int32) (te : Nat → Int32) (mi : Nat → Int32) (ar : Nat → Int32) (z : Int32) (hh : h < nh) (hnh : nh ≤ 8) (hw : (0 ≤ x ∧ x ≤ 5) ∧ (0 ≤ y ∧ y ≤ 255)) : Ct l G yX5_mind cX5_mind 5 (some (FieldType.int)) 2 [.ref o, .int (nI h), .int x, .int y] (wF [wMe o (An 0) (Ak 0) (At 0) (Ad 0) kk tp rw rc sh sf de, wCt G An la ns sd to he sw nh ki te mi ar z]) (some (.int (ki h))) (wF [wMe o (An 0) (Ak 0) (At 0) (Ad 0) kk tp rw rc sh sf de, wCt G An la ns sd to he sw nh (upd ki h x) te (upd mi h y) ar z]) := by
  refine Ct.of "GooseArms" [some (.ref o), some (.int (nI h)), some (.int x), some (.int y), none] (by decide +kernel) rfl (Nat.le_of_ble_eq_true rfl) rfl ?_
  refine J_aload_n 0 0 dX5_mind_0 rfl rfl ?_
  refine J_iload_n 1 1 dX5_mind_1 rfl rfl ?_
  refine kb_RX5_135 (bs' := [wMe o (An 0) (Ak 0) (At 0) (Ad 0) kk tp rw rc sh sf de, wCt G An la ns sd to he sw nh ki te mi ar z]) (rest := []) (st' := [.int 1]) 2 (c_X5_isHearer_t l G h o An Ak At Ad kk tp rw rc sh sf de la ns sd to he sw nh ki te mi ar z (by assumption) (by omega)) [0, 1] 0 rfl rfl rfl [[o], [An 0, An 1, An 2, An 3, An 4, An 5, An 6, An 7, An 8]] rfl rfl rfl rfl rfl rfl (Nat.le_of_ble_eq_true rfl) rfl dX5_mind_2 ?_
  refine J_if_eq (tgt := 26) 5 dX5_mind_5 (by decide) (fun c_1_ => absurd c_1_ (by decide)) (fun _ => ?_)
  refine J_iload_n 8 2 dX5_mind_8 rfl rfl ?_
  refine kb_RX5_129 (bs' := [wMe o (An 0) (Ak 0) (At 0) (Ad 0) kk tp rw rc sh sf de, wCt G An la ns sd to he sw nh ki te mi ar z]) (rest := []) (st' := [.int (bI (0 ≤ x ∧ x ≤ 5))]) 9 (c_X5_isKind l G x ) [] rfl rfl [] rfl rfl rfl rfl rfl rfl (Nat.le_of_ble_eq_true rfl) rfl dX5_mind_9 ?_
  refine J_ifB_eq (tgt := 26) 12 dX5_mind_12 (by decide) (fun c_2_ => ?_) (fun c_2_ => ?_)
  · skip
    exact absurd hw.1 c_2_
  · skip
    refine J_iload_n 15 3 dX5_mind_15 rfl rfl ?_
    refine J_iconst (v := 0) 16 dX5_mind_16 rfl ?_
    refine J_sipush (v := 255) 17 dX5_mind_17 rfl ?_
    refine kb_RX5_65 (bs' := [wMe o (An 0) (Ak 0) (At 0) (Ad 0) kk tp rw rc sh sf de, wCt G An la ns sd to he sw nh ki te mi ar z]) (rest := []) (st' := [.int 1]) 20 (c_X5_within_t l G y 0 255 hw.2) [] rfl rfl [] rfl rfl rfl rfl rfl rfl (Nat.le_of_ble_eq_true rfl) rfl dX5_mind_20 ?_
    refine J_if_ne (tgt := 28) 23 dX5_mind_23 (by decide) (fun _ => ?_) (fun c_3_ => absurd c_3_ (by decide))
    refine J_aload_n 28 0 dX5_mind_28 rfl rfl ?_
    refine g_196 (v := .ref (An 0)) 29 0 rfl rfl dX5_mind_29 ?_
    refine g_56 (v := .ref (An 5)) 32 1 rfl rfl dX5_mind_32 ?_
    refine J_iload_n 35 1 dX5_mind_35 rfl rfl ?_
    refine J_iald 36 6 h rfl rfl (by omega) (by decide) dX5_mind_36 ?_
    refine J_istore (lv' := [some (.ref o), some (.int (nI h)), some (.int x), some (.int y), some (.int (ki h))]) 37 dX5_mind_37 (by decide) rfl ?_
    refine J_aload_n 39 0 dX5_mind_39 rfl rfl ?_
    refine g_196 (v := .ref (An 0)) 40 0 rfl rfl dX5_mind_40 ?_
    refine g_56 (v := .ref (An 5)) 43 1 rfl rfl dX5_mind_43 ?_
    refine J_iload_n 46 1 dX5_mind_46 rfl rfl ?_
    refine J_iload_n 47 2 dX5_mind_47 rfl rfl ?_
    refine J_iast (ws' := (wF [wMe o (An 0) (Ak 0) (At 0) (Ad 0) kk tp rw rc sh sf de, wCt G An la ns sd to he sw nh (upd ki h x) te mi ar z])) 48 6 h rfl rfl (by omega) (by decide) rfl dX5_mind_48 ?_
    refine J_aload_n 49 0 dX5_mind_49 rfl rfl ?_
    refine g_196 (v := .ref (An 0)) 50 0 rfl rfl dX5_mind_50 ?_
    refine g_60 (v := .ref (An 7)) 53 1 rfl rfl dX5_mind_53 ?_
    refine J_iload_n 56 1 dX5_mind_56 rfl rfl ?_
    refine J_iload_n 57 3 dX5_mind_57 rfl rfl ?_
    refine J_iast (ws' := (wF [wMe o (An 0) (Ak 0) (At 0) (Ad 0) kk tp rw rc sh sf de, wCt G An la ns sd to he sw nh (upd ki h x) te (upd mi h y) ar z])) 58 8 h rfl rfl (by omega) (by decide) rfl dX5_mind_58 ?_
    refine J_iload 59 dX5_mind_59 rfl ?_
    exact J_iret 61 dX5_mind_61 rfl rfl
set_option maxRecDepth 100000 in
set_option maxHeartbeats 4000000 in
theorem c_X5_mind_badv (l : Launch) (G : Gd) (h : Nat) (x : Int32) (y : Int32) (o : Nat) (An : Nat → Nat) (Ak : Nat → Nat) (At : Nat → Nat) (Ad : Nat → Nat) (kk : Int32) (tp : Nat) (rw : Nat) (rc : Nat) (sh : Nat) (sf : Nat) (de : Nat) (la : Nat → Int32) (ns : Nat) (sd : Nat) (to : Nat → Int32) (he : Nat → Int32) (sw : Nat → Int32) (nh : Nat) (ki : Nat → Int32) (te : Nat → Int32) (mi : Nat → Int32) (ar : Nat → Int32) (z : Int32) (hh : h < nh) (hnh : nh ≤ 8) (hw : ¬ ((0 ≤ x ∧ x ≤ 5) ∧ (0 ≤ y ∧ y ≤ 255))) : Ct l G yX5_mind cX5_mind 5 (some (FieldType.int)) 2 [.ref o, .int (nI h), .int x, .int y] (wF [wMe o (An 0) (Ak 0) (At 0) (Ad 0) kk tp rw rc sh sf de, wCt G An la ns sd to he sw nh ki te mi ar z]) (some (.int (-1))) (wF [wMe o (An 0) (Ak 0) (At 0) (Ad 0) kk tp rw rc sh sf de, wCt G An la ns sd to he sw nh ki te mi ar z]) := by
  refine Ct.of "GooseArms" [some (.ref o), some (.int (nI h)), some (.int x), some (.int y), none] (by decide +kernel) rfl (Nat.le_of_ble_eq_true rfl) rfl ?_
  refine J_aload_n 0 0 dX5_mind_0 rfl rfl ?_
  refine J_iload_n 1 1 dX5_mind_1 rfl rfl ?_
  refine kb_RX5_135 (bs' := [wMe o (An 0) (Ak 0) (At 0) (Ad 0) kk tp rw rc sh sf de, wCt G An la ns sd to he sw nh ki te mi ar z]) (rest := []) (st' := [.int 1]) 2 (c_X5_isHearer_t l G h o An Ak At Ad kk tp rw rc sh sf de la ns sd to he sw nh ki te mi ar z (by assumption) (by omega)) [0, 1] 0 rfl rfl rfl [[o], [An 0, An 1, An 2, An 3, An 4, An 5, An 6, An 7, An 8]] rfl rfl rfl rfl rfl rfl (Nat.le_of_ble_eq_true rfl) rfl dX5_mind_2 ?_
  refine J_if_eq (tgt := 26) 5 dX5_mind_5 (by decide) (fun c_1_ => absurd c_1_ (by decide)) (fun _ => ?_)
  refine J_iload_n 8 2 dX5_mind_8 rfl rfl ?_
  refine kb_RX5_129 (bs' := [wMe o (An 0) (Ak 0) (At 0) (Ad 0) kk tp rw rc sh sf de, wCt G An la ns sd to he sw nh ki te mi ar z]) (rest := []) (st' := [.int (bI (0 ≤ x ∧ x ≤ 5))]) 9 (c_X5_isKind l G x ) [] rfl rfl [] rfl rfl rfl rfl rfl rfl (Nat.le_of_ble_eq_true rfl) rfl dX5_mind_9 ?_
  refine J_ifB_eq (tgt := 26) 12 dX5_mind_12 (by decide) (fun c_2_ => ?_) (fun c_2_ => ?_)
  · skip
    refine J_iconst (v := (-1)) 26 dX5_mind_26 rfl ?_
    exact J_iret 27 dX5_mind_27 rfl rfl
  · skip
    refine J_iload_n 15 3 dX5_mind_15 rfl rfl ?_
    refine J_iconst (v := 0) 16 dX5_mind_16 rfl ?_
    refine J_sipush (v := 255) 17 dX5_mind_17 rfl ?_
    refine kb_RX5_65 (bs' := [wMe o (An 0) (Ak 0) (At 0) (Ad 0) kk tp rw rc sh sf de, wCt G An la ns sd to he sw nh ki te mi ar z]) (rest := []) (st' := [.int (bI (0 ≤ y ∧ y ≤ 255))]) 20 (c_X5_within l G y 0 255 ) [] rfl rfl [] rfl rfl rfl rfl rfl rfl (Nat.le_of_ble_eq_true rfl) rfl dX5_mind_20 ?_
    refine J_ifB_ne (tgt := 28) 23 dX5_mind_23 (by decide) (fun c_3_ => ?_) (fun c_3_ => ?_)
    · skip
      exact absurd ⟨by assumption, by assumption⟩ hw
    · skip
      refine J_iconst (v := (-1)) 26 dX5_mind_26 rfl ?_
      exact J_iret 27 dX5_mind_27 rfl rfl
set_option maxRecDepth 100000 in
set_option maxHeartbeats 4000000 in
theorem c_X5_mind_bad (l : Launch) (G : Gd) (h : Int32) (x : Int32) (y : Int32) (o : Nat) (An : Nat → Nat) (Ak : Nat → Nat) (At : Nat → Nat) (Ad : Nat → Nat) (kk : Int32) (tp : Nat) (rw : Nat) (rc : Nat) (sh : Nat) (sf : Nat) (de : Nat) (la : Nat → Int32) (ns : Nat) (sd : Nat) (to : Nat → Int32) (he : Nat → Int32) (sw : Nat → Int32) (nh : Nat) (ki : Nat → Int32) (te : Nat → Int32) (mi : Nat → Int32) (ar : Nat → Int32) (z : Int32) (hw : ¬ (0 ≤ h ∧ h ≤ nI nh - 1)) : Ct l G yX5_mind cX5_mind 5 (some (FieldType.int)) 2 [.ref o, .int h, .int x, .int y] (wF [wMe o (An 0) (Ak 0) (At 0) (Ad 0) kk tp rw rc sh sf de, wCt G An la ns sd to he sw nh ki te mi ar z]) (some (.int (-1))) (wF [wMe o (An 0) (Ak 0) (At 0) (Ad 0) kk tp rw rc sh sf de, wCt G An la ns sd to he sw nh ki te mi ar z]) := by
  refine Ct.of "GooseArms" [some (.ref o), some (.int h), some (.int x), some (.int y), none] (by decide +kernel) rfl (Nat.le_of_ble_eq_true rfl) rfl ?_
  refine J_aload_n 0 0 dX5_mind_0 rfl rfl ?_
  refine J_iload_n 1 1 dX5_mind_1 rfl rfl ?_
  refine kb_RX5_135 (bs' := [wMe o (An 0) (Ak 0) (At 0) (Ad 0) kk tp rw rc sh sf de, wCt G An la ns sd to he sw nh ki te mi ar z]) (rest := []) (st' := [.int 0]) 2 (c_X5_isHearer_f l G h o An Ak At Ad kk tp rw rc sh sf de la ns sd to he sw nh ki te mi ar z (by first | omega | assumption)) [0, 1] 0 rfl rfl rfl [[o], [An 0, An 1, An 2, An 3, An 4, An 5, An 6, An 7, An 8]] rfl rfl rfl rfl rfl rfl (Nat.le_of_ble_eq_true rfl) rfl dX5_mind_2 ?_
  refine J_if_eq (tgt := 26) 5 dX5_mind_5 (by decide) (fun _ => ?_) (fun c_1_ => absurd c_1_ (by decide))
  refine J_iconst (v := (-1)) 26 dX5_mind_26 rfl ?_
  exact J_iret 27 dX5_mind_27 rfl rfl
set_option maxRecDepth 100000 in
set_option maxHeartbeats 4000000 in
theorem c_X5_tender_ok (l : Launch) (G : Gd) (h : Nat) (v : Int32) (o : Nat) (An : Nat → Nat) (Ak : Nat → Nat) (At : Nat → Nat) (Ad : Nat → Nat) (kk : Int32) (tp : Nat) (rw : Nat) (rc : Nat) (sh : Nat) (sf : Nat) (de : Nat) (la : Nat → Int32) (ns : Nat) (sd : Nat) (to : Nat → Int32) (he : Nat → Int32) (sw : Nat → Int32) (nh : Nat) (ki : Nat → Int32) (te : Nat → Int32) (mi : Nat → Int32) (ar : Nat → Int32) (z : Int32) (hh : h < nh) (hnh : nh ≤ 8) (hw : 0 ≤ v ∧ v ≤ 99) : Ct l G yX5_tender cX5_tender 3 (some (FieldType.int)) 2 [.ref o, .int (nI h), .int v] (wF [wMe o (An 0) (Ak 0) (At 0) (Ad 0) kk tp rw rc sh sf de, wCt G An la ns sd to he sw nh ki te mi ar z]) (some (.int (te h))) (wF [wMe o (An 0) (Ak 0) (At 0) (Ad 0) kk tp rw rc sh sf de, wCt G An la ns sd to he sw nh ki (upd te h v) mi ar z]) := by
  refine Ct.of "GooseArms" [some (.ref o), some (.int (nI h)), some (.int v)] (by decide +kernel) rfl (Nat.le_of_ble_eq_true rfl) rfl ?_
  refine J_aload_n 0 0 dX5_tender_0 rfl rfl ?_
  refine J_iload_n 1 1 dX5_tender_1 rfl rfl ?_
  refine kb_RX5_135 (bs' := [wMe o (An 0) (Ak 0) (At 0) (Ad 0) kk tp rw rc sh sf de, wCt G An la ns sd to he sw nh ki te mi ar z]) (rest := []) (st' := [.int 1]) 2 (c_X5_isHearer_t l G h o An Ak At Ad kk tp rw rc sh sf de la ns sd to he sw nh ki te mi ar z (by assumption) (by omega)) [0, 1] 0 rfl rfl rfl [[o], [An 0, An 1, An 2, An 3, An 4, An 5, An 6, An 7, An 8]] rfl rfl rfl rfl rfl rfl (Nat.le_of_ble_eq_true rfl) rfl dX5_tender_2 ?_
  refine J_if_eq (tgt := 25) 5 dX5_tender_5 (by decide) (fun c_1_ => absurd c_1_ (by decide)) (fun _ => ?_)
  refine J_aload_n 8 0 dX5_tender_8 rfl rfl ?_
  refine g_196 (v := .ref (An 0)) 9 0 rfl rfl dX5_tender_9 ?_
  refine g_58 (v := .ref (An 6)) 12 1 rfl rfl dX5_tender_12 ?_
  refine J_iload_n 15 1 dX5_tender_15 rfl rfl ?_
  refine J_iload_n 16 2 dX5_tender_16 rfl rfl ?_
  refine J_bipush (v := 99) 17 dX5_tender_17 rfl ?_
  refine k_RX5_125 (ws' := (wF [wMe o (An 0) (Ak 0) (At 0) (Ad 0) kk tp rw rc sh sf de, wCt G An la ns sd to he sw nh ki (upd te h v) mi ar z])) (rest := []) (st' := [.int (te h)]) 19 (c_X5_replaced_t l G h 8 v 99 (An 6) te (by first | omega | assumption) (by decide) (by first | omega | assumption)) [7] rfl rfl [(An 6)] rfl rfl rfl rfl rfl rfl (Nat.le_of_ble_eq_true rfl) rfl dX5_tender_19 ?_
  refine J_goto (tgt := 26) 22 dX5_tender_22 (by decide) ?_
  exact J_iret 26 dX5_tender_26 rfl rfl
set_option maxRecDepth 100000 in
set_option maxHeartbeats 4000000 in
theorem c_X5_tender_badv (l : Launch) (G : Gd) (h : Nat) (v : Int32) (o : Nat) (An : Nat → Nat) (Ak : Nat → Nat) (At : Nat → Nat) (Ad : Nat → Nat) (kk : Int32) (tp : Nat) (rw : Nat) (rc : Nat) (sh : Nat) (sf : Nat) (de : Nat) (la : Nat → Int32) (ns : Nat) (sd : Nat) (to : Nat → Int32) (he : Nat → Int32) (sw : Nat → Int32) (nh : Nat) (ki : Nat → Int32) (te : Nat → Int32) (mi : Nat → Int32) (ar : Nat → Int32) (z : Int32) (hh : h < nh) (hnh : nh ≤ 8) (hw : ¬ (0 ≤ v ∧ v ≤ 99)) : Ct l G yX5_tender cX5_tender 3 (some (FieldType.int)) 2 [.ref o, .int (nI h), .int v] (wF [wMe o (An 0) (Ak 0) (At 0) (Ad 0) kk tp rw rc sh sf de, wCt G An la ns sd to he sw nh ki te mi ar z]) (some (.int (-1))) (wF [wMe o (An 0) (Ak 0) (At 0) (Ad 0) kk tp rw rc sh sf de, wCt G An la ns sd to he sw nh ki te mi ar z]) := by
  refine Ct.of "GooseArms" [some (.ref o), some (.int (nI h)), some (.int v)] (by decide +kernel) rfl (Nat.le_of_ble_eq_true rfl) rfl ?_
  refine J_aload_n 0 0 dX5_tender_0 rfl rfl ?_
  refine J_iload_n 1 1 dX5_tender_1 rfl rfl ?_
  refine kb_RX5_135 (bs' := [wMe o (An 0) (Ak 0) (At 0) (Ad 0) kk tp rw rc sh sf de, wCt G An la ns sd to he sw nh ki te mi ar z]) (rest := []) (st' := [.int 1]) 2 (c_X5_isHearer_t l G h o An Ak At Ad kk tp rw rc sh sf de la ns sd to he sw nh ki te mi ar z (by assumption) (by omega)) [0, 1] 0 rfl rfl rfl [[o], [An 0, An 1, An 2, An 3, An 4, An 5, An 6, An 7, An 8]] rfl rfl rfl rfl rfl rfl (Nat.le_of_ble_eq_true rfl) rfl dX5_tender_2 ?_
  refine J_if_eq (tgt := 25) 5 dX5_tender_5 (by decide) (fun c_1_ => absurd c_1_ (by decide)) (fun _ => ?_)
  refine J_aload_n 8 0 dX5_tender_8 rfl rfl ?_
  refine g_196 (v := .ref (An 0)) 9 0 rfl rfl dX5_tender_9 ?_
  refine g_58 (v := .ref (An 6)) 12 1 rfl rfl dX5_tender_12 ?_
  refine J_iload_n 15 1 dX5_tender_15 rfl rfl ?_
  refine J_iload_n 16 2 dX5_tender_16 rfl rfl ?_
  refine J_bipush (v := 99) 17 dX5_tender_17 rfl ?_
  refine k_RX5_125 (ws' := (wF [wMe o (An 0) (Ak 0) (At 0) (Ad 0) kk tp rw rc sh sf de, wCt G An la ns sd to he sw nh ki te mi ar z])) (rest := []) (st' := [.int (-1)]) 19 (c_X5_replaced_f l G 8 (nI h) v 99 (An 6) te (by first | omega | assumption)) [7] rfl rfl [(An 6)] rfl rfl rfl rfl rfl rfl (Nat.le_of_ble_eq_true rfl) rfl dX5_tender_19 ?_
  refine J_goto (tgt := 26) 22 dX5_tender_22 (by decide) ?_
  exact J_iret 26 dX5_tender_26 rfl rfl
set_option maxRecDepth 100000 in
set_option maxHeartbeats 4000000 in
theorem c_X5_tender_bad (l : Launch) (G : Gd) (h : Int32) (v : Int32) (o : Nat) (An : Nat → Nat) (Ak : Nat → Nat) (At : Nat → Nat) (Ad : Nat → Nat) (kk : Int32) (tp : Nat) (rw : Nat) (rc : Nat) (sh : Nat) (sf : Nat) (de : Nat) (la : Nat → Int32) (ns : Nat) (sd : Nat) (to : Nat → Int32) (he : Nat → Int32) (sw : Nat → Int32) (nh : Nat) (ki : Nat → Int32) (te : Nat → Int32) (mi : Nat → Int32) (ar : Nat → Int32) (z : Int32) (hw : ¬ (0 ≤ h ∧ h ≤ nI nh - 1)) : Ct l G yX5_tender cX5_tender 3 (some (FieldType.int)) 2 [.ref o, .int h, .int v] (wF [wMe o (An 0) (Ak 0) (At 0) (Ad 0) kk tp rw rc sh sf de, wCt G An la ns sd to he sw nh ki te mi ar z]) (some (.int (-1))) (wF [wMe o (An 0) (Ak 0) (At 0) (Ad 0) kk tp rw rc sh sf de, wCt G An la ns sd to he sw nh ki te mi ar z]) := by
  refine Ct.of "GooseArms" [some (.ref o), some (.int h), some (.int v)] (by decide +kernel) rfl (Nat.le_of_ble_eq_true rfl) rfl ?_
  refine J_aload_n 0 0 dX5_tender_0 rfl rfl ?_
  refine J_iload_n 1 1 dX5_tender_1 rfl rfl ?_
  refine kb_RX5_135 (bs' := [wMe o (An 0) (Ak 0) (At 0) (Ad 0) kk tp rw rc sh sf de, wCt G An la ns sd to he sw nh ki te mi ar z]) (rest := []) (st' := [.int 0]) 2 (c_X5_isHearer_f l G h o An Ak At Ad kk tp rw rc sh sf de la ns sd to he sw nh ki te mi ar z (by first | omega | assumption)) [0, 1] 0 rfl rfl rfl [[o], [An 0, An 1, An 2, An 3, An 4, An 5, An 6, An 7, An 8]] rfl rfl rfl rfl rfl rfl (Nat.le_of_ble_eq_true rfl) rfl dX5_tender_2 ?_
  refine J_if_eq (tgt := 25) 5 dX5_tender_5 (by decide) (fun _ => ?_) (fun c_1_ => absurd c_1_ (by decide))
  refine J_iconst (v := (-1)) 25 dX5_tender_25 rfl ?_
  exact J_iret 26 dX5_tender_26 rfl rfl
set_option maxRecDepth 100000 in
set_option maxHeartbeats 4000000 in
theorem c_X5_say_ok (l : Launch) (G : Gd) (n : Nat) (o : Nat) (An : Nat → Nat) (Ak : Nat → Nat) (At : Nat → Nat) (Ad : Nat → Nat) (kk : Int32) (tp : Nat) (rw : Nat) (rc : Nat) (sh : Nat) (sf : Nat) (de : Nat) (la : Nat → Int32) (ns : Nat) (sd : Nat) (to : Nat → Int32) (he : Nat → Int32) (sw : Nat → Int32) (nh : Nat) (ki : Nat → Int32) (te : Nat → Int32) (mi : Nat → Int32) (ar : Nat → Int32) (z : Int32) (hnh : nh ≤ 8) (hns : ns ≤ 12) (hsd : sd ≤ ns) (h1 : 1 ≤ n) (h60 : n ≤ 60) : Ct l G yX5_say cX5_say 2 (some (FieldType.int)) 4 [.ref o, .int (nI n)] (wF [wMe o (An 0) (Ak 0) (At 0) (Ad 0) kk tp rw rc sh sf de, wCt G An la ns sd to he sw nh ki te mi ar z]) (some (.int (nI (min n (ns - sd))))) (wF [wMe o (An 0) (Ak 0) (At 0) (Ad 0) kk tp rw rc sh sf de, wCt G An la ns (sd + min n (ns - sd)) to he sw nh ki (fTe (fun h_ => h_ < nh ∧ hasP 255 (nI h_)) la ki mi te ar to he sw sd (min n (ns - sd))) mi (fAr (fun h_ => h_ < nh ∧ hasP 255 (nI h_)) la ki mi te ar to he sw sd (min n (ns - sd))) z]) := by
  refine Ct.of "GooseArms" [some (.ref o), some (.int (nI n))] (by decide +kernel) rfl (Nat.le_of_ble_eq_true rfl) rfl ?_
  refine J_iload_n 0 1 dX5_say_0 rfl rfl ?_
  refine J_iconst (v := 1) 1 dX5_say_1 rfl ?_
  refine J_bipush (v := 60) 2 dX5_say_2 rfl ?_
  refine kb_RX5_65 (bs' := [wMe o (An 0) (Ak 0) (At 0) (Ad 0) kk tp rw rc sh sf de, wCt G An la ns sd to he sw nh ki te mi ar z]) (rest := []) (st' := [.int 1]) 4 (c_X5_within_t l G (nI n) 1 60 (inM_t (a := 1) (m := 60) h1 h60 (by decide))) [] rfl rfl [] rfl rfl rfl rfl rfl rfl (Nat.le_of_ble_eq_true rfl) rfl dX5_say_4 ?_
  refine J_if_eq (tgt := 24) 7 dX5_say_7 (by decide) (fun c_1_ => absurd c_1_ (by decide)) (fun _ => ?_)
  refine J_aload_n 10 0 dX5_say_10 rfl rfl ?_
  refine g_196 (v := .ref (An 0)) 11 0 rfl rfl dX5_say_11 ?_
  refine J_iload_n 14 1 dX5_say_14 rfl rfl ?_
  refine J_sipush (v := 255) 15 dX5_say_15 rfl ?_
  refine kb_RX5_167 (bs' := [wMe o (An 0) (Ak 0) (At 0) (Ad 0) kk tp rw rc sh sf de, wCt G An la ns (sd + min n (ns - sd)) to he sw nh ki (fTe (fun h_ => h_ < nh ∧ hasP 255 (nI h_)) la ki mi te ar to he sw sd (min n (ns - sd))) mi (fAr (fun h_ => h_ < nh ∧ hasP 255 (nI h_)) la ki mi te ar to he sw sd (min n (ns - sd))) z]) (rest := []) (st' := [.int (nI (min n (ns - sd)))]) 18 (c_X0_sayMore l G n 255 An la ns sd to he sw nh ki te mi ar z (by first | omega | assumption) (by first | omega | assumption) (by first | omega | assumption) (by first | omega | assumption)) [1] 1 rfl rfl rfl [[An 0, An 1, An 2, An 3, An 4, An 5, An 6, An 7, An 8]] rfl rfl rfl rfl rfl rfl (Nat.le_of_ble_eq_true rfl) rfl dX5_say_18 ?_
  refine J_goto (tgt := 25) 21 dX5_say_21 (by decide) ?_
  exact J_iret 25 dX5_say_25 rfl rfl
set_option maxRecDepth 100000 in
set_option maxHeartbeats 4000000 in
theorem c_X5_say_bad (l : Launch) (G : Gd) (n : Int32) (o : Nat) (An : Nat → Nat) (Ak : Nat → Nat) (At : Nat → Nat) (Ad : Nat → Nat) (kk : Int32) (tp : Nat) (rw : Nat) (rc : Nat) (sh : Nat) (sf : Nat) (de : Nat) (la : Nat → Int32) (ns : Nat) (sd : Nat) (to : Nat → Int32) (he : Nat → Int32) (sw : Nat → Int32) (nh : Nat) (ki : Nat → Int32) (te : Nat → Int32) (mi : Nat → Int32) (ar : Nat → Int32) (z : Int32) (hw : ¬ (1 ≤ n ∧ n ≤ 60)) : Ct l G yX5_say cX5_say 2 (some (FieldType.int)) 4 [.ref o, .int n] (wF [wMe o (An 0) (Ak 0) (At 0) (Ad 0) kk tp rw rc sh sf de, wCt G An la ns sd to he sw nh ki te mi ar z]) (some (.int (-1))) (wF [wMe o (An 0) (Ak 0) (At 0) (Ad 0) kk tp rw rc sh sf de, wCt G An la ns sd to he sw nh ki te mi ar z]) := by
  refine Ct.of "GooseArms" [some (.ref o), some (.int n)] (by decide +kernel) rfl (Nat.le_of_ble_eq_true rfl) rfl ?_
  refine J_iload_n 0 1 dX5_say_0 rfl rfl ?_
  refine J_iconst (v := 1) 1 dX5_say_1 rfl ?_
  refine J_bipush (v := 60) 2 dX5_say_2 rfl ?_
  refine kb_RX5_65 (bs' := [wMe o (An 0) (Ak 0) (At 0) (Ad 0) kk tp rw rc sh sf de, wCt G An la ns sd to he sw nh ki te mi ar z]) (rest := []) (st' := [.int 0]) 4 (c_X5_within_f l G n 1 60 (by first | omega | assumption)) [] rfl rfl [] rfl rfl rfl rfl rfl rfl (Nat.le_of_ble_eq_true rfl) rfl dX5_say_4 ?_
  refine J_if_eq (tgt := 24) 7 dX5_say_7 (by decide) (fun _ => ?_) (fun c_1_ => absurd c_1_ (by decide))
  refine J_iconst (v := (-1)) 24 dX5_say_24 rfl ?_
  exact J_iret 25 dX5_say_25 rfl rfl
set_option maxRecDepth 100000 in
set_option maxHeartbeats 4000000 in
theorem c_X5_anew (l : Launch) (G : Gd) (o : Nat) (An : Nat → Nat) (Ak : Nat → Nat) (At : Nat → Nat) (Ad : Nat → Nat) (kk : Int32) (tp : Nat) (rw : Nat) (rc : Nat) (sh : Nat) (sf : Nat) (de : Nat) (la : Nat → Int32) (ns : Nat) (sd : Nat) (to : Nat → Int32) (he : Nat → Int32) (sw : Nat → Int32) (nh : Nat) (ki : Nat → Int32) (te : Nat → Int32) (mi : Nat → Int32) (ar : Nat → Int32) (z : Int32) (hnh : nh ≤ 8) : Ct l G yX5_anew cX5_anew 3 (some (FieldType.int)) 0 [.ref o] (wF [wMe o (An 0) (Ak 0) (At 0) (Ad 0) kk tp rw rc sh sf de, wCt G An la ns sd to he sw nh ki te mi ar z]) (some (.int (nI sd))) (wF [wMe o (An 0) (Ak 0) (At 0) (Ad 0) kk tp rw rc sh sf de, wCt G An la ns 0 to he sw nh ki te mi (fZer nh ar) z]) := by
  refine Ct.of "GooseArms" [some (.ref o), none, none] (by decide +kernel) rfl (Nat.le_of_ble_eq_true rfl) rfl ?_
  have cut_18_ : ∀ (n_18_ : Nat) (k : Nat) (ar1 : Nat → Int32), (nh - k < n_18_) → (hk : k ≤ nh) → (har : ar1 = fZer k ar) → J l G (bd G 0 (some (FieldType.int)) (some (.int (nI sd))) (wF [wMe o (An 0) (Ak 0) (At 0) (Ad 0) kk tp rw rc sh sf de, wCt G An la ns 0 to he sw nh ki te mi (fZer nh ar) z])) cX5_anew 3 "GooseArms" 18 [some (.ref o), some (.int (nI sd)), some (.int (nI k))] [] (wF [wMe o (An 0) (Ak 0) (At 0) (Ad 0) kk tp rw rc sh sf de, wCt G An la ns 0 to he sw nh ki te mi ar1 z]) := by
    intro n_18_
    induction n_18_ with
    | zero => intro k ar1 m_18_; exact absurd m_18_ (Nat.not_lt_zero _)
    | succ n_18_ ih_18_ =>
      intro k ar1 m_18_ hk har
      refine J_iload_n 18 2 dX5_anew_18 rfl rfl ?_
      refine J_aload_n 19 0 dX5_anew_19 rfl rfl ?_
      refine g_196 (v := .ref (An 0)) 20 0 rfl rfl dX5_anew_20 ?_
      refine g_53 (v := .int (nI nh)) 23 1 rfl rfl dX5_anew_23 ?_
      refine J_icmp_ge (tgt := 45) 26 dX5_anew_26 (by decide) (fun c_1_ => ?_) (fun c_1_ => ?_)
      · skip
        have c_1_ : nh ≤ k := (nI_leI (a := nh) (b := k) (by omega) (by omega)).mp c_1_
        refine J_iload_n 45 1 dX5_anew_45 rfl rfl ?_
        exact J_iret 46 dX5_anew_46 rfl (cg1 (fun (x0_ : Nat → Int32) => (wF [wMe o (An 0) (Ak 0) (At 0) (Ad 0) kk tp rw rc sh sf de, wCt G An la ns 0 to he sw nh ki te mi x0_ z])) ar1 (fZer nh ar) (by rw [har, show k = nh by omega]))
      · skip
        have c_1_ : ¬ nh ≤ k := fun z_ => c_1_ ((nI_leI (a := nh) (b := k) (by omega) (by omega)).mpr z_)
        refine J_aload_n 29 0 dX5_anew_29 rfl rfl ?_
        refine g_196 (v := .ref (An 0)) 30 0 rfl rfl dX5_anew_30 ?_
        refine g_62 (v := .ref (An 8)) 33 1 rfl rfl dX5_anew_33 ?_
        refine J_iload_n 36 2 dX5_anew_36 rfl rfl ?_
        refine J_iconst (v := 0) 37 dX5_anew_37 rfl ?_
        refine J_iast (ws' := (wF [wMe o (An 0) (Ak 0) (At 0) (Ad 0) kk tp rw rc sh sf de, wCt G An la ns 0 to he sw nh ki te mi (upd ar1 k 0) z])) 38 9 k rfl rfl (by omega) (by decide) rfl dX5_anew_38 ?_
        refine J_iinc (v := nI (k + 1)) (lv' := [some (.ref o), some (.int (nI sd)), some (.int (nI (k + 1)))]) 39 dX5_anew_39 rfl (nI_add _ 1) (by decide) rfl ?_
        refine J_goto (tgt := 18) 42 dX5_anew_42 (by decide) ?_
        exact ih_18_ (k + 1) (upd ar1 k 0) (by omega) (by first | assumption | omega | rfl) (by first | exact fZer_0 | exact fZer_s har)
  refine J_aload_n 0 0 dX5_anew_0 rfl rfl ?_
  refine g_196 (v := .ref (An 0)) 1 0 rfl rfl dX5_anew_1 ?_
  refine g_45 (v := .int (nI sd)) 4 1 rfl rfl dX5_anew_4 ?_
  refine J_istore_n (lv' := [some (.ref o), some (.int (nI sd)), none]) 7 1 dX5_anew_7 rfl (by decide) rfl ?_
  refine J_aload_n 8 0 dX5_anew_8 rfl rfl ?_
  refine g_196 (v := .ref (An 0)) 9 0 rfl rfl dX5_anew_9 ?_
  refine J_iconst (v := 0) 12 dX5_anew_12 rfl ?_
  refine p_45 (ws' := (wF [wMe o (An 0) (Ak 0) (At 0) (Ad 0) kk tp rw rc sh sf de, wCt G An la ns 0 to he sw nh ki te mi ar z])) 13 1 rfl rfl rfl (Nat.le_of_ble_eq_true rfl) rfl dX5_anew_13 ?_
  refine J_iconst (v := 0) 16 dX5_anew_16 rfl ?_
  refine J_istore_n (lv' := [some (.ref o), some (.int (nI sd)), some (.int 0)]) 17 2 dX5_anew_17 rfl (by decide) rfl ?_
  exact cut_18_ ((nh - 0) + 1) 0 ar (Nat.lt_succ_self _) (by first | assumption | omega | rfl) (by first | exact fZer_0 | exact fZer_s har)
set_option maxRecDepth 100000 in
set_option maxHeartbeats 4000000 in
theorem c_X5_seed (l : Launch) (G : Gd) (v : Int32) (o : Nat) (An : Nat → Nat) (Ak : Nat → Nat) (At : Nat → Nat) (Ad : Nat → Nat) (kk : Int32) (tp : Nat) (rw : Nat) (rc : Nat) (sh : Nat) (sf : Nat) (de : Nat) (la : Nat → Int32) (ns : Nat) (sd : Nat) (to : Nat → Int32) (he : Nat → Int32) (sw : Nat → Int32) (nh : Nat) (ki : Nat → Int32) (te : Nat → Int32) (mi : Nat → Int32) (ar : Nat → Int32) (z : Int32)  : Ct l G yX5_seed cX5_seed 3 (some (FieldType.int)) 0 [.ref o, .int v] (wF [wMe o (An 0) (Ak 0) (At 0) (Ad 0) kk tp rw rc sh sf de, wCt G An la ns sd to he sw nh ki te mi ar z]) (some (.int z)) (wF [wMe o (An 0) (Ak 0) (At 0) (Ad 0) kk tp rw rc sh sf de, wCt G An la ns sd to he sw nh ki te mi ar v]) := by
  refine Ct.of "GooseArms" [some (.ref o), some (.int v), none] (by decide +kernel) rfl (Nat.le_of_ble_eq_true rfl) rfl ?_
  refine J_aload_n 0 0 dX5_seed_0 rfl rfl ?_
  refine g_196 (v := .ref (An 0)) 1 0 rfl rfl dX5_seed_1 ?_
  refine g_64 (v := .int z) 4 1 rfl rfl dX5_seed_4 ?_
  refine J_istore_n (lv' := [some (.ref o), some (.int v), some (.int z)]) 7 2 dX5_seed_7 rfl (by decide) rfl ?_
  refine J_aload_n 8 0 dX5_seed_8 rfl rfl ?_
  refine g_196 (v := .ref (An 0)) 9 0 rfl rfl dX5_seed_9 ?_
  refine J_iload_n 12 1 dX5_seed_12 rfl rfl ?_
  refine p_64 (ws' := (wF [wMe o (An 0) (Ak 0) (At 0) (Ad 0) kk tp rw rc sh sf de, wCt G An la ns sd to he sw nh ki te mi ar v])) 13 1 rfl rfl rfl (Nat.le_of_ble_eq_true rfl) rfl dX5_seed_13 ?_
  refine J_iload_n 16 2 dX5_seed_16 rfl rfl ?_
  exact J_iret 17 dX5_seed_17 rfl rfl
set_option maxRecDepth 100000 in
set_option maxHeartbeats 4000000 in
theorem c_X5_draught_none (l : Launch) (G : Gd) (o : Nat) (An : Nat → Nat) (Ak : Nat → Nat) (At : Nat → Nat) (Ad : Nat → Nat) (kk : Int32) (tp : Nat) (rw : Nat) (rc : Nat) (sh : Nat) (sf : Nat) (de : Nat) (la : Nat → Int32) (ns : Nat) (sd : Nat) (to : Nat → Int32) (he : Nat → Int32) (sw : Nat → Int32) (nh : Nat) (ki : Nat → Int32) (te : Nat → Int32) (mi : Nat → Int32) (ar : Nat → Int32) (z : Int32) (hnh : nh ≤ 8) (hns : ns ≤ 12) (hsd : sd ≤ ns) (hz : sd = ns) : Ct l G yX5_draught cX5_draught 2 (some (FieldType.int)) 3 [.ref o] (wF [wMe o (An 0) (Ak 0) (At 0) (Ad 0) kk tp rw rc sh sf de, wCt G An la ns sd to he sw nh ki te mi ar z]) (some (.int (-3))) (wF [wMe o (An 0) (Ak 0) (At 0) (Ad 0) kk tp rw rc sh sf de, wCt G An la ns sd to he sw nh ki te mi ar z]) := by
  refine Ct.of "GooseArms" [some (.ref o), none] (by decide +kernel) rfl (Nat.le_of_ble_eq_true rfl) rfl ?_
  refine J_aload_n 0 0 dX5_draught_0 rfl rfl ?_
  refine g_196 (v := .ref (An 0)) 1 0 rfl rfl dX5_draught_1 ?_
  refine kb_RX5_150 (bs' := [wMe o (An 0) (Ak 0) (At 0) (Ad 0) kk tp rw rc sh sf de, wCt G An la ns sd to he sw nh ki te mi ar z]) (rest := []) (st' := [.int (nI (ns - sd))]) 4 (c_X0_left l G An la ns sd to he sw nh ki te mi ar z (by first | omega | assumption)) [1] 1 rfl rfl rfl [[An 0, An 1, An 2, An 3, An 4, An 5, An 6, An 7, An 8]] rfl rfl rfl rfl rfl rfl (Nat.le_of_ble_eq_true rfl) rfl dX5_draught_4 ?_
  refine J_if_ne (tgt := 13) 7 dX5_draught_7 (by decide) (fun c_1_ => ?_) (fun c_1_ => ?_)
  · skip
    have c_1_ : ¬ (ns - sd) = 0 := fun z_ => c_1_ ((nI_eq (a := (ns - sd)) (b := 0) (by omega) (by omega)).mpr z_)
    omega
  · skip
    have c_1_ : (ns - sd) = 0 := (nI_eq (a := (ns - sd)) (b := 0) (by omega) (by omega)).mp c_1_
    refine J_bipush (v := (-3)) 10 dX5_draught_10 rfl ?_
    exact J_iret 12 dX5_draught_12 rfl rfl
set_option maxRecDepth 100000 in
set_option maxHeartbeats 4000000 in
theorem c_X5_draught_ok (l : Launch) (G : Gd) (o : Nat) (An : Nat → Nat) (Ak : Nat → Nat) (At : Nat → Nat) (Ad : Nat → Nat) (kk : Int32) (tp : Nat) (rw : Nat) (rc : Nat) (sh : Nat) (sf : Nat) (de : Nat) (la : Nat → Int32) (ns : Nat) (sd : Nat) (to : Nat → Int32) (he : Nat → Int32) (sw : Nat → Int32) (nh : Nat) (ki : Nat → Int32) (te : Nat → Int32) (mi : Nat → Int32) (ar : Nat → Int32) (z : Int32) (hnh : nh ≤ 8) (hns : ns ≤ 12) (hz : sd < ns) (h0 : 0 < nh) : Ct l G yX5_draught cX5_draught 2 (some (FieldType.int)) 3 [.ref o] (wF [wMe o (An 0) (Ak 0) (At 0) (Ad 0) kk tp rw rc sh sf de, wCt G An la ns sd to he sw nh ki te mi ar z]) (some (.int ((fMask (fun h_ => hasP 255 (nI h_) ∧ fUp la ki mi te to he sw sd h_) nh) ||| fDrawn z (la 3) nh))) (wF [wMe o (An 0) (Ak 0) (At 0) (Ad 0) kk tp rw rc sh sf de, wCt G An la ns (sd + 1) to he sw nh ki (fSel (fun h_ => h_ < nh ∧ hasP ((fMask (fun h_ => hasP 255 (nI h_) ∧ fUp la ki mi te to he sw sd h_) nh) ||| fDrawn z (la 3) nh) (nI h_)) (fun h_ => heldI (te h_ - fWears (ki h_) (la 2))) te) mi (fSel (fun h_ => h_ < nh ∧ hasP ((fMask (fun h_ => hasP 255 (nI h_) ∧ fUp la ki mi te to he sw sd h_) nh) ||| fDrawn z (la 3) nh) (nI h_)) (fun h_ => ar h_ ||| onlyI (nI sd)) ar) (fZ (fZ z))]) := by
  refine Ct.of "GooseArms" [some (.ref o), none] (by decide +kernel) rfl (Nat.le_of_ble_eq_true rfl) rfl ?_
  refine J_aload_n 0 0 dX5_draught_0 rfl rfl ?_
  refine g_196 (v := .ref (An 0)) 1 0 rfl rfl dX5_draught_1 ?_
  refine kb_RX5_150 (bs' := [wMe o (An 0) (Ak 0) (At 0) (Ad 0) kk tp rw rc sh sf de, wCt G An la ns sd to he sw nh ki te mi ar z]) (rest := []) (st' := [.int (nI (ns - sd))]) 4 (c_X0_left l G An la ns sd to he sw nh ki te mi ar z (by first | omega | assumption)) [1] 1 rfl rfl rfl [[An 0, An 1, An 2, An 3, An 4, An 5, An 6, An 7, An 8]] rfl rfl rfl rfl rfl rfl (Nat.le_of_ble_eq_true rfl) rfl dX5_draught_4 ?_
  refine J_if_ne (tgt := 13) 7 dX5_draught_7 (by decide) (fun c_1_ => ?_) (fun c_1_ => ?_)
  · skip
    have c_1_ : ¬ (ns - sd) = 0 := fun z_ => c_1_ ((nI_eq (a := (ns - sd)) (b := 0) (by omega) (by omega)).mpr z_)
    refine J_aload_n 13 0 dX5_draught_13 rfl rfl ?_
    refine g_196 (v := .ref (An 0)) 14 0 rfl rfl dX5_draught_14 ?_
    refine J_sipush (v := 255) 17 dX5_draught_17 rfl ?_
    refine kb_RX5_170 (bs' := [wMe o (An 0) (Ak 0) (At 0) (Ad 0) kk tp rw rc sh sf de, wCt G An la ns sd to he sw nh ki te mi ar z]) (rest := []) (st' := [.int (fMask (fun h_ => hasP 255 (nI h_) ∧ fUp la ki mi te to he sw sd h_) nh)]) 20 (c_X0_raisedNext l G 255 An la ns sd to he sw nh ki te mi ar z (by first | omega | assumption) (by first | omega | assumption) (by first | omega | assumption)) [1] 1 rfl rfl rfl [[An 0, An 1, An 2, An 3, An 4, An 5, An 6, An 7, An 8]] rfl rfl rfl rfl rfl rfl (Nat.le_of_ble_eq_true rfl) rfl dX5_draught_20 ?_
    refine J_aload_n 23 0 dX5_draught_23 rfl rfl ?_
    refine g_196 (v := .ref (An 0)) 24 0 rfl rfl dX5_draught_24 ?_
    refine kb_RX5_173 (bs' := [wMe o (An 0) (Ak 0) (At 0) (Ad 0) kk tp rw rc sh sf de, wCt G An la ns sd to he sw nh ki te mi ar (fZ (fZ z))]) (rest := [.int (fMask (fun h_ => hasP 255 (nI h_) ∧ fUp la ki mi te to he sw sd h_) nh)]) (st' := [.int (fDrawn z (la 3) nh), .int (fMask (fun h_ => hasP 255 (nI h_) ∧ fUp la ki mi te to he sw sd h_) nh)]) 27 (c_X0_drawnSet l G An la ns sd to he sw nh ki te mi ar z (by first | omega | assumption) (by first | omega | assumption)) [1] 1 rfl rfl rfl [[An 0, An 1, An 2, An 3, An 4, An 5, An 6, An 7, An 8]] rfl rfl rfl rfl rfl rfl (Nat.le_of_ble_eq_true rfl) rfl dX5_draught_27 ?_
    refine J_ior 30 dX5_draught_30 ?_
    refine J_istore_n (lv' := [some (.ref o), some (.int ((fMask (fun h_ => hasP 255 (nI h_) ∧ fUp la ki mi te to he sw sd h_) nh) ||| (fDrawn z (la 3) nh)))]) 31 1 dX5_draught_31 rfl (by decide) rfl ?_
    refine J_aload_n 32 0 dX5_draught_32 rfl rfl ?_
    refine g_196 (v := .ref (An 0)) 33 0 rfl rfl dX5_draught_33 ?_
    refine J_iload_n 36 1 dX5_draught_36 rfl rfl ?_
    refine kb_RX5_176 (bs' := [wMe o (An 0) (Ak 0) (At 0) (Ad 0) kk tp rw rc sh sf de, wCt G An la ns (sd + 1) to he sw nh ki (fSel (fun h_ => h_ < nh ∧ hasP ((fMask (fun h_ => hasP 255 (nI h_) ∧ fUp la ki mi te to he sw sd h_) nh) ||| (fDrawn z (la 3) nh)) (nI h_)) (fun h_ => heldI (te h_ - fWears (ki h_) (la 2))) te) mi (fSel (fun h_ => h_ < nh ∧ hasP ((fMask (fun h_ => hasP 255 (nI h_) ∧ fUp la ki mi te to he sw sd h_) nh) ||| (fDrawn z (la 3) nh)) (nI h_)) (fun h_ => ar h_ ||| onlyI (nI sd)) ar) (fZ (fZ z))]) (rest := []) (st' := []) 37 (c_X0_sayNext l G ((fMask (fun h_ => hasP 255 (nI h_) ∧ fUp la ki mi te to he sw sd h_) nh) ||| (fDrawn z (la 3) nh)) An la ns sd to he sw nh ki te mi ar (fZ (fZ z)) (by first | omega | assumption)) [1] 1 rfl rfl rfl [[An 0, An 1, An 2, An 3, An 4, An 5, An 6, An 7, An 8]] rfl rfl rfl rfl rfl rfl (Nat.le_of_ble_eq_true rfl) rfl dX5_draught_37 ?_
    refine J_iload_n 40 1 dX5_draught_40 rfl rfl ?_
    exact J_iret 41 dX5_draught_41 (congrArg (fun x_ => some (Value.int x_)) (by first | rfl | omega | grind)) (cg2 (fun (x0_ : Nat → Int32) (x1_ : Nat → Int32) => (wF [wMe o (An 0) (Ak 0) (At 0) (Ad 0) kk tp rw rc sh sf de, wCt G An la ns (sd + 1) to he sw nh ki x0_ mi x1_ (fZ (fZ z))])) (fSel (fun h_ => h_ < nh ∧ hasP ((fMask (fun h_ => hasP 255 (nI h_) ∧ fUp la ki mi te to he sw sd h_) nh) ||| (fDrawn z (la 3) nh)) (nI h_)) (fun h_ => heldI (te h_ - fWears (ki h_) (la 2))) te) (fSel (fun h_ => h_ < nh ∧ hasP ((fMask (fun h_ => hasP 255 (nI h_) ∧ fUp la ki mi te to he sw sd h_) nh) ||| fDrawn z (la 3) nh) (nI h_)) (fun h_ => heldI (te h_ - fWears (ki h_) (la 2))) te) (fSel (fun h_ => h_ < nh ∧ hasP ((fMask (fun h_ => hasP 255 (nI h_) ∧ fUp la ki mi te to he sw sd h_) nh) ||| (fDrawn z (la 3) nh)) (nI h_)) (fun h_ => ar h_ ||| onlyI (nI sd)) ar) (fSel (fun h_ => h_ < nh ∧ hasP ((fMask (fun h_ => hasP 255 (nI h_) ∧ fUp la ki mi te to he sw sd h_) nh) ||| fDrawn z (la 3) nh) (nI h_)) (fun h_ => ar h_ ||| onlyI (nI sd)) ar) (by first | rfl | omega | grind) (by first | rfl | omega | grind))
  · skip
    have c_1_ : (ns - sd) = 0 := (nI_eq (a := (ns - sd)) (b := 0) (by omega) (by omega)).mp c_1_
    omega
set_option maxRecDepth 100000 in
set_option maxHeartbeats 4000000 in
theorem c_X5_draught_0 (l : Launch) (G : Gd) (o : Nat) (An : Nat → Nat) (Ak : Nat → Nat) (At : Nat → Nat) (Ad : Nat → Nat) (kk : Int32) (tp : Nat) (rw : Nat) (rc : Nat) (sh : Nat) (sf : Nat) (de : Nat) (la : Nat → Int32) (ns : Nat) (sd : Nat) (to : Nat → Int32) (he : Nat → Int32) (sw : Nat → Int32) (nh : Nat) (ki : Nat → Int32) (te : Nat → Int32) (mi : Nat → Int32) (ar : Nat → Int32) (z : Int32) (hnh : nh ≤ 8) (hns : ns ≤ 12) (hz : sd < ns) (h0 : nh = 0) : Ct l G yX5_draught cX5_draught 2 (some (FieldType.int)) 3 [.ref o] (wF [wMe o (An 0) (Ak 0) (At 0) (Ad 0) kk tp rw rc sh sf de, wCt G An la ns sd to he sw nh ki te mi ar z]) (some (.int ((fMask (fun h_ => hasP 255 (nI h_) ∧ fUp la ki mi te to he sw sd h_) nh) ||| 0))) (wF [wMe o (An 0) (Ak 0) (At 0) (Ad 0) kk tp rw rc sh sf de, wCt G An la ns (sd + 1) to he sw nh ki (fSel (fun h_ => h_ < nh ∧ hasP ((fMask (fun h_ => hasP 255 (nI h_) ∧ fUp la ki mi te to he sw sd h_) nh) ||| 0) (nI h_)) (fun h_ => heldI (te h_ - fWears (ki h_) (la 2))) te) mi (fSel (fun h_ => h_ < nh ∧ hasP ((fMask (fun h_ => hasP 255 (nI h_) ∧ fUp la ki mi te to he sw sd h_) nh) ||| 0) (nI h_)) (fun h_ => ar h_ ||| onlyI (nI sd)) ar) z]) := by
  refine Ct.of "GooseArms" [some (.ref o), none] (by decide +kernel) rfl (Nat.le_of_ble_eq_true rfl) rfl ?_
  refine J_aload_n 0 0 dX5_draught_0 rfl rfl ?_
  refine g_196 (v := .ref (An 0)) 1 0 rfl rfl dX5_draught_1 ?_
  refine kb_RX5_150 (bs' := [wMe o (An 0) (Ak 0) (At 0) (Ad 0) kk tp rw rc sh sf de, wCt G An la ns sd to he sw nh ki te mi ar z]) (rest := []) (st' := [.int (nI (ns - sd))]) 4 (c_X0_left l G An la ns sd to he sw nh ki te mi ar z (by first | omega | assumption)) [1] 1 rfl rfl rfl [[An 0, An 1, An 2, An 3, An 4, An 5, An 6, An 7, An 8]] rfl rfl rfl rfl rfl rfl (Nat.le_of_ble_eq_true rfl) rfl dX5_draught_4 ?_
  refine J_if_ne (tgt := 13) 7 dX5_draught_7 (by decide) (fun c_1_ => ?_) (fun c_1_ => ?_)
  · skip
    have c_1_ : ¬ (ns - sd) = 0 := fun z_ => c_1_ ((nI_eq (a := (ns - sd)) (b := 0) (by omega) (by omega)).mpr z_)
    refine J_aload_n 13 0 dX5_draught_13 rfl rfl ?_
    refine g_196 (v := .ref (An 0)) 14 0 rfl rfl dX5_draught_14 ?_
    refine J_sipush (v := 255) 17 dX5_draught_17 rfl ?_
    refine kb_RX5_170 (bs' := [wMe o (An 0) (Ak 0) (At 0) (Ad 0) kk tp rw rc sh sf de, wCt G An la ns sd to he sw nh ki te mi ar z]) (rest := []) (st' := [.int (fMask (fun h_ => hasP 255 (nI h_) ∧ fUp la ki mi te to he sw sd h_) nh)]) 20 (c_X0_raisedNext l G 255 An la ns sd to he sw nh ki te mi ar z (by first | omega | assumption) (by first | omega | assumption) (by first | omega | assumption)) [1] 1 rfl rfl rfl [[An 0, An 1, An 2, An 3, An 4, An 5, An 6, An 7, An 8]] rfl rfl rfl rfl rfl rfl (Nat.le_of_ble_eq_true rfl) rfl dX5_draught_20 ?_
    refine J_aload_n 23 0 dX5_draught_23 rfl rfl ?_
    refine g_196 (v := .ref (An 0)) 24 0 rfl rfl dX5_draught_24 ?_
    refine kb_RX5_173 (bs' := [wMe o (An 0) (Ak 0) (At 0) (Ad 0) kk tp rw rc sh sf de, wCt G An la ns sd to he sw nh ki te mi ar z]) (rest := [.int (fMask (fun h_ => hasP 255 (nI h_) ∧ fUp la ki mi te to he sw sd h_) nh)]) (st' := [.int 0, .int (fMask (fun h_ => hasP 255 (nI h_) ∧ fUp la ki mi te to he sw sd h_) nh)]) 27 (c_X0_drawnSet_0 l G An la ns sd to he sw nh ki te mi ar z (by first | omega | assumption)) [1] 1 rfl rfl rfl [[An 0, An 1, An 2, An 3, An 4, An 5, An 6, An 7, An 8]] rfl rfl rfl rfl rfl rfl (Nat.le_of_ble_eq_true rfl) rfl dX5_draught_27 ?_
    refine J_ior 30 dX5_draught_30 ?_
    refine J_istore_n (lv' := [some (.ref o), some (.int ((fMask (fun h_ => hasP 255 (nI h_) ∧ fUp la ki mi te to he sw sd h_) nh) ||| 0))]) 31 1 dX5_draught_31 rfl (by decide) rfl ?_
    refine J_aload_n 32 0 dX5_draught_32 rfl rfl ?_
    refine g_196 (v := .ref (An 0)) 33 0 rfl rfl dX5_draught_33 ?_
    refine J_iload_n 36 1 dX5_draught_36 rfl rfl ?_
    refine kb_RX5_176 (bs' := [wMe o (An 0) (Ak 0) (At 0) (Ad 0) kk tp rw rc sh sf de, wCt G An la ns (sd + 1) to he sw nh ki (fSel (fun h_ => h_ < nh ∧ hasP ((fMask (fun h_ => hasP 255 (nI h_) ∧ fUp la ki mi te to he sw sd h_) nh) ||| 0) (nI h_)) (fun h_ => heldI (te h_ - fWears (ki h_) (la 2))) te) mi (fSel (fun h_ => h_ < nh ∧ hasP ((fMask (fun h_ => hasP 255 (nI h_) ∧ fUp la ki mi te to he sw sd h_) nh) ||| 0) (nI h_)) (fun h_ => ar h_ ||| onlyI (nI sd)) ar) z]) (rest := []) (st' := []) 37 (c_X0_sayNext l G ((fMask (fun h_ => hasP 255 (nI h_) ∧ fUp la ki mi te to he sw sd h_) nh) ||| 0) An la ns sd to he sw nh ki te mi ar z (by first | omega | assumption)) [1] 1 rfl rfl rfl [[An 0, An 1, An 2, An 3, An 4, An 5, An 6, An 7, An 8]] rfl rfl rfl rfl rfl rfl (Nat.le_of_ble_eq_true rfl) rfl dX5_draught_37 ?_
    refine J_iload_n 40 1 dX5_draught_40 rfl rfl ?_
    exact J_iret 41 dX5_draught_41 rfl rfl
  · skip
    have c_1_ : (ns - sd) = 0 := (nI_eq (a := (ns - sd)) (b := 0) (by omega) (by omega)).mp c_1_
    omega
