set_option maxRecDepth 100000 in
set_option maxHeartbeats 4000000 in
theorem c_X2_isMissing (l : Launch) (G : Gd) (a : Nat) (so : Int32) (sz : Int32) (im : Nat)  : Ct l G yX2_isMissing cX2_isMissing 1 (some (FieldType.boolean)) 0 [.ref a] (wF [wSh a so sz im]) (some (.int (bI (so = -1)))) (wF [wSh a so sz im]) := by
  refine Ct.of "GooseArms$Sheet" [some (.ref a)] (by decide +kernel) rfl (Nat.le_of_ble_eq_true rfl) rfl ?_
  refine J_aload_n 0 0 dX2_isMissing_0 rfl rfl ?_
  refine g_128 (v := .int so) 1 0 rfl rfl dX2_isMissing_1 ?_
  refine J_iconst (v := (-1)) 4 dX2_isMissing_4 rfl ?_
  refine J_icmp_ne (tgt := 12) 5 dX2_isMissing_5 (by decide) (fun c_1_ => ?_) (fun c_1_ => ?_)
  · skip
    refine J_iconst (v := 0) 12 dX2_isMissing_12 rfl ?_
    exact J_zret 13 rfl dX2_isMissing_13 (congrArg (fun x_ => some (Value.int x_)) (bI_f (by first | omega | grind)).symm) rfl
  · skip
    refine J_iconst (v := 1) 8 dX2_isMissing_8 rfl ?_
    refine J_goto (tgt := 13) 9 dX2_isMissing_9 (by decide) ?_
    exact J_zret 13 rfl dX2_isMissing_13 (congrArg (fun x_ => some (Value.int x_)) (bI_t (by first | omega | grind)).symm) rfl
set_option maxRecDepth 100000 in
set_option maxHeartbeats 4000000 in
theorem c_X2_becomes (l : Launch) (G : Gd) (v : Int32) (w : Int32) (a : Nat) (so : Int32) (sz : Int32) (im : Nat) (f : Nat → Int64)  : Ct l G yX2_becomes cX2_becomes 4 none 1 [.ref a, .int v, .int w] (wF [wSh a so sz im, wJ G im 40 f]) none (wF [wSh a v w im, wJ G im 40 (fun _ => 0)]) := by
  refine Ct.of "GooseArms$Sheet" [some (.ref a), some (.int v), some (.int w), none] (by decide +kernel) rfl (Nat.le_of_ble_eq_true rfl) rfl ?_
  have cut_12_ : ∀ (n_12_ : Nat) (k : Nat) (f1 : Nat → Int64), (40 - k < n_12_) → (hk : k ≤ 40) → (hf : f1 = fun j_ => if j_ < k then 0 else f j_) → J l G (bd G 1 none none (wF [wSh a v w im, wJ G im 40 (fun _ => 0)])) cX2_becomes 4 "GooseArms$Sheet" 12 [some (.ref a), none, none, some (.int (nI k))] [] (wF [wSh a v w im, wJ G im 40 f1]) := by
    intro n_12_
    induction n_12_ with
    | zero => intro k f1 m_12_; exact absurd m_12_ (Nat.not_lt_zero _)
    | succ n_12_ ih_12_ =>
      intro k f1 m_12_ hk hf
      refine J_iload_n 12 3 dX2_becomes_12 rfl rfl ?_
      refine J_bipush (v := 40) 13 dX2_becomes_13 rfl ?_
      refine J_icmp_ge (tgt := 31) 15 dX2_becomes_15 (by decide) (fun c_1_ => ?_) (fun c_1_ => ?_)
      · skip
        have c_1_ : 40 ≤ k := (nI_leI (a := 40) (b := k) (by omega) (by omega)).mp c_1_
        have hk40_ : k = 40 := by omega
        refine J_arrJ (ws' := (wF [wSh a v w im, wJ G im 40 (fun _ => 0)])) 31 1 rfl (fun j_ hj_ => by rw [hf]; exact if_pos (by omega)) rfl ?_
        exact J_vret 31 dX2_becomes_31 rfl rfl
      · skip
        have c_1_ : ¬ 40 ≤ k := fun z_ => c_1_ ((nI_leI (a := 40) (b := k) (by omega) (by omega)).mpr z_)
        refine J_aload_n 18 0 dX2_becomes_18 rfl rfl ?_
        refine g_134 (v := .ref im) 19 0 rfl rfl dX2_becomes_19 ?_
        refine J_iload_n 22 3 dX2_becomes_22 rfl rfl ?_
        refine J_lconst (v := 0) 23 dX2_becomes_23 rfl ?_
        refine J_last (ws' := (wF [wSh a v w im, wJ G im 40 (vp_updL f1 k 0)])) 24 1 k rfl rfl (by omega) (by decide) rfl dX2_becomes_24 ?_
        refine J_iinc (v := nI (k + 1)) (lv' := [some (.ref a), none, none, some (.int (nI (k + 1)))]) 25 dX2_becomes_25 rfl (nI_add _ 1) (by decide) rfl ?_
        refine J_goto (tgt := 12) 28 dX2_becomes_28 (by decide) ?_
        exact ih_12_ (k + 1) (vp_updL f1 k 0) (by omega) (by first | assumption | omega | rfl) (by first | exact (funext fun j_ => (if_neg (Nat.not_lt_zero _)).symm) | exact zer_st hf)
  refine J_aload_n 0 0 dX2_becomes_0 rfl rfl ?_
  refine J_iload_n 1 1 dX2_becomes_1 rfl rfl ?_
  refine p_128 (ws' := (wF [wSh a v sz im, wJ G im 40 f])) 2 0 rfl rfl rfl (Nat.le_of_ble_eq_true rfl) rfl dX2_becomes_2 ?_
  refine J_aload_n 5 0 dX2_becomes_5 rfl rfl ?_
  refine J_iload_n 6 2 dX2_becomes_6 rfl rfl ?_
  refine p_131 (ws' := (wF [wSh a v w im, wJ G im 40 f])) 7 0 rfl rfl rfl (Nat.le_of_ble_eq_true rfl) rfl dX2_becomes_7 ?_
  refine J_iconst (v := 0) 10 dX2_becomes_10 rfl ?_
  refine J_istore_n (lv' := [some (.ref a), some (.int v), some (.int w), some (.int 0)]) 11 3 dX2_becomes_11 rfl (by decide) rfl ?_
  refine J_mask (lv' := [some (.ref a), none, none, some (.int 0)]) 12 [true, false, false, true] rfl ?_
  exact cut_12_ ((40 - 0) + 1) 0 f (Nat.lt_succ_self _) (by first | assumption | omega | rfl) (by first | exact (funext fun j_ => (if_neg (Nat.not_lt_zero _)).symm) | exact zer_st hf)
set_option maxRecDepth 100000 in
set_option maxHeartbeats 4000000 in
theorem c_X2_narrowed (l : Launch) (G : Gd) (v : Int32) (a : Nat) (so : Int32) (sz : Int32) (im : Nat)  : Ct l G yX2_narrowed cX2_narrowed 2 (some (FieldType.long)) 0 [.ref a, .int v] (wF [wSh a so sz im]) (some (.long (fNar so v))) (wF [wSh a so sz im]) := by
  refine Ct.of "GooseArms$Sheet" [some (.ref a), some (.int v)] (by decide +kernel) rfl (Nat.le_of_ble_eq_true rfl) rfl ?_
  refine J_aload_n 0 0 dX2_narrowed_0 rfl rfl ?_
  refine g_128 (v := .int so) 1 0 rfl rfl dX2_narrowed_1 ?_
  by_cases e_1_ : so = 0
  · skip
    refine J_lookup (tgt := 32) (off := 28) 4 dX2_narrowed_4 (by decide +kernel) (by rw [e_1_]; decide +kernel) (by decide) ?_
    refine J_iload_n 32 1 dX2_narrowed_32 rfl rfl ?_
    refine J_i2b 33 dX2_narrowed_33 ?_
    refine J_i2l 34 dX2_narrowed_34 ?_
    exact J_lret 35 dX2_narrowed_35 (congrArg (fun x_ => some (Value.long x_)) (by simp [fNar, *])) rfl
  by_cases e_2_ : so = 1
  · skip
    refine J_lookup (tgt := 36) (off := 32) 4 dX2_narrowed_4 (by decide +kernel) (by rw [e_2_]; decide +kernel) (by decide) ?_
    refine J_iload_n 36 1 dX2_narrowed_36 rfl rfl ?_
    refine J_i2s 37 dX2_narrowed_37 ?_
    refine J_i2l 38 dX2_narrowed_38 ?_
    exact J_lret 39 dX2_narrowed_39 (congrArg (fun x_ => some (Value.long x_)) (by simp [fNar, *])) rfl
  refine J_lookup (tgt := 40) (off := 36) 4 dX2_narrowed_4 (by decide +kernel) (by show Op.lookupswitch.offset [(0, 28), (1, 32)] 36 _ = 36; rw [lv_osw e_1_ (by decide)]; rw [lv_osw e_2_ (by decide)]; rfl) (by decide) ?_
  refine J_iload_n 40 1 dX2_narrowed_40 rfl rfl ?_
  refine J_i2l 41 dX2_narrowed_41 ?_
  exact J_lret 42 dX2_narrowed_42 (congrArg (fun x_ => some (Value.long x_)) (by simp [fNar, *])) rfl
set_option maxRecDepth 100000 in
set_option maxHeartbeats 4000000 in
theorem c_X3_empties (l : Launch) (G : Gd) (a : Nat) (ho : Int32) (hr : Int32) (so : Int32) (sz : Int32)  : Ct l G yX3_empties cX3_empties 1 none 0 [.ref a] (wF [wSf a ho hr so sz]) none (wF [wSf a 0 hr so sz]) := by
  refine Ct.of "GooseArms$Shelf" [some (.ref a)] (by decide +kernel) rfl (Nat.le_of_ble_eq_true rfl) rfl ?_
  refine J_aload_n 0 0 dX3_empties_0 rfl rfl ?_
  refine J_iconst (v := 0) 1 dX3_empties_1 rfl ?_
  refine p_151 (ws' := (wF [wSf a 0 hr so sz])) 2 0 rfl rfl rfl (Nat.le_of_ble_eq_true rfl) rfl dX3_empties_2 ?_
  exact J_vret 5 dX3_empties_5 rfl rfl
set_option maxRecDepth 100000 in
set_option maxHeartbeats 4000000 in
theorem c_X3_takesHearer (l : Launch) (G : Gd) (v : Int32) (a : Nat) (ho : Int32) (hr : Int32) (so : Int32) (sz : Int32)  : Ct l G yX3_takesHearer cX3_takesHearer 2 none 0 [.ref a, .int v] (wF [wSf a ho hr so sz]) none (wF [wSf a 1 v so sz]) := by
  refine Ct.of "GooseArms$Shelf" [some (.ref a), some (.int v)] (by decide +kernel) rfl (Nat.le_of_ble_eq_true rfl) rfl ?_
  refine J_aload_n 0 0 dX3_takesHearer_0 rfl rfl ?_
  refine J_iconst (v := 1) 1 dX3_takesHearer_1 rfl ?_
  refine p_151 (ws' := (wF [wSf a 1 hr so sz])) 2 0 rfl rfl rfl (Nat.le_of_ble_eq_true rfl) rfl dX3_takesHearer_2 ?_
  refine J_aload_n 5 0 dX3_takesHearer_5 rfl rfl ?_
  refine J_iload_n 6 1 dX3_takesHearer_6 rfl rfl ?_
  refine p_153 (ws' := (wF [wSf a 1 v so sz])) 7 0 rfl rfl rfl (Nat.le_of_ble_eq_true rfl) rfl dX3_takesHearer_7 ?_
  exact J_vret 10 dX3_takesHearer_10 rfl rfl
set_option maxRecDepth 100000 in
set_option maxHeartbeats 4000000 in
theorem c_X3_takesRow (l : Launch) (G : Gd) (a : Nat) (ho : Int32) (hr : Int32) (so : Int32) (sz : Int32) (s : Nat) (s_so : Int32) (s_sz : Int32) (s_im : Nat)  : Ct l G yX3_takesRow cX3_takesRow 2 none 1 [.ref a, .ref s] (wF [wSf a ho hr so sz, wSh s s_so s_sz s_im]) none (wF [wSf a (fHo s_so) hr s_so s_sz, wSh s s_so s_sz s_im]) := by
  refine Ct.of "GooseArms$Shelf" [some (.ref a), some (.ref s)] (by decide +kernel) rfl (Nat.le_of_ble_eq_true rfl) rfl ?_
  refine J_aload_n 0 0 dX3_takesRow_0 rfl rfl ?_
  refine J_aload_n 1 1 dX3_takesRow_1 rfl rfl ?_
  refine kb_RX3_22 (bs' := [wSf a ho hr so sz, wSh s s_so s_sz s_im]) (rest := [.ref a]) (st' := [.int (bI (s_so = -1)), .ref a]) 2 (c_X2_isMissing l G s s_so s_sz s_im ) [1] 1 rfl rfl rfl [[s]] rfl rfl rfl rfl rfl rfl (Nat.le_of_ble_eq_true rfl) rfl dX3_takesRow_2 ?_
  refine J_ifB_eq (tgt := 12) 5 dX3_takesRow_5 (by decide) (fun c_1_ => ?_) (fun c_1_ => ?_)
  · skip
    refine J_iconst (v := 2) 12 dX3_takesRow_12 rfl ?_
    refine p_151 (ws' := (wF [wSf a 2 hr so sz, wSh s s_so s_sz s_im])) 13 0 rfl rfl rfl (Nat.le_of_ble_eq_true rfl) rfl dX3_takesRow_13 ?_
    refine J_aload_n 16 0 dX3_takesRow_16 rfl rfl ?_
    refine J_aload_n 17 1 dX3_takesRow_17 rfl rfl ?_
    refine g_129 (v := .int s_so) 18 1 rfl rfl dX3_takesRow_18 ?_
    refine p_155 (ws' := (wF [wSf a 2 hr s_so sz, wSh s s_so s_sz s_im])) 21 0 rfl rfl rfl (Nat.le_of_ble_eq_true rfl) rfl dX3_takesRow_21 ?_
    refine J_aload_n 24 0 dX3_takesRow_24 rfl rfl ?_
    refine J_aload_n 25 1 dX3_takesRow_25 rfl rfl ?_
    refine g_132 (v := .int s_sz) 26 1 rfl rfl dX3_takesRow_26 ?_
    refine p_157 (ws' := (wF [wSf a 2 hr s_so s_sz, wSh s s_so s_sz s_im])) 29 0 rfl rfl rfl (Nat.le_of_ble_eq_true rfl) rfl dX3_takesRow_29 ?_
    exact J_vret 32 dX3_takesRow_32 rfl (cg1 (fun (x0_ : Int32) => (wF [wSf a x0_ hr s_so s_sz, wSh s s_so s_sz s_im])) 2 (fHo s_so) (by unfold fHo; first | exact (if_pos (by assumption)).symm | exact (if_neg (by assumption)).symm))
  · skip
    refine J_iconst (v := 0) 8 dX3_takesRow_8 rfl ?_
    refine J_goto (tgt := 13) 9 dX3_takesRow_9 (by decide) ?_
    refine p_151 (ws' := (wF [wSf a 0 hr so sz, wSh s s_so s_sz s_im])) 13 0 rfl rfl rfl (Nat.le_of_ble_eq_true rfl) rfl dX3_takesRow_13 ?_
    refine J_aload_n 16 0 dX3_takesRow_16 rfl rfl ?_
    refine J_aload_n 17 1 dX3_takesRow_17 rfl rfl ?_
    refine g_129 (v := .int s_so) 18 1 rfl rfl dX3_takesRow_18 ?_
    refine p_155 (ws' := (wF [wSf a 0 hr s_so sz, wSh s s_so s_sz s_im])) 21 0 rfl rfl rfl (Nat.le_of_ble_eq_true rfl) rfl dX3_takesRow_21 ?_
    refine J_aload_n 24 0 dX3_takesRow_24 rfl rfl ?_
    refine J_aload_n 25 1 dX3_takesRow_25 rfl rfl ?_
    refine g_132 (v := .int s_sz) 26 1 rfl rfl dX3_takesRow_26 ?_
    refine p_157 (ws' := (wF [wSf a 0 hr s_so s_sz, wSh s s_so s_sz s_im])) 29 0 rfl rfl rfl (Nat.le_of_ble_eq_true rfl) rfl dX3_takesRow_29 ?_
    exact J_vret 32 dX3_takesRow_32 rfl (cg1 (fun (x0_ : Int32) => (wF [wSf a x0_ hr s_so s_sz, wSh s s_so s_sz s_im])) 0 (fHo s_so) (by unfold fHo; first | exact (if_pos (by assumption)).symm | exact (if_neg (by assumption)).symm))
set_option maxRecDepth 100000 in
set_option maxHeartbeats 4000000 in
theorem c_X1_begin (l : Launch) (G : Gd) (k1 : Int32) (n1 : Int32) (t1 : Int32) (a : Nat) (bo : Nat) (ct : Nat) (pz : Int32) (ki : Int32) (nu : Int32) (te : Int32)  : Ct l G yX1_begin cX1_begin 4 none 0 [.ref a, .int k1, .int n1, .int t1] (wF [wDe a bo ct pz ki nu te]) none (wF [wDe a bo 0 0 k1 n1 t1]) := by
  refine Ct.of "GooseArms$Deed" [some (.ref a), some (.int k1), some (.int n1), some (.int t1)] (by decide +kernel) rfl (Nat.le_of_ble_eq_true rfl) rfl ?_
  refine J_aload_n 0 0 dX1_begin_0 rfl rfl ?_
  refine J_iload_n 1 1 dX1_begin_1 rfl rfl ?_
  refine p_180 (ws' := (wF [wDe a bo ct pz k1 nu te])) 2 0 rfl rfl rfl (Nat.le_of_ble_eq_true rfl) rfl dX1_begin_2 ?_
  refine J_aload_n 5 0 dX1_begin_5 rfl rfl ?_
  refine J_iload_n 6 2 dX1_begin_6 rfl rfl ?_
  refine p_181 (ws' := (wF [wDe a bo ct pz k1 n1 te])) 7 0 rfl rfl rfl (Nat.le_of_ble_eq_true rfl) rfl dX1_begin_7 ?_
  refine J_aload_n 10 0 dX1_begin_10 rfl rfl ?_
  refine J_iload_n 11 3 dX1_begin_11 rfl rfl ?_
  refine p_182 (ws' := (wF [wDe a bo ct pz k1 n1 t1])) 12 0 rfl rfl rfl (Nat.le_of_ble_eq_true rfl) rfl dX1_begin_12 ?_
  refine J_aload_n 15 0 dX1_begin_15 rfl rfl ?_
  refine J_iconst (v := 0) 16 dX1_begin_16 rfl ?_
  refine p_176 (ws' := (wF [wDe a bo 0 pz k1 n1 t1])) 17 0 rfl rfl rfl (Nat.le_of_ble_eq_true rfl) rfl dX1_begin_17 ?_
  refine J_aload_n 20 0 dX1_begin_20 rfl rfl ?_
  refine J_iconst (v := 0) 21 dX1_begin_21 rfl ?_
  refine p_178 (ws' := (wF [wDe a bo 0 0 k1 n1 t1])) 22 0 rfl rfl rfl (Nat.le_of_ble_eq_true rfl) rfl dX1_begin_22 ?_
  exact J_vret 25 dX1_begin_25 rfl rfl
set_option maxRecDepth 100000 in
set_option maxHeartbeats 4000000 in
theorem c_X1_notes (l : Launch) (G : Gd) (b : Int32) (a : Nat) (bo : Nat) (ct : Nat) (pz : Int32) (ki : Int32) (nu : Int32) (te : Int32) (f : Nat → Int32) (hc : ct < 30) : Ct l G yX1_notes cX1_notes 2 none 0 [.ref a, .int b] (wF [wDe a bo ct pz ki nu te, wI G bo 30 f]) none (wF [wDe a bo (ct + 1) pz ki nu te, wI G bo 30 (upd f ct b)]) := by
  refine Ct.of "GooseArms$Deed" [some (.ref a), some (.int b)] (by decide +kernel) rfl (Nat.le_of_ble_eq_true rfl) rfl ?_
  refine J_aload_n 0 0 dX1_notes_0 rfl rfl ?_
  refine g_176 (v := .int (nI ct)) 1 0 rfl rfl dX1_notes_1 ?_
  refine J_bipush (v := 30) 4 dX1_notes_4 rfl ?_
  refine J_icmp_ge (tgt := 29) 6 dX1_notes_6 (by decide) (fun c_1_ => ?_) (fun c_1_ => ?_)
  · skip
    have c_1_ : 30 ≤ ct := (nI_leI (a := 30) (b := ct) (by omega) (by omega)).mp c_1_
    exact absurd hc (by omega)
  · skip
    have c_1_ : ¬ 30 ≤ ct := fun z_ => c_1_ ((nI_leI (a := 30) (b := ct) (by omega) (by omega)).mpr z_)
    refine J_aload_n 9 0 dX1_notes_9 rfl rfl ?_
    refine g_174 (v := .ref bo) 10 0 rfl rfl dX1_notes_10 ?_
    refine J_aload_n 13 0 dX1_notes_13 rfl rfl ?_
    refine g_176 (v := .int (nI ct)) 14 0 rfl rfl dX1_notes_14 ?_
    refine J_iload_n 17 1 dX1_notes_17 rfl rfl ?_
    refine J_iast (ws' := (wF [wDe a bo ct pz ki nu te, wI G bo 30 (upd f ct b)])) 18 1 ct rfl rfl (by omega) (by decide) rfl dX1_notes_18 ?_
    refine J_aload_n 19 0 dX1_notes_19 rfl rfl ?_
    refine J_dup 20 dX1_notes_20 rfl ?_
    refine g_176 (v := .int (nI ct)) 21 0 rfl rfl dX1_notes_21 ?_
    refine J_iconst (v := 1) 24 dX1_notes_24 rfl ?_
    refine J_iadd 25 dX1_notes_25 ?_
    refine J_topi (y := nI (ct + 1)) 26 (nI_add ct 1) ?_
    refine p_176 (ws' := (wF [wDe a bo (ct + 1) pz ki nu te, wI G bo 30 (upd f ct b)])) 26 0 rfl rfl rfl (Nat.le_of_ble_eq_true rfl) rfl dX1_notes_26 ?_
    exact J_vret 29 dX1_notes_29 rfl rfl
set_option maxRecDepth 100000 in
set_option maxHeartbeats 4000000 in
theorem c_X1_quotient (l : Launch) (G : Gd) (x : Int32) (a : Nat) (bo : Nat) (ct : Nat) (pz : Int32) (ki : Int32) (nu : Int32) (te : Int32) (hz : ¬ te - nu = 0) : Ct l G yX1_quotient cX1_quotient 3 (some (FieldType.int)) 0 [.ref a, .int x] (wF [wDe a bo ct pz ki nu te]) (some (.int (x / (te - nu)))) (wF [wDe a bo ct pz ki nu te]) := by
  refine Ct.of "GooseArms$Deed" [some (.ref a), some (.int x), none] (by decide +kernel) rfl (Nat.le_of_ble_eq_true rfl) rfl ?_
  refine J_aload_n 0 0 dX1_quotient_0 rfl rfl ?_
  refine g_182 (v := .int te) 1 0 rfl rfl dX1_quotient_1 ?_
  refine J_aload_n 4 0 dX1_quotient_4 rfl rfl ?_
  refine g_181 (v := .int nu) 5 0 rfl rfl dX1_quotient_5 ?_
  refine J_isub 8 dX1_quotient_8 ?_
  refine J_istore_n (lv' := [some (.ref a), some (.int x), some (.int (te - nu))]) 9 2 dX1_quotient_9 rfl (by decide) rfl ?_
  refine J_iload_n 10 2 dX1_quotient_10 rfl rfl ?_
  refine J_if_ne (tgt := 21) 11 dX1_quotient_11 (by decide) (fun c_1_ => ?_) (fun c_1_ => ?_)
  · skip
    refine J_iload_n 21 1 dX1_quotient_21 rfl rfl ?_
    refine J_iload_n 22 2 dX1_quotient_22 rfl rfl ?_
    refine J_idiv 23 dX1_quotient_23 hz ?_
    exact J_iret 24 dX1_quotient_24 rfl rfl
  · skip
    exact absurd c_1_ hz
set_option maxRecDepth 100000 in
set_option maxHeartbeats 4000000 in
theorem c_X1_quotient_z (l : Launch) (G : Gd) (x : Int32) (a : Nat) (bo : Nat) (ct : Nat) (pz : Int32) (ki : Int32) (nu : Int32) (te : Int32) (hz : te - nu = 0) : Ct l G yX1_quotient cX1_quotient 3 (some (FieldType.int)) 0 [.ref a, .int x] (wF [wDe a bo ct pz ki nu te]) (some (.int 0)) (wF [wDe a bo ct 1 ki nu te]) := by
  refine Ct.of "GooseArms$Deed" [some (.ref a), some (.int x), none] (by decide +kernel) rfl (Nat.le_of_ble_eq_true rfl) rfl ?_
  refine J_aload_n 0 0 dX1_quotient_0 rfl rfl ?_
  refine g_182 (v := .int te) 1 0 rfl rfl dX1_quotient_1 ?_
  refine J_aload_n 4 0 dX1_quotient_4 rfl rfl ?_
  refine g_181 (v := .int nu) 5 0 rfl rfl dX1_quotient_5 ?_
  refine J_isub 8 dX1_quotient_8 ?_
  refine J_istore_n (lv' := [some (.ref a), some (.int x), some (.int (te - nu))]) 9 2 dX1_quotient_9 rfl (by decide) rfl ?_
  refine J_iload_n 10 2 dX1_quotient_10 rfl rfl ?_
  refine J_if_ne (tgt := 21) 11 dX1_quotient_11 (by decide) (fun c_1_ => ?_) (fun c_1_ => ?_)
  · skip
    exact absurd hz c_1_
  · skip
    refine J_aload_n 14 0 dX1_quotient_14 rfl rfl ?_
    refine J_iconst (v := 1) 15 dX1_quotient_15 rfl ?_
    refine p_178 (ws' := (wF [wDe a bo ct 1 ki nu te])) 16 0 rfl rfl rfl (Nat.le_of_ble_eq_true rfl) rfl dX1_quotient_16 ?_
    refine J_iconst (v := 0) 19 dX1_quotient_19 rfl ?_
    exact J_iret 20 dX1_quotient_20 rfl rfl
set_option maxRecDepth 100000 in
set_option maxHeartbeats 4000000 in
theorem c_runs_p (l : Launch) (G : Gd) (b : Int32) (x : Int32) (d : Nat) (a : Nat) (bo : Nat) (ct : Nat) (ki : Int32) (nu : Int32) (te : Int32)  : Ct l G yX1_runs cX1_runs 5 (some (FieldType.int)) 0 [.ref a, .int b, .int x, .int (nI d)] (wF [wDe a bo ct 1 ki nu te]) (some (.int 0)) (wF [wDe a bo ct 1 ki nu te]) := by
  refine Ct.of "GooseArms$Deed" [some (.ref a), some (.int b), some (.int x), some (.int (nI d)), none] (by decide +kernel) rfl (Nat.le_of_ble_eq_true rfl) rfl ?_
  refine J_aload_n 0 0 dX1_runs_0 rfl rfl ?_
  refine g_178 (v := .int 1) 1 0 rfl rfl dX1_runs_1 ?_
  refine J_if_ne (tgt := 13) 4 dX1_runs_4 (by decide) (fun _ => ?_) (fun c_1_ => absurd c_1_ (by decide))
  refine J_iconst (v := 0) 13 dX1_runs_13 rfl ?_
  exact J_iret 14 dX1_runs_14 rfl rfl
set_option maxRecDepth 100000 in
set_option maxHeartbeats 4000000 in
theorem c_runs_0_10 (l : Launch) (G : Gd) (x : Int32) (d : Nat) (a : Nat) (bo : Nat) (ct : Nat) (nu : Int32) (te : Int32) (f : Nat → Int32) (hd : d + 0 ≤ 40) (hc : ct + 1 ≤ 30) : Ct l G yX1_runs cX1_runs 5 (some (FieldType.int)) 1 [.ref a, .int 10, .int x, .int (nI d)] (wF [wDe a bo ct 0 0 nu te, wI G bo 30 f]) (some (.int (x * 5 + nu))) (wF [wDe a bo (ct + 1) 0 0 nu te, wI G bo 30 (pF [10] f ct)]) := by
  refine Ct.of "GooseArms$Deed" [some (.ref a), some (.int 10), some (.int x), some (.int (nI d)), none] (by decide +kernel) rfl (Nat.le_of_ble_eq_true rfl) rfl ?_
  refine J_aload_n 0 0 dX1_runs_0 rfl rfl ?_
  refine g_178 (v := .int 0) 1 0 rfl rfl dX1_runs_1 ?_
  refine J_if_ne (tgt := 13) 4 dX1_runs_4 (by decide) (fun c_1_ => absurd c_1_ (by decide)) (fun _ => ?_)
  refine J_iload_n 7 3 dX1_runs_7 rfl rfl ?_
  refine J_bipush (v := 40) 8 dX1_runs_8 rfl ?_
  refine J_icmp_le (tgt := 15) 10 dX1_runs_10 (by decide) (fun c_2_ => ?_) (fun c_2_ => ?_)
  · skip
    have c_2_ : d ≤ 40 := (nI_leI (a := d) (b := 40) (by omega) (by omega)).mp c_2_
    refine J_aload_n 15 0 dX1_runs_15 rfl rfl ?_
    refine J_iload_n 16 1 dX1_runs_16 rfl rfl ?_
    refine kb_RX1_48 (bs' := [wDe a bo (ct + 1) 0 0 nu te, wI G bo 30 (upd f ct 10)]) (rest := []) (st' := []) 17 (c_X1_notes l G 10 a bo ct 0 0 nu te f (by omega)) [0, 1] 0 rfl rfl rfl [[a], [bo]] rfl rfl rfl rfl rfl rfl (Nat.le_of_ble_eq_true rfl) rfl dX1_runs_17 ?_
    refine J_iload_n 20 3 dX1_runs_20 rfl rfl ?_
    refine J_iconst (v := 1) 21 dX1_runs_21 rfl ?_
    refine J_iadd 22 dX1_runs_22 ?_
    refine J_topi (y := nI (d + 1)) 23 (nI_add d 1) ?_
    refine J_istore (lv' := [some (.ref a), some (.int 10), some (.int x), some (.int (nI d)), some (.int (nI (d + 1)))]) 23 dX1_runs_23 (by decide) rfl ?_
    refine J_iload_n 25 1 dX1_runs_25 rfl rfl ?_
    refine J_tableIn (tgt := 248) (off := 222) 26 10 dX1_runs_26 rfl (by decide +kernel) (by decide) ?_
    refine J_iload_n 248 2 dX1_runs_248 rfl rfl ?_
    refine J_iconst (v := 5) 249 dX1_runs_249 rfl ?_
    refine J_imul 250 dX1_runs_250 ?_
    refine J_aload_n 251 0 dX1_runs_251 rfl rfl ?_
    refine g_181 (v := .int nu) 252 0 rfl rfl dX1_runs_252 ?_
    refine J_iadd 255 dX1_runs_255 ?_
    exact J_iret 256 dX1_runs_256 (congrArg (fun x_ => some (Value.int x_)) rfl) (cg1 (fun (x0_ : Nat → Int32) => (wF [wDe a bo (ct + 1) 0 0 nu te, wI G bo 30 x0_])) (upd f ct 10) (pF [10] f ct) rfl)
  · skip
    have c_2_ : ¬ d ≤ 40 := fun z_ => c_2_ ((nI_leI (a := d) (b := 40) (by omega) (by omega)).mpr z_)
    omega
set_option maxRecDepth 100000 in
set_option maxHeartbeats 4000000 in
theorem c_runs_0_11 (l : Launch) (G : Gd) (x : Int32) (d : Nat) (a : Nat) (bo : Nat) (ct : Nat) (nu : Int32) (te : Int32) (f : Nat → Int32) (hd : d + 1 ≤ 40) (hc : ct + 2 ≤ 30) : Ct l G yX1_runs cX1_runs 5 (some (FieldType.int)) 2 [.ref a, .int 11, .int x, .int (nI d)] (wF [wDe a bo ct 0 0 nu te, wI G bo 30 f]) (some (.int ((x * 5 + nu) - te))) (wF [wDe a bo (ct + 2) 0 0 nu te, wI G bo 30 (pF [11, 10] f ct)]) := by
  refine Ct.of "GooseArms$Deed" [some (.ref a), some (.int 11), some (.int x), some (.int (nI d)), none] (by decide +kernel) rfl (Nat.le_of_ble_eq_true rfl) rfl ?_
  refine J_aload_n 0 0 dX1_runs_0 rfl rfl ?_
  refine g_178 (v := .int 0) 1 0 rfl rfl dX1_runs_1 ?_
  refine J_if_ne (tgt := 13) 4 dX1_runs_4 (by decide) (fun c_1_ => absurd c_1_ (by decide)) (fun _ => ?_)
  refine J_iload_n 7 3 dX1_runs_7 rfl rfl ?_
  refine J_bipush (v := 40) 8 dX1_runs_8 rfl ?_
  refine J_icmp_le (tgt := 15) 10 dX1_runs_10 (by decide) (fun c_2_ => ?_) (fun c_2_ => ?_)
  · skip
    have c_2_ : d ≤ 40 := (nI_leI (a := d) (b := 40) (by omega) (by omega)).mp c_2_
    refine J_aload_n 15 0 dX1_runs_15 rfl rfl ?_
    refine J_iload_n 16 1 dX1_runs_16 rfl rfl ?_
    refine kb_RX1_48 (bs' := [wDe a bo (ct + 1) 0 0 nu te, wI G bo 30 (upd f ct 11)]) (rest := []) (st' := []) 17 (c_X1_notes l G 11 a bo ct 0 0 nu te f (by omega)) [0, 1] 0 rfl rfl rfl [[a], [bo]] rfl rfl rfl rfl rfl rfl (Nat.le_of_ble_eq_true rfl) rfl dX1_runs_17 ?_
    refine J_iload_n 20 3 dX1_runs_20 rfl rfl ?_
    refine J_iconst (v := 1) 21 dX1_runs_21 rfl ?_
    refine J_iadd 22 dX1_runs_22 ?_
    refine J_topi (y := nI (d + 1)) 23 (nI_add d 1) ?_
    refine J_istore (lv' := [some (.ref a), some (.int 11), some (.int x), some (.int (nI d)), some (.int (nI (d + 1)))]) 23 dX1_runs_23 (by decide) rfl ?_
    refine J_iload_n 25 1 dX1_runs_25 rfl rfl ?_
    refine J_tableIn (tgt := 257) (off := 231) 26 11 dX1_runs_26 rfl (by decide +kernel) (by decide) ?_
    refine J_aload_n 257 0 dX1_runs_257 rfl rfl ?_
    refine J_gets (v := .ref (G.2.2 2)) 258 w_744 gz2 rfl dX1_runs_258 ?_
    refine J_aload_n 261 0 dX1_runs_261 rfl rfl ?_
    refine g_180 (v := .int 0) 262 0 rfl rfl dX1_runs_262 ?_
    refine J_stat (v := .int 10) 265 gt2 0 rfl (by omega) (by decide) rfl dX1_runs_265 ?_
    refine J_iload_n 266 2 dX1_runs_266 rfl rfl ?_
    refine J_iload 267 dX1_runs_267 rfl ?_
    refine kb_RX1_52 (bs' := [wDe a bo ((ct + 1) + 1) 0 0 nu te, wI G bo 30 (pF [10] (upd f ct 11) (ct + 1))]) (rest := []) (st' := [.int (x * 5 + nu)]) 269 (c_runs_0_10 l G x (d + 1) a bo (ct + 1) nu te (upd f ct 11) (by omega) (by omega)) [0, 1] rfl rfl [[a], [bo]] rfl rfl rfl rfl rfl rfl (Nat.le_of_ble_eq_true rfl) rfl dX1_runs_269 ?_
    refine J_aload_n 272 0 dX1_runs_272 rfl rfl ?_
    refine g_182 (v := .int te) 273 0 rfl rfl dX1_runs_273 ?_
    refine J_isub 276 dX1_runs_276 ?_
    exact J_iret 277 dX1_runs_277 rfl (cg2 (fun (x0_ : Nat) (x1_ : Nat → Int32) => (wF [wDe a bo x0_ 0 0 nu te, wI G bo 30 x1_])) ((ct + 1) + 1) (ct + 2) (pF [10] (upd f ct 11) (ct + 1)) (pF [11, 10] f ct) rfl rfl)
  · skip
    have c_2_ : ¬ d ≤ 40 := fun z_ => c_2_ ((nI_leI (a := d) (b := 40) (by omega) (by omega)).mpr z_)
    omega
set_option maxRecDepth 100000 in
set_option maxHeartbeats 4000000 in
theorem c_runs_0_12 (l : Launch) (G : Gd) (x : Int32) (d : Nat) (a : Nat) (bo : Nat) (ct : Nat) (nu : Int32) (te : Int32) (f : Nat → Int32) (hd : d + 0 ≤ 40) (hc : ct + 1 ≤ 30) (hz : ¬ te - nu = 0) : Ct l G yX1_runs cX1_runs 5 (some (FieldType.int)) 1 [.ref a, .int 12, .int x, .int (nI d)] (wF [wDe a bo ct 0 0 nu te, wI G bo 30 f]) (some (.int (x / (te - nu)))) (wF [wDe a bo (ct + 1) 0 0 nu te, wI G bo 30 (pF [12] f ct)]) := by
  refine Ct.of "GooseArms$Deed" [some (.ref a), some (.int 12), some (.int x), some (.int (nI d)), none] (by decide +kernel) rfl (Nat.le_of_ble_eq_true rfl) rfl ?_
  refine J_aload_n 0 0 dX1_runs_0 rfl rfl ?_
  refine g_178 (v := .int 0) 1 0 rfl rfl dX1_runs_1 ?_
  refine J_if_ne (tgt := 13) 4 dX1_runs_4 (by decide) (fun c_1_ => absurd c_1_ (by decide)) (fun _ => ?_)
  refine J_iload_n 7 3 dX1_runs_7 rfl rfl ?_
  refine J_bipush (v := 40) 8 dX1_runs_8 rfl ?_
  refine J_icmp_le (tgt := 15) 10 dX1_runs_10 (by decide) (fun c_2_ => ?_) (fun c_2_ => ?_)
  · skip
    have c_2_ : d ≤ 40 := (nI_leI (a := d) (b := 40) (by omega) (by omega)).mp c_2_
    refine J_aload_n 15 0 dX1_runs_15 rfl rfl ?_
    refine J_iload_n 16 1 dX1_runs_16 rfl rfl ?_
    refine kb_RX1_48 (bs' := [wDe a bo (ct + 1) 0 0 nu te, wI G bo 30 (upd f ct 12)]) (rest := []) (st' := []) 17 (c_X1_notes l G 12 a bo ct 0 0 nu te f (by omega)) [0, 1] 0 rfl rfl rfl [[a], [bo]] rfl rfl rfl rfl rfl rfl (Nat.le_of_ble_eq_true rfl) rfl dX1_runs_17 ?_
    refine J_iload_n 20 3 dX1_runs_20 rfl rfl ?_
    refine J_iconst (v := 1) 21 dX1_runs_21 rfl ?_
    refine J_iadd 22 dX1_runs_22 ?_
    refine J_topi (y := nI (d + 1)) 23 (nI_add d 1) ?_
    refine J_istore (lv' := [some (.ref a), some (.int 12), some (.int x), some (.int (nI d)), some (.int (nI (d + 1)))]) 23 dX1_runs_23 (by decide) rfl ?_
    refine J_iload_n 25 1 dX1_runs_25 rfl rfl ?_
    refine J_tableIn (tgt := 278) (off := 252) 26 12 dX1_runs_26 rfl (by decide +kernel) (by decide) ?_
    refine J_aload_n 278 0 dX1_runs_278 rfl rfl ?_
    refine J_iload_n 279 2 dX1_runs_279 rfl rfl ?_
    refine kb_RX1_56 (bs' := [wDe a bo (ct + 1) 0 0 nu te, wI G bo 30 (upd f ct 12)]) (rest := []) (st' := [.int (x / (te - nu))]) 280 (c_X1_quotient l G x a bo (ct + 1) 0 0 nu te (by omega)) [0] 0 rfl rfl rfl [[a]] rfl rfl rfl rfl rfl rfl (Nat.le_of_ble_eq_true rfl) rfl dX1_runs_280 ?_
    exact J_iret 283 dX1_runs_283 rfl (cg1 (fun (x0_ : Nat → Int32) => (wF [wDe a bo (ct + 1) 0 0 nu te, wI G bo 30 x0_])) (upd f ct 12) (pF [12] f ct) rfl)
  · skip
    have c_2_ : ¬ d ≤ 40 := fun z_ => c_2_ ((nI_leI (a := d) (b := 40) (by omega) (by omega)).mpr z_)
    omega
set_option maxRecDepth 100000 in
set_option maxHeartbeats 4000000 in
theorem c_runs_0_12z (l : Launch) (G : Gd) (x : Int32) (d : Nat) (a : Nat) (bo : Nat) (ct : Nat) (nu : Int32) (te : Int32) (f : Nat → Int32) (hd : d + 0 ≤ 40) (hc : ct + 1 ≤ 30) (hz : te - nu = 0) : Ct l G yX1_runs cX1_runs 5 (some (FieldType.int)) 1 [.ref a, .int 12, .int x, .int (nI d)] (wF [wDe a bo ct 0 0 nu te, wI G bo 30 f]) (some (.int 0)) (wF [wDe a bo (ct + 1) 1 0 nu te, wI G bo 30 (pF [12] f ct)]) := by
  refine Ct.of "GooseArms$Deed" [some (.ref a), some (.int 12), some (.int x), some (.int (nI d)), none] (by decide +kernel) rfl (Nat.le_of_ble_eq_true rfl) rfl ?_
  refine J_aload_n 0 0 dX1_runs_0 rfl rfl ?_
  refine g_178 (v := .int 0) 1 0 rfl rfl dX1_runs_1 ?_
  refine J_if_ne (tgt := 13) 4 dX1_runs_4 (by decide) (fun c_1_ => absurd c_1_ (by decide)) (fun _ => ?_)
  refine J_iload_n 7 3 dX1_runs_7 rfl rfl ?_
  refine J_bipush (v := 40) 8 dX1_runs_8 rfl ?_
  refine J_icmp_le (tgt := 15) 10 dX1_runs_10 (by decide) (fun c_2_ => ?_) (fun c_2_ => ?_)
  · skip
    have c_2_ : d ≤ 40 := (nI_leI (a := d) (b := 40) (by omega) (by omega)).mp c_2_
    refine J_aload_n 15 0 dX1_runs_15 rfl rfl ?_
    refine J_iload_n 16 1 dX1_runs_16 rfl rfl ?_
    refine kb_RX1_48 (bs' := [wDe a bo (ct + 1) 0 0 nu te, wI G bo 30 (upd f ct 12)]) (rest := []) (st' := []) 17 (c_X1_notes l G 12 a bo ct 0 0 nu te f (by omega)) [0, 1] 0 rfl rfl rfl [[a], [bo]] rfl rfl rfl rfl rfl rfl (Nat.le_of_ble_eq_true rfl) rfl dX1_runs_17 ?_
    refine J_iload_n 20 3 dX1_runs_20 rfl rfl ?_
    refine J_iconst (v := 1) 21 dX1_runs_21 rfl ?_
    refine J_iadd 22 dX1_runs_22 ?_
    refine J_topi (y := nI (d + 1)) 23 (nI_add d 1) ?_
    refine J_istore (lv' := [some (.ref a), some (.int 12), some (.int x), some (.int (nI d)), some (.int (nI (d + 1)))]) 23 dX1_runs_23 (by decide) rfl ?_
    refine J_iload_n 25 1 dX1_runs_25 rfl rfl ?_
    refine J_tableIn (tgt := 278) (off := 252) 26 12 dX1_runs_26 rfl (by decide +kernel) (by decide) ?_
    refine J_aload_n 278 0 dX1_runs_278 rfl rfl ?_
    refine J_iload_n 279 2 dX1_runs_279 rfl rfl ?_
    refine kb_RX1_56 (bs' := [wDe a bo (ct + 1) 1 0 nu te, wI G bo 30 (upd f ct 12)]) (rest := []) (st' := [.int 0]) 280 (c_X1_quotient_z l G x a bo (ct + 1) 0 0 nu te (by omega)) [0] 0 rfl rfl rfl [[a]] rfl rfl rfl rfl rfl rfl (Nat.le_of_ble_eq_true rfl) rfl dX1_runs_280 ?_
    exact J_iret 283 dX1_runs_283 rfl (cg1 (fun (x0_ : Nat → Int32) => (wF [wDe a bo (ct + 1) 1 0 nu te, wI G bo 30 x0_])) (upd f ct 12) (pF [12] f ct) rfl)
  · skip
    have c_2_ : ¬ d ≤ 40 := fun z_ => c_2_ ((nI_leI (a := d) (b := 40) (by omega) (by omega)).mpr z_)
    omega
set_option maxRecDepth 100000 in
set_option maxHeartbeats 4000000 in
theorem c_runs_0_13 (l : Launch) (G : Gd) (x : Int32) (d : Nat) (a : Nat) (bo : Nat) (ct : Nat) (nu : Int32) (te : Int32) (f : Nat → Int32) (hd : d + 2 ≤ 40) (hc : ct + 3 ≤ 30) : Ct l G yX1_runs cX1_runs 5 (some (FieldType.int)) 3 [.ref a, .int 13, .int x, .int (nI d)] (wF [wDe a bo ct 0 0 nu te, wI G bo 30 f]) (some (.int (((x * 5 + nu) - te) ^^^ 150))) (wF [wDe a bo (ct + 3) 0 0 nu te, wI G bo 30 (pF [13, 11, 10] f ct)]) := by
  refine Ct.of "GooseArms$Deed" [some (.ref a), some (.int 13), some (.int x), some (.int (nI d)), none] (by decide +kernel) rfl (Nat.le_of_ble_eq_true rfl) rfl ?_
  refine J_aload_n 0 0 dX1_runs_0 rfl rfl ?_
  refine g_178 (v := .int 0) 1 0 rfl rfl dX1_runs_1 ?_
  refine J_if_ne (tgt := 13) 4 dX1_runs_4 (by decide) (fun c_1_ => absurd c_1_ (by decide)) (fun _ => ?_)
  refine J_iload_n 7 3 dX1_runs_7 rfl rfl ?_
  refine J_bipush (v := 40) 8 dX1_runs_8 rfl ?_
  refine J_icmp_le (tgt := 15) 10 dX1_runs_10 (by decide) (fun c_2_ => ?_) (fun c_2_ => ?_)
  · skip
    have c_2_ : d ≤ 40 := (nI_leI (a := d) (b := 40) (by omega) (by omega)).mp c_2_
    refine J_aload_n 15 0 dX1_runs_15 rfl rfl ?_
    refine J_iload_n 16 1 dX1_runs_16 rfl rfl ?_
    refine kb_RX1_48 (bs' := [wDe a bo (ct + 1) 0 0 nu te, wI G bo 30 (upd f ct 13)]) (rest := []) (st' := []) 17 (c_X1_notes l G 13 a bo ct 0 0 nu te f (by omega)) [0, 1] 0 rfl rfl rfl [[a], [bo]] rfl rfl rfl rfl rfl rfl (Nat.le_of_ble_eq_true rfl) rfl dX1_runs_17 ?_
    refine J_iload_n 20 3 dX1_runs_20 rfl rfl ?_
    refine J_iconst (v := 1) 21 dX1_runs_21 rfl ?_
    refine J_iadd 22 dX1_runs_22 ?_
    refine J_topi (y := nI (d + 1)) 23 (nI_add d 1) ?_
    refine J_istore (lv' := [some (.ref a), some (.int 13), some (.int x), some (.int (nI d)), some (.int (nI (d + 1)))]) 23 dX1_runs_23 (by decide) rfl ?_
    refine J_iload_n 25 1 dX1_runs_25 rfl rfl ?_
    refine J_tableIn (tgt := 284) (off := 258) 26 13 dX1_runs_26 rfl (by decide +kernel) (by decide) ?_
    refine J_aload_n 284 0 dX1_runs_284 rfl rfl ?_
    refine J_gets (v := .ref (G.2.2 3)) 285 w_746 gz3 rfl dX1_runs_285 ?_
    refine J_aload_n 288 0 dX1_runs_288 rfl rfl ?_
    refine g_180 (v := .int 0) 289 0 rfl rfl dX1_runs_289 ?_
    refine J_stat (v := .int 11) 292 gt3 0 rfl (by omega) (by decide) rfl dX1_runs_292 ?_
    refine J_iload_n 293 2 dX1_runs_293 rfl rfl ?_
    refine J_iload 294 dX1_runs_294 rfl ?_
    refine kb_RX1_52 (bs' := [wDe a bo ((ct + 1) + 2) 0 0 nu te, wI G bo 30 (pF [11, 10] (upd f ct 13) (ct + 1))]) (rest := []) (st' := [.int ((x * 5 + nu) - te)]) 296 (c_runs_0_11 l G x (d + 1) a bo (ct + 1) nu te (upd f ct 13) (by omega) (by omega)) [0, 1] rfl rfl [[a], [bo]] rfl rfl rfl rfl rfl rfl (Nat.le_of_ble_eq_true rfl) rfl dX1_runs_296 ?_
    refine J_sipush (v := 150) 299 dX1_runs_299 rfl ?_
    refine J_ixor 302 dX1_runs_302 ?_
    exact J_iret 303 dX1_runs_303 rfl (cg2 (fun (x0_ : Nat) (x1_ : Nat → Int32) => (wF [wDe a bo x0_ 0 0 nu te, wI G bo 30 x1_])) ((ct + 1) + 2) (ct + 3) (pF [11, 10] (upd f ct 13) (ct + 1)) (pF [13, 11, 10] f ct) rfl rfl)
  · skip
    have c_2_ : ¬ d ≤ 40 := fun z_ => c_2_ ((nI_leI (a := d) (b := 40) (by omega) (by omega)).mpr z_)
    omega
set_option maxRecDepth 100000 in
set_option maxHeartbeats 4000000 in
theorem c_runs_1_10 (l : Launch) (G : Gd) (x : Int32) (d : Nat) (a : Nat) (bo : Nat) (ct : Nat) (nu : Int32) (te : Int32) (f : Nat → Int32) (hd : d + 0 ≤ 40) (hc : ct + 1 ≤ 30) : Ct l G yX1_runs cX1_runs 5 (some (FieldType.int)) 1 [.ref a, .int 10, .int x, .int (nI d)] (wF [wDe a bo ct 0 1 nu te, wI G bo 30 f]) (some (.int (x * 5 + nu))) (wF [wDe a bo (ct + 1) 0 1 nu te, wI G bo 30 (pF [10] f ct)]) := by
  refine Ct.of "GooseArms$Deed" [some (.ref a), some (.int 10), some (.int x), some (.int (nI d)), none] (by decide +kernel) rfl (Nat.le_of_ble_eq_true rfl) rfl ?_
  refine J_aload_n 0 0 dX1_runs_0 rfl rfl ?_
  refine g_178 (v := .int 0) 1 0 rfl rfl dX1_runs_1 ?_
  refine J_if_ne (tgt := 13) 4 dX1_runs_4 (by decide) (fun c_1_ => absurd c_1_ (by decide)) (fun _ => ?_)
  refine J_iload_n 7 3 dX1_runs_7 rfl rfl ?_
  refine J_bipush (v := 40) 8 dX1_runs_8 rfl ?_
  refine J_icmp_le (tgt := 15) 10 dX1_runs_10 (by decide) (fun c_2_ => ?_) (fun c_2_ => ?_)
  · skip
    have c_2_ : d ≤ 40 := (nI_leI (a := d) (b := 40) (by omega) (by omega)).mp c_2_
    refine J_aload_n 15 0 dX1_runs_15 rfl rfl ?_
    refine J_iload_n 16 1 dX1_runs_16 rfl rfl ?_
    refine kb_RX1_48 (bs' := [wDe a bo (ct + 1) 0 1 nu te, wI G bo 30 (upd f ct 10)]) (rest := []) (st' := []) 17 (c_X1_notes l G 10 a bo ct 0 1 nu te f (by omega)) [0, 1] 0 rfl rfl rfl [[a], [bo]] rfl rfl rfl rfl rfl rfl (Nat.le_of_ble_eq_true rfl) rfl dX1_runs_17 ?_
    refine J_iload_n 20 3 dX1_runs_20 rfl rfl ?_
    refine J_iconst (v := 1) 21 dX1_runs_21 rfl ?_
    refine J_iadd 22 dX1_runs_22 ?_
    refine J_topi (y := nI (d + 1)) 23 (nI_add d 1) ?_
    refine J_istore (lv' := [some (.ref a), some (.int 10), some (.int x), some (.int (nI d)), some (.int (nI (d + 1)))]) 23 dX1_runs_23 (by decide) rfl ?_
    refine J_iload_n 25 1 dX1_runs_25 rfl rfl ?_
    refine J_tableIn (tgt := 248) (off := 222) 26 10 dX1_runs_26 rfl (by decide +kernel) (by decide) ?_
    refine J_iload_n 248 2 dX1_runs_248 rfl rfl ?_
    refine J_iconst (v := 5) 249 dX1_runs_249 rfl ?_
    refine J_imul 250 dX1_runs_250 ?_
    refine J_aload_n 251 0 dX1_runs_251 rfl rfl ?_
    refine g_181 (v := .int nu) 252 0 rfl rfl dX1_runs_252 ?_
    refine J_iadd 255 dX1_runs_255 ?_
    exact J_iret 256 dX1_runs_256 (congrArg (fun x_ => some (Value.int x_)) rfl) (cg1 (fun (x0_ : Nat → Int32) => (wF [wDe a bo (ct + 1) 0 1 nu te, wI G bo 30 x0_])) (upd f ct 10) (pF [10] f ct) rfl)
  · skip
    have c_2_ : ¬ d ≤ 40 := fun z_ => c_2_ ((nI_leI (a := d) (b := 40) (by omega) (by omega)).mpr z_)
    omega
set_option maxRecDepth 100000 in
set_option maxHeartbeats 4000000 in
theorem c_runs_1_11 (l : Launch) (G : Gd) (x : Int32) (d : Nat) (a : Nat) (bo : Nat) (ct : Nat) (nu : Int32) (te : Int32) (f : Nat → Int32) (hd : d + 1 ≤ 40) (hc : ct + 2 ≤ 30) : Ct l G yX1_runs cX1_runs 5 (some (FieldType.int)) 2 [.ref a, .int 11, .int x, .int (nI d)] (wF [wDe a bo ct 0 1 nu te, wI G bo 30 f]) (some (.int ((x * 5 + nu) - te))) (wF [wDe a bo (ct + 2) 0 1 nu te, wI G bo 30 (pF [11, 10] f ct)]) := by
  refine Ct.of "GooseArms$Deed" [some (.ref a), some (.int 11), some (.int x), some (.int (nI d)), none] (by decide +kernel) rfl (Nat.le_of_ble_eq_true rfl) rfl ?_
  refine J_aload_n 0 0 dX1_runs_0 rfl rfl ?_
  refine g_178 (v := .int 0) 1 0 rfl rfl dX1_runs_1 ?_
  refine J_if_ne (tgt := 13) 4 dX1_runs_4 (by decide) (fun c_1_ => absurd c_1_ (by decide)) (fun _ => ?_)
  refine J_iload_n 7 3 dX1_runs_7 rfl rfl ?_
  refine J_bipush (v := 40) 8 dX1_runs_8 rfl ?_
  refine J_icmp_le (tgt := 15) 10 dX1_runs_10 (by decide) (fun c_2_ => ?_) (fun c_2_ => ?_)
  · skip
    have c_2_ : d ≤ 40 := (nI_leI (a := d) (b := 40) (by omega) (by omega)).mp c_2_
    refine J_aload_n 15 0 dX1_runs_15 rfl rfl ?_
    refine J_iload_n 16 1 dX1_runs_16 rfl rfl ?_
    refine kb_RX1_48 (bs' := [wDe a bo (ct + 1) 0 1 nu te, wI G bo 30 (upd f ct 11)]) (rest := []) (st' := []) 17 (c_X1_notes l G 11 a bo ct 0 1 nu te f (by omega)) [0, 1] 0 rfl rfl rfl [[a], [bo]] rfl rfl rfl rfl rfl rfl (Nat.le_of_ble_eq_true rfl) rfl dX1_runs_17 ?_
    refine J_iload_n 20 3 dX1_runs_20 rfl rfl ?_
    refine J_iconst (v := 1) 21 dX1_runs_21 rfl ?_
    refine J_iadd 22 dX1_runs_22 ?_
    refine J_topi (y := nI (d + 1)) 23 (nI_add d 1) ?_
    refine J_istore (lv' := [some (.ref a), some (.int 11), some (.int x), some (.int (nI d)), some (.int (nI (d + 1)))]) 23 dX1_runs_23 (by decide) rfl ?_
    refine J_iload_n 25 1 dX1_runs_25 rfl rfl ?_
    refine J_tableIn (tgt := 257) (off := 231) 26 11 dX1_runs_26 rfl (by decide +kernel) (by decide) ?_
    refine J_aload_n 257 0 dX1_runs_257 rfl rfl ?_
    refine J_gets (v := .ref (G.2.2 2)) 258 w_744 gz2 rfl dX1_runs_258 ?_
    refine J_aload_n 261 0 dX1_runs_261 rfl rfl ?_
    refine g_180 (v := .int 1) 262 0 rfl rfl dX1_runs_262 ?_
    refine J_stat (v := .int 10) 265 gt2 1 rfl (by omega) (by decide) rfl dX1_runs_265 ?_
    refine J_iload_n 266 2 dX1_runs_266 rfl rfl ?_
    refine J_iload 267 dX1_runs_267 rfl ?_
    refine kb_RX1_52 (bs' := [wDe a bo ((ct + 1) + 1) 0 1 nu te, wI G bo 30 (pF [10] (upd f ct 11) (ct + 1))]) (rest := []) (st' := [.int (x * 5 + nu)]) 269 (c_runs_1_10 l G x (d + 1) a bo (ct + 1) nu te (upd f ct 11) (by omega) (by omega)) [0, 1] rfl rfl [[a], [bo]] rfl rfl rfl rfl rfl rfl (Nat.le_of_ble_eq_true rfl) rfl dX1_runs_269 ?_
    refine J_aload_n 272 0 dX1_runs_272 rfl rfl ?_
    refine g_182 (v := .int te) 273 0 rfl rfl dX1_runs_273 ?_
    refine J_isub 276 dX1_runs_276 ?_
    exact J_iret 277 dX1_runs_277 rfl (cg2 (fun (x0_ : Nat) (x1_ : Nat → Int32) => (wF [wDe a bo x0_ 0 1 nu te, wI G bo 30 x1_])) ((ct + 1) + 1) (ct + 2) (pF [10] (upd f ct 11) (ct + 1)) (pF [11, 10] f ct) rfl rfl)
  · skip
    have c_2_ : ¬ d ≤ 40 := fun z_ => c_2_ ((nI_leI (a := d) (b := 40) (by omega) (by omega)).mpr z_)
    omega
set_option maxRecDepth 100000 in
set_option maxHeartbeats 4000000 in
theorem c_runs_1_20 (l : Launch) (G : Gd) (x : Int32) (d : Nat) (a : Nat) (bo : Nat) (ct : Nat) (nu : Int32) (te : Int32) (f : Nat → Int32) (hd : d + 2 ≤ 40) (hc : ct + 3 ≤ 30) : Ct l G yX1_runs cX1_runs 5 (some (FieldType.int)) 3 [.ref a, .int 20, .int x, .int (nI d)] (wF [wDe a bo ct 0 1 nu te, wI G bo 30 f]) (some (.int (((x * 5 + nu) - te) * 2))) (wF [wDe a bo (ct + 3) 0 1 nu te, wI G bo 30 (pF [20, 11, 10] f ct)]) := by
  refine Ct.of "GooseArms$Deed" [some (.ref a), some (.int 20), some (.int x), some (.int (nI d)), none] (by decide +kernel) rfl (Nat.le_of_ble_eq_true rfl) rfl ?_
  refine J_aload_n 0 0 dX1_runs_0 rfl rfl ?_
  refine g_178 (v := .int 0) 1 0 rfl rfl dX1_runs_1 ?_
  refine J_if_ne (tgt := 13) 4 dX1_runs_4 (by decide) (fun c_1_ => absurd c_1_ (by decide)) (fun _ => ?_)
  refine J_iload_n 7 3 dX1_runs_7 rfl rfl ?_
  refine J_bipush (v := 40) 8 dX1_runs_8 rfl ?_
  refine J_icmp_le (tgt := 15) 10 dX1_runs_10 (by decide) (fun c_2_ => ?_) (fun c_2_ => ?_)
  · skip
    have c_2_ : d ≤ 40 := (nI_leI (a := d) (b := 40) (by omega) (by omega)).mp c_2_
    refine J_aload_n 15 0 dX1_runs_15 rfl rfl ?_
    refine J_iload_n 16 1 dX1_runs_16 rfl rfl ?_
    refine kb_RX1_48 (bs' := [wDe a bo (ct + 1) 0 1 nu te, wI G bo 30 (upd f ct 20)]) (rest := []) (st' := []) 17 (c_X1_notes l G 20 a bo ct 0 1 nu te f (by omega)) [0, 1] 0 rfl rfl rfl [[a], [bo]] rfl rfl rfl rfl rfl rfl (Nat.le_of_ble_eq_true rfl) rfl dX1_runs_17 ?_
    refine J_iload_n 20 3 dX1_runs_20 rfl rfl ?_
    refine J_iconst (v := 1) 21 dX1_runs_21 rfl ?_
    refine J_iadd 22 dX1_runs_22 ?_
    refine J_topi (y := nI (d + 1)) 23 (nI_add d 1) ?_
    refine J_istore (lv' := [some (.ref a), some (.int 20), some (.int x), some (.int (nI d)), some (.int (nI (d + 1)))]) 23 dX1_runs_23 (by decide) rfl ?_
    refine J_iload_n 25 1 dX1_runs_25 rfl rfl ?_
    refine J_tableIn (tgt := 304) (off := 278) 26 20 dX1_runs_26 rfl (by decide +kernel) (by decide) ?_
    refine J_aload_n 304 0 dX1_runs_304 rfl rfl ?_
    refine J_bipush (v := 11) 305 dX1_runs_305 rfl ?_
    refine J_iload_n 307 2 dX1_runs_307 rfl rfl ?_
    refine J_iload 308 dX1_runs_308 rfl ?_
    refine kb_RX1_52 (bs' := [wDe a bo ((ct + 1) + 2) 0 1 nu te, wI G bo 30 (pF [11, 10] (upd f ct 20) (ct + 1))]) (rest := []) (st' := [.int ((x * 5 + nu) - te)]) 310 (c_runs_1_11 l G x (d + 1) a bo (ct + 1) nu te (upd f ct 20) (by omega) (by omega)) [0, 1] rfl rfl [[a], [bo]] rfl rfl rfl rfl rfl rfl (Nat.le_of_ble_eq_true rfl) rfl dX1_runs_310 ?_
    refine J_iconst (v := 2) 313 dX1_runs_313 rfl ?_
    refine J_imul 314 dX1_runs_314 ?_
    exact J_iret 315 dX1_runs_315 rfl (cg2 (fun (x0_ : Nat) (x1_ : Nat → Int32) => (wF [wDe a bo x0_ 0 1 nu te, wI G bo 30 x1_])) ((ct + 1) + 2) (ct + 3) (pF [11, 10] (upd f ct 20) (ct + 1)) (pF [20, 11, 10] f ct) rfl rfl)
  · skip
    have c_2_ : ¬ d ≤ 40 := fun z_ => c_2_ ((nI_leI (a := d) (b := 40) (by omega) (by omega)).mpr z_)
    omega
set_option maxRecDepth 100000 in
set_option maxHeartbeats 4000000 in
theorem c_runs_1_12 (l : Launch) (G : Gd) (x : Int32) (d : Nat) (a : Nat) (bo : Nat) (ct : Nat) (nu : Int32) (te : Int32) (f : Nat → Int32) (hd : d + 0 ≤ 40) (hc : ct + 1 ≤ 30) (hz : ¬ te - nu = 0) : Ct l G yX1_runs cX1_runs 5 (some (FieldType.int)) 1 [.ref a, .int 12, .int x, .int (nI d)] (wF [wDe a bo ct 0 1 nu te, wI G bo 30 f]) (some (.int (x / (te - nu)))) (wF [wDe a bo (ct + 1) 0 1 nu te, wI G bo 30 (pF [12] f ct)]) := by
  refine Ct.of "GooseArms$Deed" [some (.ref a), some (.int 12), some (.int x), some (.int (nI d)), none] (by decide +kernel) rfl (Nat.le_of_ble_eq_true rfl) rfl ?_
  refine J_aload_n 0 0 dX1_runs_0 rfl rfl ?_
  refine g_178 (v := .int 0) 1 0 rfl rfl dX1_runs_1 ?_
  refine J_if_ne (tgt := 13) 4 dX1_runs_4 (by decide) (fun c_1_ => absurd c_1_ (by decide)) (fun _ => ?_)
  refine J_iload_n 7 3 dX1_runs_7 rfl rfl ?_
  refine J_bipush (v := 40) 8 dX1_runs_8 rfl ?_
  refine J_icmp_le (tgt := 15) 10 dX1_runs_10 (by decide) (fun c_2_ => ?_) (fun c_2_ => ?_)
  · skip
    have c_2_ : d ≤ 40 := (nI_leI (a := d) (b := 40) (by omega) (by omega)).mp c_2_
    refine J_aload_n 15 0 dX1_runs_15 rfl rfl ?_
    refine J_iload_n 16 1 dX1_runs_16 rfl rfl ?_
    refine kb_RX1_48 (bs' := [wDe a bo (ct + 1) 0 1 nu te, wI G bo 30 (upd f ct 12)]) (rest := []) (st' := []) 17 (c_X1_notes l G 12 a bo ct 0 1 nu te f (by omega)) [0, 1] 0 rfl rfl rfl [[a], [bo]] rfl rfl rfl rfl rfl rfl (Nat.le_of_ble_eq_true rfl) rfl dX1_runs_17 ?_
    refine J_iload_n 20 3 dX1_runs_20 rfl rfl ?_
    refine J_iconst (v := 1) 21 dX1_runs_21 rfl ?_
    refine J_iadd 22 dX1_runs_22 ?_
    refine J_topi (y := nI (d + 1)) 23 (nI_add d 1) ?_
    refine J_istore (lv' := [some (.ref a), some (.int 12), some (.int x), some (.int (nI d)), some (.int (nI (d + 1)))]) 23 dX1_runs_23 (by decide) rfl ?_
    refine J_iload_n 25 1 dX1_runs_25 rfl rfl ?_
    refine J_tableIn (tgt := 278) (off := 252) 26 12 dX1_runs_26 rfl (by decide +kernel) (by decide) ?_
    refine J_aload_n 278 0 dX1_runs_278 rfl rfl ?_
    refine J_iload_n 279 2 dX1_runs_279 rfl rfl ?_
    refine kb_RX1_56 (bs' := [wDe a bo (ct + 1) 0 1 nu te, wI G bo 30 (upd f ct 12)]) (rest := []) (st' := [.int (x / (te - nu))]) 280 (c_X1_quotient l G x a bo (ct + 1) 0 1 nu te (by omega)) [0] 0 rfl rfl rfl [[a]] rfl rfl rfl rfl rfl rfl (Nat.le_of_ble_eq_true rfl) rfl dX1_runs_280 ?_
    exact J_iret 283 dX1_runs_283 rfl (cg1 (fun (x0_ : Nat → Int32) => (wF [wDe a bo (ct + 1) 0 1 nu te, wI G bo 30 x0_])) (upd f ct 12) (pF [12] f ct) rfl)
  · skip
    have c_2_ : ¬ d ≤ 40 := fun z_ => c_2_ ((nI_leI (a := d) (b := 40) (by omega) (by omega)).mpr z_)
    omega
set_option maxRecDepth 100000 in
set_option maxHeartbeats 4000000 in
theorem c_runs_1_12z (l : Launch) (G : Gd) (x : Int32) (d : Nat) (a : Nat) (bo : Nat) (ct : Nat) (nu : Int32) (te : Int32) (f : Nat → Int32) (hd : d + 0 ≤ 40) (hc : ct + 1 ≤ 30) (hz : te - nu = 0) : Ct l G yX1_runs cX1_runs 5 (some (FieldType.int)) 1 [.ref a, .int 12, .int x, .int (nI d)] (wF [wDe a bo ct 0 1 nu te, wI G bo 30 f]) (some (.int 0)) (wF [wDe a bo (ct + 1) 1 1 nu te, wI G bo 30 (pF [12] f ct)]) := by
  refine Ct.of "GooseArms$Deed" [some (.ref a), some (.int 12), some (.int x), some (.int (nI d)), none] (by decide +kernel) rfl (Nat.le_of_ble_eq_true rfl) rfl ?_
  refine J_aload_n 0 0 dX1_runs_0 rfl rfl ?_
  refine g_178 (v := .int 0) 1 0 rfl rfl dX1_runs_1 ?_
  refine J_if_ne (tgt := 13) 4 dX1_runs_4 (by decide) (fun c_1_ => absurd c_1_ (by decide)) (fun _ => ?_)
  refine J_iload_n 7 3 dX1_runs_7 rfl rfl ?_
  refine J_bipush (v := 40) 8 dX1_runs_8 rfl ?_
  refine J_icmp_le (tgt := 15) 10 dX1_runs_10 (by decide) (fun c_2_ => ?_) (fun c_2_ => ?_)
  · skip
    have c_2_ : d ≤ 40 := (nI_leI (a := d) (b := 40) (by omega) (by omega)).mp c_2_
    refine J_aload_n 15 0 dX1_runs_15 rfl rfl ?_
    refine J_iload_n 16 1 dX1_runs_16 rfl rfl ?_
    refine kb_RX1_48 (bs' := [wDe a bo (ct + 1) 0 1 nu te, wI G bo 30 (upd f ct 12)]) (rest := []) (st' := []) 17 (c_X1_notes l G 12 a bo ct 0 1 nu te f (by omega)) [0, 1] 0 rfl rfl rfl [[a], [bo]] rfl rfl rfl rfl rfl rfl (Nat.le_of_ble_eq_true rfl) rfl dX1_runs_17 ?_
    refine J_iload_n 20 3 dX1_runs_20 rfl rfl ?_
    refine J_iconst (v := 1) 21 dX1_runs_21 rfl ?_
    refine J_iadd 22 dX1_runs_22 ?_
    refine J_topi (y := nI (d + 1)) 23 (nI_add d 1) ?_
    refine J_istore (lv' := [some (.ref a), some (.int 12), some (.int x), some (.int (nI d)), some (.int (nI (d + 1)))]) 23 dX1_runs_23 (by decide) rfl ?_
    refine J_iload_n 25 1 dX1_runs_25 rfl rfl ?_
    refine J_tableIn (tgt := 278) (off := 252) 26 12 dX1_runs_26 rfl (by decide +kernel) (by decide) ?_
    refine J_aload_n 278 0 dX1_runs_278 rfl rfl ?_
    refine J_iload_n 279 2 dX1_runs_279 rfl rfl ?_
    refine kb_RX1_56 (bs' := [wDe a bo (ct + 1) 1 1 nu te, wI G bo 30 (upd f ct 12)]) (rest := []) (st' := [.int 0]) 280 (c_X1_quotient_z l G x a bo (ct + 1) 0 1 nu te (by omega)) [0] 0 rfl rfl rfl [[a]] rfl rfl rfl rfl rfl rfl (Nat.le_of_ble_eq_true rfl) rfl dX1_runs_280 ?_
    exact J_iret 283 dX1_runs_283 rfl (cg1 (fun (x0_ : Nat → Int32) => (wF [wDe a bo (ct + 1) 1 1 nu te, wI G bo 30 x0_])) (upd f ct 12) (pF [12] f ct) rfl)
  · skip
    have c_2_ : ¬ d ≤ 40 := fun z_ => c_2_ ((nI_leI (a := d) (b := 40) (by omega) (by omega)).mpr z_)
    omega
set_option maxRecDepth 100000 in
set_option maxHeartbeats 4000000 in
theorem c_runs_1_13 (l : Launch) (G : Gd) (x : Int32) (d : Nat) (a : Nat) (bo : Nat) (ct : Nat) (nu : Int32) (te : Int32) (f : Nat → Int32) (hd : d + 3 ≤ 40) (hc : ct + 4 ≤ 30) : Ct l G yX1_runs cX1_runs 5 (some (FieldType.int)) 4 [.ref a, .int 13, .int x, .int (nI d)] (wF [wDe a bo ct 0 1 nu te, wI G bo 30 f]) (some (.int ((((x * 5 + nu) - te) * 2) ^^^ 150))) (wF [wDe a bo (ct + 4) 0 1 nu te, wI G bo 30 (pF [13, 20, 11, 10] f ct)]) := by
  refine Ct.of "GooseArms$Deed" [some (.ref a), some (.int 13), some (.int x), some (.int (nI d)), none] (by decide +kernel) rfl (Nat.le_of_ble_eq_true rfl) rfl ?_
  refine J_aload_n 0 0 dX1_runs_0 rfl rfl ?_
  refine g_178 (v := .int 0) 1 0 rfl rfl dX1_runs_1 ?_
  refine J_if_ne (tgt := 13) 4 dX1_runs_4 (by decide) (fun c_1_ => absurd c_1_ (by decide)) (fun _ => ?_)
  refine J_iload_n 7 3 dX1_runs_7 rfl rfl ?_
  refine J_bipush (v := 40) 8 dX1_runs_8 rfl ?_
  refine J_icmp_le (tgt := 15) 10 dX1_runs_10 (by decide) (fun c_2_ => ?_) (fun c_2_ => ?_)
  · skip
    have c_2_ : d ≤ 40 := (nI_leI (a := d) (b := 40) (by omega) (by omega)).mp c_2_
    refine J_aload_n 15 0 dX1_runs_15 rfl rfl ?_
    refine J_iload_n 16 1 dX1_runs_16 rfl rfl ?_
    refine kb_RX1_48 (bs' := [wDe a bo (ct + 1) 0 1 nu te, wI G bo 30 (upd f ct 13)]) (rest := []) (st' := []) 17 (c_X1_notes l G 13 a bo ct 0 1 nu te f (by omega)) [0, 1] 0 rfl rfl rfl [[a], [bo]] rfl rfl rfl rfl rfl rfl (Nat.le_of_ble_eq_true rfl) rfl dX1_runs_17 ?_
    refine J_iload_n 20 3 dX1_runs_20 rfl rfl ?_
    refine J_iconst (v := 1) 21 dX1_runs_21 rfl ?_
    refine J_iadd 22 dX1_runs_22 ?_
    refine J_topi (y := nI (d + 1)) 23 (nI_add d 1) ?_
    refine J_istore (lv' := [some (.ref a), some (.int 13), some (.int x), some (.int (nI d)), some (.int (nI (d + 1)))]) 23 dX1_runs_23 (by decide) rfl ?_
    refine J_iload_n 25 1 dX1_runs_25 rfl rfl ?_
    refine J_tableIn (tgt := 284) (off := 258) 26 13 dX1_runs_26 rfl (by decide +kernel) (by decide) ?_
    refine J_aload_n 284 0 dX1_runs_284 rfl rfl ?_
    refine J_gets (v := .ref (G.2.2 3)) 285 w_746 gz3 rfl dX1_runs_285 ?_
    refine J_aload_n 288 0 dX1_runs_288 rfl rfl ?_
    refine g_180 (v := .int 1) 289 0 rfl rfl dX1_runs_289 ?_
    refine J_stat (v := .int 20) 292 gt3 1 rfl (by omega) (by decide) rfl dX1_runs_292 ?_
    refine J_iload_n 293 2 dX1_runs_293 rfl rfl ?_
    refine J_iload 294 dX1_runs_294 rfl ?_
    refine kb_RX1_52 (bs' := [wDe a bo ((ct + 1) + 3) 0 1 nu te, wI G bo 30 (pF [20, 11, 10] (upd f ct 13) (ct + 1))]) (rest := []) (st' := [.int (((x * 5 + nu) - te) * 2)]) 296 (c_runs_1_20 l G x (d + 1) a bo (ct + 1) nu te (upd f ct 13) (by omega) (by omega)) [0, 1] rfl rfl [[a], [bo]] rfl rfl rfl rfl rfl rfl (Nat.le_of_ble_eq_true rfl) rfl dX1_runs_296 ?_
    refine J_sipush (v := 150) 299 dX1_runs_299 rfl ?_
    refine J_ixor 302 dX1_runs_302 ?_
    exact J_iret 303 dX1_runs_303 rfl (cg2 (fun (x0_ : Nat) (x1_ : Nat → Int32) => (wF [wDe a bo x0_ 0 1 nu te, wI G bo 30 x1_])) ((ct + 1) + 3) (ct + 4) (pF [20, 11, 10] (upd f ct 13) (ct + 1)) (pF [13, 20, 11, 10] f ct) rfl rfl)
  · skip
    have c_2_ : ¬ d ≤ 40 := fun z_ => c_2_ ((nI_leI (a := d) (b := 40) (by omega) (by omega)).mpr z_)
    omega
set_option maxRecDepth 100000 in
set_option maxHeartbeats 4000000 in
theorem c_runs_2_10 (l : Launch) (G : Gd) (x : Int32) (d : Nat) (a : Nat) (bo : Nat) (ct : Nat) (nu : Int32) (te : Int32) (f : Nat → Int32) (hd : d + 0 ≤ 40) (hc : ct + 1 ≤ 30) : Ct l G yX1_runs cX1_runs 5 (some (FieldType.int)) 1 [.ref a, .int 10, .int x, .int (nI d)] (wF [wDe a bo ct 0 2 nu te, wI G bo 30 f]) (some (.int (x * 5 + nu))) (wF [wDe a bo (ct + 1) 0 2 nu te, wI G bo 30 (pF [10] f ct)]) := by
  refine Ct.of "GooseArms$Deed" [some (.ref a), some (.int 10), some (.int x), some (.int (nI d)), none] (by decide +kernel) rfl (Nat.le_of_ble_eq_true rfl) rfl ?_
  refine J_aload_n 0 0 dX1_runs_0 rfl rfl ?_
  refine g_178 (v := .int 0) 1 0 rfl rfl dX1_runs_1 ?_
  refine J_if_ne (tgt := 13) 4 dX1_runs_4 (by decide) (fun c_1_ => absurd c_1_ (by decide)) (fun _ => ?_)
  refine J_iload_n 7 3 dX1_runs_7 rfl rfl ?_
  refine J_bipush (v := 40) 8 dX1_runs_8 rfl ?_
  refine J_icmp_le (tgt := 15) 10 dX1_runs_10 (by decide) (fun c_2_ => ?_) (fun c_2_ => ?_)
  · skip
    have c_2_ : d ≤ 40 := (nI_leI (a := d) (b := 40) (by omega) (by omega)).mp c_2_
    refine J_aload_n 15 0 dX1_runs_15 rfl rfl ?_
    refine J_iload_n 16 1 dX1_runs_16 rfl rfl ?_
    refine kb_RX1_48 (bs' := [wDe a bo (ct + 1) 0 2 nu te, wI G bo 30 (upd f ct 10)]) (rest := []) (st' := []) 17 (c_X1_notes l G 10 a bo ct 0 2 nu te f (by omega)) [0, 1] 0 rfl rfl rfl [[a], [bo]] rfl rfl rfl rfl rfl rfl (Nat.le_of_ble_eq_true rfl) rfl dX1_runs_17 ?_
    refine J_iload_n 20 3 dX1_runs_20 rfl rfl ?_
    refine J_iconst (v := 1) 21 dX1_runs_21 rfl ?_
    refine J_iadd 22 dX1_runs_22 ?_
    refine J_topi (y := nI (d + 1)) 23 (nI_add d 1) ?_
    refine J_istore (lv' := [some (.ref a), some (.int 10), some (.int x), some (.int (nI d)), some (.int (nI (d + 1)))]) 23 dX1_runs_23 (by decide) rfl ?_
    refine J_iload_n 25 1 dX1_runs_25 rfl rfl ?_
    refine J_tableIn (tgt := 248) (off := 222) 26 10 dX1_runs_26 rfl (by decide +kernel) (by decide) ?_
    refine J_iload_n 248 2 dX1_runs_248 rfl rfl ?_
    refine J_iconst (v := 5) 249 dX1_runs_249 rfl ?_
    refine J_imul 250 dX1_runs_250 ?_
    refine J_aload_n 251 0 dX1_runs_251 rfl rfl ?_
    refine g_181 (v := .int nu) 252 0 rfl rfl dX1_runs_252 ?_
    refine J_iadd 255 dX1_runs_255 ?_
    exact J_iret 256 dX1_runs_256 (congrArg (fun x_ => some (Value.int x_)) rfl) (cg1 (fun (x0_ : Nat → Int32) => (wF [wDe a bo (ct + 1) 0 2 nu te, wI G bo 30 x0_])) (upd f ct 10) (pF [10] f ct) rfl)
  · skip
    have c_2_ : ¬ d ≤ 40 := fun z_ => c_2_ ((nI_leI (a := d) (b := 40) (by omega) (by omega)).mpr z_)
    omega
set_option maxRecDepth 100000 in
set_option maxHeartbeats 4000000 in
theorem c_runs_2_30 (l : Launch) (G : Gd) (x : Int32) (d : Nat) (a : Nat) (bo : Nat) (ct : Nat) (nu : Int32) (te : Int32) (f : Nat → Int32) (hd : d + 1 ≤ 40) (hc : ct + 2 ≤ 30) : Ct l G yX1_runs cX1_runs 5 (some (FieldType.int)) 2 [.ref a, .int 30, .int x, .int (nI d)] (wF [wDe a bo ct 0 2 nu te, wI G bo 30 f]) (some (.int ((x * 5 + nu) - 4))) (wF [wDe a bo (ct + 2) 0 2 nu te, wI G bo 30 (pF [30, 10] f ct)]) := by
  refine Ct.of "GooseArms$Deed" [some (.ref a), some (.int 30), some (.int x), some (.int (nI d)), none] (by decide +kernel) rfl (Nat.le_of_ble_eq_true rfl) rfl ?_
  refine J_aload_n 0 0 dX1_runs_0 rfl rfl ?_
  refine g_178 (v := .int 0) 1 0 rfl rfl dX1_runs_1 ?_
  refine J_if_ne (tgt := 13) 4 dX1_runs_4 (by decide) (fun c_1_ => absurd c_1_ (by decide)) (fun _ => ?_)
  refine J_iload_n 7 3 dX1_runs_7 rfl rfl ?_
  refine J_bipush (v := 40) 8 dX1_runs_8 rfl ?_
  refine J_icmp_le (tgt := 15) 10 dX1_runs_10 (by decide) (fun c_2_ => ?_) (fun c_2_ => ?_)
  · skip
    have c_2_ : d ≤ 40 := (nI_leI (a := d) (b := 40) (by omega) (by omega)).mp c_2_
    refine J_aload_n 15 0 dX1_runs_15 rfl rfl ?_
    refine J_iload_n 16 1 dX1_runs_16 rfl rfl ?_
    refine kb_RX1_48 (bs' := [wDe a bo (ct + 1) 0 2 nu te, wI G bo 30 (upd f ct 30)]) (rest := []) (st' := []) 17 (c_X1_notes l G 30 a bo ct 0 2 nu te f (by omega)) [0, 1] 0 rfl rfl rfl [[a], [bo]] rfl rfl rfl rfl rfl rfl (Nat.le_of_ble_eq_true rfl) rfl dX1_runs_17 ?_
    refine J_iload_n 20 3 dX1_runs_20 rfl rfl ?_
    refine J_iconst (v := 1) 21 dX1_runs_21 rfl ?_
    refine J_iadd 22 dX1_runs_22 ?_
    refine J_topi (y := nI (d + 1)) 23 (nI_add d 1) ?_
    refine J_istore (lv' := [some (.ref a), some (.int 30), some (.int x), some (.int (nI d)), some (.int (nI (d + 1)))]) 23 dX1_runs_23 (by decide) rfl ?_
    refine J_iload_n 25 1 dX1_runs_25 rfl rfl ?_
    refine J_tableIn (tgt := 316) (off := 290) 26 30 dX1_runs_26 rfl (by decide +kernel) (by decide) ?_
    refine J_aload_n 316 0 dX1_runs_316 rfl rfl ?_
    refine J_bipush (v := 10) 317 dX1_runs_317 rfl ?_
    refine J_iload_n 319 2 dX1_runs_319 rfl rfl ?_
    refine J_iload 320 dX1_runs_320 rfl ?_
    refine kb_RX1_52 (bs' := [wDe a bo ((ct + 1) + 1) 0 2 nu te, wI G bo 30 (pF [10] (upd f ct 30) (ct + 1))]) (rest := []) (st' := [.int (x * 5 + nu)]) 322 (c_runs_2_10 l G x (d + 1) a bo (ct + 1) nu te (upd f ct 30) (by omega) (by omega)) [0, 1] rfl rfl [[a], [bo]] rfl rfl rfl rfl rfl rfl (Nat.le_of_ble_eq_true rfl) rfl dX1_runs_322 ?_
    refine J_iconst (v := 4) 325 dX1_runs_325 rfl ?_
    refine J_isub 326 dX1_runs_326 ?_
    exact J_iret 327 dX1_runs_327 rfl (cg2 (fun (x0_ : Nat) (x1_ : Nat → Int32) => (wF [wDe a bo x0_ 0 2 nu te, wI G bo 30 x1_])) ((ct + 1) + 1) (ct + 2) (pF [10] (upd f ct 30) (ct + 1)) (pF [30, 10] f ct) rfl rfl)
  · skip
    have c_2_ : ¬ d ≤ 40 := fun z_ => c_2_ ((nI_leI (a := d) (b := 40) (by omega) (by omega)).mpr z_)
    omega
set_option maxRecDepth 100000 in
set_option maxHeartbeats 4000000 in
theorem c_runs_2_11 (l : Launch) (G : Gd) (x : Int32) (d : Nat) (a : Nat) (bo : Nat) (ct : Nat) (nu : Int32) (te : Int32) (f : Nat → Int32) (hd : d + 2 ≤ 40) (hc : ct + 3 ≤ 30) : Ct l G yX1_runs cX1_runs 5 (some (FieldType.int)) 3 [.ref a, .int 11, .int x, .int (nI d)] (wF [wDe a bo ct 0 2 nu te, wI G bo 30 f]) (some (.int (((x * 5 + nu) - 4) - te))) (wF [wDe a bo (ct + 3) 0 2 nu te, wI G bo 30 (pF [11, 30, 10] f ct)]) := by
  refine Ct.of "GooseArms$Deed" [some (.ref a), some (.int 11), some (.int x), some (.int (nI d)), none] (by decide +kernel) rfl (Nat.le_of_ble_eq_true rfl) rfl ?_
  refine J_aload_n 0 0 dX1_runs_0 rfl rfl ?_
  refine g_178 (v := .int 0) 1 0 rfl rfl dX1_runs_1 ?_
  refine J_if_ne (tgt := 13) 4 dX1_runs_4 (by decide) (fun c_1_ => absurd c_1_ (by decide)) (fun _ => ?_)
  refine J_iload_n 7 3 dX1_runs_7 rfl rfl ?_
  refine J_bipush (v := 40) 8 dX1_runs_8 rfl ?_
  refine J_icmp_le (tgt := 15) 10 dX1_runs_10 (by decide) (fun c_2_ => ?_) (fun c_2_ => ?_)
  · skip
    have c_2_ : d ≤ 40 := (nI_leI (a := d) (b := 40) (by omega) (by omega)).mp c_2_
    refine J_aload_n 15 0 dX1_runs_15 rfl rfl ?_
    refine J_iload_n 16 1 dX1_runs_16 rfl rfl ?_
    refine kb_RX1_48 (bs' := [wDe a bo (ct + 1) 0 2 nu te, wI G bo 30 (upd f ct 11)]) (rest := []) (st' := []) 17 (c_X1_notes l G 11 a bo ct 0 2 nu te f (by omega)) [0, 1] 0 rfl rfl rfl [[a], [bo]] rfl rfl rfl rfl rfl rfl (Nat.le_of_ble_eq_true rfl) rfl dX1_runs_17 ?_
    refine J_iload_n 20 3 dX1_runs_20 rfl rfl ?_
    refine J_iconst (v := 1) 21 dX1_runs_21 rfl ?_
    refine J_iadd 22 dX1_runs_22 ?_
    refine J_topi (y := nI (d + 1)) 23 (nI_add d 1) ?_
    refine J_istore (lv' := [some (.ref a), some (.int 11), some (.int x), some (.int (nI d)), some (.int (nI (d + 1)))]) 23 dX1_runs_23 (by decide) rfl ?_
    refine J_iload_n 25 1 dX1_runs_25 rfl rfl ?_
    refine J_tableIn (tgt := 257) (off := 231) 26 11 dX1_runs_26 rfl (by decide +kernel) (by decide) ?_
    refine J_aload_n 257 0 dX1_runs_257 rfl rfl ?_
    refine J_gets (v := .ref (G.2.2 2)) 258 w_744 gz2 rfl dX1_runs_258 ?_
    refine J_aload_n 261 0 dX1_runs_261 rfl rfl ?_
    refine g_180 (v := .int 2) 262 0 rfl rfl dX1_runs_262 ?_
    refine J_stat (v := .int 30) 265 gt2 2 rfl (by omega) (by decide) rfl dX1_runs_265 ?_
    refine J_iload_n 266 2 dX1_runs_266 rfl rfl ?_
    refine J_iload 267 dX1_runs_267 rfl ?_
    refine kb_RX1_52 (bs' := [wDe a bo ((ct + 1) + 2) 0 2 nu te, wI G bo 30 (pF [30, 10] (upd f ct 11) (ct + 1))]) (rest := []) (st' := [.int ((x * 5 + nu) - 4)]) 269 (c_runs_2_30 l G x (d + 1) a bo (ct + 1) nu te (upd f ct 11) (by omega) (by omega)) [0, 1] rfl rfl [[a], [bo]] rfl rfl rfl rfl rfl rfl (Nat.le_of_ble_eq_true rfl) rfl dX1_runs_269 ?_
    refine J_aload_n 272 0 dX1_runs_272 rfl rfl ?_
    refine g_182 (v := .int te) 273 0 rfl rfl dX1_runs_273 ?_
    refine J_isub 276 dX1_runs_276 ?_
    exact J_iret 277 dX1_runs_277 rfl (cg2 (fun (x0_ : Nat) (x1_ : Nat → Int32) => (wF [wDe a bo x0_ 0 2 nu te, wI G bo 30 x1_])) ((ct + 1) + 2) (ct + 3) (pF [30, 10] (upd f ct 11) (ct + 1)) (pF [11, 30, 10] f ct) rfl rfl)
  · skip
    have c_2_ : ¬ d ≤ 40 := fun z_ => c_2_ ((nI_leI (a := d) (b := 40) (by omega) (by omega)).mpr z_)
    omega
set_option maxRecDepth 100000 in
set_option maxHeartbeats 4000000 in
theorem c_runs_2_12 (l : Launch) (G : Gd) (x : Int32) (d : Nat) (a : Nat) (bo : Nat) (ct : Nat) (nu : Int32) (te : Int32) (f : Nat → Int32) (hd : d + 0 ≤ 40) (hc : ct + 1 ≤ 30) (hz : ¬ te - nu = 0) : Ct l G yX1_runs cX1_runs 5 (some (FieldType.int)) 1 [.ref a, .int 12, .int x, .int (nI d)] (wF [wDe a bo ct 0 2 nu te, wI G bo 30 f]) (some (.int (x / (te - nu)))) (wF [wDe a bo (ct + 1) 0 2 nu te, wI G bo 30 (pF [12] f ct)]) := by
  refine Ct.of "GooseArms$Deed" [some (.ref a), some (.int 12), some (.int x), some (.int (nI d)), none] (by decide +kernel) rfl (Nat.le_of_ble_eq_true rfl) rfl ?_
  refine J_aload_n 0 0 dX1_runs_0 rfl rfl ?_
  refine g_178 (v := .int 0) 1 0 rfl rfl dX1_runs_1 ?_
  refine J_if_ne (tgt := 13) 4 dX1_runs_4 (by decide) (fun c_1_ => absurd c_1_ (by decide)) (fun _ => ?_)
  refine J_iload_n 7 3 dX1_runs_7 rfl rfl ?_
  refine J_bipush (v := 40) 8 dX1_runs_8 rfl ?_
  refine J_icmp_le (tgt := 15) 10 dX1_runs_10 (by decide) (fun c_2_ => ?_) (fun c_2_ => ?_)
  · skip
    have c_2_ : d ≤ 40 := (nI_leI (a := d) (b := 40) (by omega) (by omega)).mp c_2_
    refine J_aload_n 15 0 dX1_runs_15 rfl rfl ?_
    refine J_iload_n 16 1 dX1_runs_16 rfl rfl ?_
    refine kb_RX1_48 (bs' := [wDe a bo (ct + 1) 0 2 nu te, wI G bo 30 (upd f ct 12)]) (rest := []) (st' := []) 17 (c_X1_notes l G 12 a bo ct 0 2 nu te f (by omega)) [0, 1] 0 rfl rfl rfl [[a], [bo]] rfl rfl rfl rfl rfl rfl (Nat.le_of_ble_eq_true rfl) rfl dX1_runs_17 ?_
    refine J_iload_n 20 3 dX1_runs_20 rfl rfl ?_
    refine J_iconst (v := 1) 21 dX1_runs_21 rfl ?_
    refine J_iadd 22 dX1_runs_22 ?_
    refine J_topi (y := nI (d + 1)) 23 (nI_add d 1) ?_
    refine J_istore (lv' := [some (.ref a), some (.int 12), some (.int x), some (.int (nI d)), some (.int (nI (d + 1)))]) 23 dX1_runs_23 (by decide) rfl ?_
    refine J_iload_n 25 1 dX1_runs_25 rfl rfl ?_
    refine J_tableIn (tgt := 278) (off := 252) 26 12 dX1_runs_26 rfl (by decide +kernel) (by decide) ?_
    refine J_aload_n 278 0 dX1_runs_278 rfl rfl ?_
    refine J_iload_n 279 2 dX1_runs_279 rfl rfl ?_
    refine kb_RX1_56 (bs' := [wDe a bo (ct + 1) 0 2 nu te, wI G bo 30 (upd f ct 12)]) (rest := []) (st' := [.int (x / (te - nu))]) 280 (c_X1_quotient l G x a bo (ct + 1) 0 2 nu te (by omega)) [0] 0 rfl rfl rfl [[a]] rfl rfl rfl rfl rfl rfl (Nat.le_of_ble_eq_true rfl) rfl dX1_runs_280 ?_
    exact J_iret 283 dX1_runs_283 rfl (cg1 (fun (x0_ : Nat → Int32) => (wF [wDe a bo (ct + 1) 0 2 nu te, wI G bo 30 x0_])) (upd f ct 12) (pF [12] f ct) rfl)
  · skip
    have c_2_ : ¬ d ≤ 40 := fun z_ => c_2_ ((nI_leI (a := d) (b := 40) (by omega) (by omega)).mpr z_)
    omega
set_option maxRecDepth 100000 in
set_option maxHeartbeats 4000000 in
theorem c_runs_2_12z (l : Launch) (G : Gd) (x : Int32) (d : Nat) (a : Nat) (bo : Nat) (ct : Nat) (nu : Int32) (te : Int32) (f : Nat → Int32) (hd : d + 0 ≤ 40) (hc : ct + 1 ≤ 30) (hz : te - nu = 0) : Ct l G yX1_runs cX1_runs 5 (some (FieldType.int)) 1 [.ref a, .int 12, .int x, .int (nI d)] (wF [wDe a bo ct 0 2 nu te, wI G bo 30 f]) (some (.int 0)) (wF [wDe a bo (ct + 1) 1 2 nu te, wI G bo 30 (pF [12] f ct)]) := by
  refine Ct.of "GooseArms$Deed" [some (.ref a), some (.int 12), some (.int x), some (.int (nI d)), none] (by decide +kernel) rfl (Nat.le_of_ble_eq_true rfl) rfl ?_
  refine J_aload_n 0 0 dX1_runs_0 rfl rfl ?_
  refine g_178 (v := .int 0) 1 0 rfl rfl dX1_runs_1 ?_
  refine J_if_ne (tgt := 13) 4 dX1_runs_4 (by decide) (fun c_1_ => absurd c_1_ (by decide)) (fun _ => ?_)
  refine J_iload_n 7 3 dX1_runs_7 rfl rfl ?_
  refine J_bipush (v := 40) 8 dX1_runs_8 rfl ?_
  refine J_icmp_le (tgt := 15) 10 dX1_runs_10 (by decide) (fun c_2_ => ?_) (fun c_2_ => ?_)
  · skip
    have c_2_ : d ≤ 40 := (nI_leI (a := d) (b := 40) (by omega) (by omega)).mp c_2_
    refine J_aload_n 15 0 dX1_runs_15 rfl rfl ?_
    refine J_iload_n 16 1 dX1_runs_16 rfl rfl ?_
    refine kb_RX1_48 (bs' := [wDe a bo (ct + 1) 0 2 nu te, wI G bo 30 (upd f ct 12)]) (rest := []) (st' := []) 17 (c_X1_notes l G 12 a bo ct 0 2 nu te f (by omega)) [0, 1] 0 rfl rfl rfl [[a], [bo]] rfl rfl rfl rfl rfl rfl (Nat.le_of_ble_eq_true rfl) rfl dX1_runs_17 ?_
    refine J_iload_n 20 3 dX1_runs_20 rfl rfl ?_
    refine J_iconst (v := 1) 21 dX1_runs_21 rfl ?_
    refine J_iadd 22 dX1_runs_22 ?_
    refine J_topi (y := nI (d + 1)) 23 (nI_add d 1) ?_
    refine J_istore (lv' := [some (.ref a), some (.int 12), some (.int x), some (.int (nI d)), some (.int (nI (d + 1)))]) 23 dX1_runs_23 (by decide) rfl ?_
    refine J_iload_n 25 1 dX1_runs_25 rfl rfl ?_
    refine J_tableIn (tgt := 278) (off := 252) 26 12 dX1_runs_26 rfl (by decide +kernel) (by decide) ?_
    refine J_aload_n 278 0 dX1_runs_278 rfl rfl ?_
    refine J_iload_n 279 2 dX1_runs_279 rfl rfl ?_
    refine kb_RX1_56 (bs' := [wDe a bo (ct + 1) 1 2 nu te, wI G bo 30 (upd f ct 12)]) (rest := []) (st' := [.int 0]) 280 (c_X1_quotient_z l G x a bo (ct + 1) 0 2 nu te (by omega)) [0] 0 rfl rfl rfl [[a]] rfl rfl rfl rfl rfl rfl (Nat.le_of_ble_eq_true rfl) rfl dX1_runs_280 ?_
    exact J_iret 283 dX1_runs_283 rfl (cg1 (fun (x0_ : Nat → Int32) => (wF [wDe a bo (ct + 1) 1 2 nu te, wI G bo 30 x0_])) (upd f ct 12) (pF [12] f ct) rfl)
  · skip
    have c_2_ : ¬ d ≤ 40 := fun z_ => c_2_ ((nI_leI (a := d) (b := 40) (by omega) (by omega)).mpr z_)
    omega
set_option maxRecDepth 100000 in
set_option maxHeartbeats 4000000 in
theorem c_runs_2_13 (l : Launch) (G : Gd) (x : Int32) (d : Nat) (a : Nat) (bo : Nat) (ct : Nat) (nu : Int32) (te : Int32) (f : Nat → Int32) (hd : d + 3 ≤ 40) (hc : ct + 4 ≤ 30) : Ct l G yX1_runs cX1_runs 5 (some (FieldType.int)) 4 [.ref a, .int 13, .int x, .int (nI d)] (wF [wDe a bo ct 0 2 nu te, wI G bo 30 f]) (some (.int ((((x * 5 + nu) - 4) - te) ^^^ 150))) (wF [wDe a bo (ct + 4) 0 2 nu te, wI G bo 30 (pF [13, 11, 30, 10] f ct)]) := by
  refine Ct.of "GooseArms$Deed" [some (.ref a), some (.int 13), some (.int x), some (.int (nI d)), none] (by decide +kernel) rfl (Nat.le_of_ble_eq_true rfl) rfl ?_
  refine J_aload_n 0 0 dX1_runs_0 rfl rfl ?_
  refine g_178 (v := .int 0) 1 0 rfl rfl dX1_runs_1 ?_
  refine J_if_ne (tgt := 13) 4 dX1_runs_4 (by decide) (fun c_1_ => absurd c_1_ (by decide)) (fun _ => ?_)
  refine J_iload_n 7 3 dX1_runs_7 rfl rfl ?_
  refine J_bipush (v := 40) 8 dX1_runs_8 rfl ?_
  refine J_icmp_le (tgt := 15) 10 dX1_runs_10 (by decide) (fun c_2_ => ?_) (fun c_2_ => ?_)
  · skip
    have c_2_ : d ≤ 40 := (nI_leI (a := d) (b := 40) (by omega) (by omega)).mp c_2_
    refine J_aload_n 15 0 dX1_runs_15 rfl rfl ?_
    refine J_iload_n 16 1 dX1_runs_16 rfl rfl ?_
    refine kb_RX1_48 (bs' := [wDe a bo (ct + 1) 0 2 nu te, wI G bo 30 (upd f ct 13)]) (rest := []) (st' := []) 17 (c_X1_notes l G 13 a bo ct 0 2 nu te f (by omega)) [0, 1] 0 rfl rfl rfl [[a], [bo]] rfl rfl rfl rfl rfl rfl (Nat.le_of_ble_eq_true rfl) rfl dX1_runs_17 ?_
    refine J_iload_n 20 3 dX1_runs_20 rfl rfl ?_
    refine J_iconst (v := 1) 21 dX1_runs_21 rfl ?_
    refine J_iadd 22 dX1_runs_22 ?_
    refine J_topi (y := nI (d + 1)) 23 (nI_add d 1) ?_
    refine J_istore (lv' := [some (.ref a), some (.int 13), some (.int x), some (.int (nI d)), some (.int (nI (d + 1)))]) 23 dX1_runs_23 (by decide) rfl ?_
    refine J_iload_n 25 1 dX1_runs_25 rfl rfl ?_
    refine J_tableIn (tgt := 284) (off := 258) 26 13 dX1_runs_26 rfl (by decide +kernel) (by decide) ?_
    refine J_aload_n 284 0 dX1_runs_284 rfl rfl ?_
    refine J_gets (v := .ref (G.2.2 3)) 285 w_746 gz3 rfl dX1_runs_285 ?_
    refine J_aload_n 288 0 dX1_runs_288 rfl rfl ?_
    refine g_180 (v := .int 2) 289 0 rfl rfl dX1_runs_289 ?_
    refine J_stat (v := .int 11) 292 gt3 2 rfl (by omega) (by decide) rfl dX1_runs_292 ?_
    refine J_iload_n 293 2 dX1_runs_293 rfl rfl ?_
    refine J_iload 294 dX1_runs_294 rfl ?_
    refine kb_RX1_52 (bs' := [wDe a bo ((ct + 1) + 3) 0 2 nu te, wI G bo 30 (pF [11, 30, 10] (upd f ct 13) (ct + 1))]) (rest := []) (st' := [.int (((x * 5 + nu) - 4) - te)]) 296 (c_runs_2_11 l G x (d + 1) a bo (ct + 1) nu te (upd f ct 13) (by omega) (by omega)) [0, 1] rfl rfl [[a], [bo]] rfl rfl rfl rfl rfl rfl (Nat.le_of_ble_eq_true rfl) rfl dX1_runs_296 ?_
    refine J_sipush (v := 150) 299 dX1_runs_299 rfl ?_
    refine J_ixor 302 dX1_runs_302 ?_
    exact J_iret 303 dX1_runs_303 rfl (cg2 (fun (x0_ : Nat) (x1_ : Nat → Int32) => (wF [wDe a bo x0_ 0 2 nu te, wI G bo 30 x1_])) ((ct + 1) + 3) (ct + 4) (pF [11, 30, 10] (upd f ct 13) (ct + 1)) (pF [13, 11, 30, 10] f ct) rfl rfl)
  · skip
    have c_2_ : ¬ d ≤ 40 := fun z_ => c_2_ ((nI_leI (a := d) (b := 40) (by omega) (by omega)).mpr z_)
    omega
set_option maxRecDepth 100000 in
set_option maxHeartbeats 4000000 in
theorem c_runs_2_31 (l : Launch) (G : Gd) (x : Int32) (d : Nat) (a : Nat) (bo : Nat) (ct : Nat) (nu : Int32) (te : Int32) (f : Nat → Int32) (hd : d + 4 ≤ 40) (hc : ct + 6 ≤ 30) (hz : ¬ te - nu = 0) : Ct l G yX1_runs cX1_runs 5 (some (FieldType.int)) 5 [.ref a, .int 31, .int x, .int (nI d)] (wF [wDe a bo ct 0 2 nu te, wI G bo 30 f]) (some (.int (((((x * 5 + nu) - 4) - te) ^^^ 150) + (nu / (te - nu))))) (wF [wDe a bo (ct + 6) 0 2 nu te, wI G bo 30 (pF [31, 13, 11, 30, 10, 12] f ct)]) := by
  refine Ct.of "GooseArms$Deed" [some (.ref a), some (.int 31), some (.int x), some (.int (nI d)), none] (by decide +kernel) rfl (Nat.le_of_ble_eq_true rfl) rfl ?_
  refine J_aload_n 0 0 dX1_runs_0 rfl rfl ?_
  refine g_178 (v := .int 0) 1 0 rfl rfl dX1_runs_1 ?_
  refine J_if_ne (tgt := 13) 4 dX1_runs_4 (by decide) (fun c_1_ => absurd c_1_ (by decide)) (fun _ => ?_)
  refine J_iload_n 7 3 dX1_runs_7 rfl rfl ?_
  refine J_bipush (v := 40) 8 dX1_runs_8 rfl ?_
  refine J_icmp_le (tgt := 15) 10 dX1_runs_10 (by decide) (fun c_2_ => ?_) (fun c_2_ => ?_)
  · skip
    have c_2_ : d ≤ 40 := (nI_leI (a := d) (b := 40) (by omega) (by omega)).mp c_2_
    refine J_aload_n 15 0 dX1_runs_15 rfl rfl ?_
    refine J_iload_n 16 1 dX1_runs_16 rfl rfl ?_
    refine kb_RX1_48 (bs' := [wDe a bo (ct + 1) 0 2 nu te, wI G bo 30 (upd f ct 31)]) (rest := []) (st' := []) 17 (c_X1_notes l G 31 a bo ct 0 2 nu te f (by omega)) [0, 1] 0 rfl rfl rfl [[a], [bo]] rfl rfl rfl rfl rfl rfl (Nat.le_of_ble_eq_true rfl) rfl dX1_runs_17 ?_
    refine J_iload_n 20 3 dX1_runs_20 rfl rfl ?_
    refine J_iconst (v := 1) 21 dX1_runs_21 rfl ?_
    refine J_iadd 22 dX1_runs_22 ?_
    refine J_topi (y := nI (d + 1)) 23 (nI_add d 1) ?_
    refine J_istore (lv' := [some (.ref a), some (.int 31), some (.int x), some (.int (nI d)), some (.int (nI (d + 1)))]) 23 dX1_runs_23 (by decide) rfl ?_
    refine J_iload_n 25 1 dX1_runs_25 rfl rfl ?_
    refine J_tableIn (tgt := 328) (off := 302) 26 31 dX1_runs_26 rfl (by decide +kernel) (by decide) ?_
    refine J_aload_n 328 0 dX1_runs_328 rfl rfl ?_
    refine J_bipush (v := 13) 329 dX1_runs_329 rfl ?_
    refine J_iload_n 331 2 dX1_runs_331 rfl rfl ?_
    refine J_iload 332 dX1_runs_332 rfl ?_
    refine kb_RX1_52 (bs' := [wDe a bo ((ct + 1) + 4) 0 2 nu te, wI G bo 30 (pF [13, 11, 30, 10] (upd f ct 31) (ct + 1))]) (rest := []) (st' := [.int ((((x * 5 + nu) - 4) - te) ^^^ 150)]) 334 (c_runs_2_13 l G x (d + 1) a bo (ct + 1) nu te (upd f ct 31) (by omega) (by omega)) [0, 1] rfl rfl [[a], [bo]] rfl rfl rfl rfl rfl rfl (Nat.le_of_ble_eq_true rfl) rfl dX1_runs_334 ?_
    refine J_aload_n 337 0 dX1_runs_337 rfl rfl ?_
    refine J_gets (v := .ref (G.2.2 4)) 338 w_748 gz4 rfl dX1_runs_338 ?_
    refine J_aload_n 341 0 dX1_runs_341 rfl rfl ?_
    refine g_180 (v := .int 2) 342 0 rfl rfl dX1_runs_342 ?_
    refine J_stat (v := .int 12) 345 gt4 2 rfl (by omega) (by decide) rfl dX1_runs_345 ?_
    refine J_aload_n 346 0 dX1_runs_346 rfl rfl ?_
    refine g_181 (v := .int nu) 347 0 rfl rfl dX1_runs_347 ?_
    refine J_iload 350 dX1_runs_350 rfl ?_
    refine kb_RX1_52 (bs' := [wDe a bo (((ct + 1) + 4) + 1) 0 2 nu te, wI G bo 30 (pF [12] (pF [13, 11, 30, 10] (upd f ct 31) (ct + 1)) ((ct + 1) + 4))]) (rest := [.int ((((x * 5 + nu) - 4) - te) ^^^ 150)]) (st' := [.int (nu / (te - nu)), .int ((((x * 5 + nu) - 4) - te) ^^^ 150)]) 352 (c_runs_2_12 l G nu (d + 1) a bo ((ct + 1) + 4) nu te (pF [13, 11, 30, 10] (upd f ct 31) (ct + 1)) (by omega) (by omega) (by omega)) [0, 1] rfl rfl [[a], [bo]] rfl rfl rfl rfl rfl rfl (Nat.le_of_ble_eq_true rfl) rfl dX1_runs_352 ?_
    refine J_iadd 355 dX1_runs_355 ?_
    exact J_iret 356 dX1_runs_356 rfl (cg2 (fun (x0_ : Nat) (x1_ : Nat → Int32) => (wF [wDe a bo x0_ 0 2 nu te, wI G bo 30 x1_])) (((ct + 1) + 4) + 1) (ct + 6) (pF [12] (pF [13, 11, 30, 10] (upd f ct 31) (ct + 1)) ((ct + 1) + 4)) (pF [31, 13, 11, 30, 10, 12] f ct) rfl rfl)
  · skip
    have c_2_ : ¬ d ≤ 40 := fun z_ => c_2_ ((nI_leI (a := d) (b := 40) (by omega) (by omega)).mpr z_)
    omega
set_option maxRecDepth 100000 in
set_option maxHeartbeats 4000000 in
theorem c_runs_2_31z (l : Launch) (G : Gd) (x : Int32) (d : Nat) (a : Nat) (bo : Nat) (ct : Nat) (nu : Int32) (te : Int32) (f : Nat → Int32) (hd : d + 4 ≤ 40) (hc : ct + 6 ≤ 30) (hz : te - nu = 0) : Ct l G yX1_runs cX1_runs 5 (some (FieldType.int)) 5 [.ref a, .int 31, .int x, .int (nI d)] (wF [wDe a bo ct 0 2 nu te, wI G bo 30 f]) (some (.int (((((x * 5 + nu) - 4) - te) ^^^ 150) + 0))) (wF [wDe a bo (ct + 6) 1 2 nu te, wI G bo 30 (pF [31, 13, 11, 30, 10, 12] f ct)]) := by
  refine Ct.of "GooseArms$Deed" [some (.ref a), some (.int 31), some (.int x), some (.int (nI d)), none] (by decide +kernel) rfl (Nat.le_of_ble_eq_true rfl) rfl ?_
  refine J_aload_n 0 0 dX1_runs_0 rfl rfl ?_
  refine g_178 (v := .int 0) 1 0 rfl rfl dX1_runs_1 ?_
  refine J_if_ne (tgt := 13) 4 dX1_runs_4 (by decide) (fun c_1_ => absurd c_1_ (by decide)) (fun _ => ?_)
  refine J_iload_n 7 3 dX1_runs_7 rfl rfl ?_
  refine J_bipush (v := 40) 8 dX1_runs_8 rfl ?_
  refine J_icmp_le (tgt := 15) 10 dX1_runs_10 (by decide) (fun c_2_ => ?_) (fun c_2_ => ?_)
  · skip
    have c_2_ : d ≤ 40 := (nI_leI (a := d) (b := 40) (by omega) (by omega)).mp c_2_
    refine J_aload_n 15 0 dX1_runs_15 rfl rfl ?_
    refine J_iload_n 16 1 dX1_runs_16 rfl rfl ?_
    refine kb_RX1_48 (bs' := [wDe a bo (ct + 1) 0 2 nu te, wI G bo 30 (upd f ct 31)]) (rest := []) (st' := []) 17 (c_X1_notes l G 31 a bo ct 0 2 nu te f (by omega)) [0, 1] 0 rfl rfl rfl [[a], [bo]] rfl rfl rfl rfl rfl rfl (Nat.le_of_ble_eq_true rfl) rfl dX1_runs_17 ?_
    refine J_iload_n 20 3 dX1_runs_20 rfl rfl ?_
    refine J_iconst (v := 1) 21 dX1_runs_21 rfl ?_
    refine J_iadd 22 dX1_runs_22 ?_
    refine J_topi (y := nI (d + 1)) 23 (nI_add d 1) ?_
    refine J_istore (lv' := [some (.ref a), some (.int 31), some (.int x), some (.int (nI d)), some (.int (nI (d + 1)))]) 23 dX1_runs_23 (by decide) rfl ?_
    refine J_iload_n 25 1 dX1_runs_25 rfl rfl ?_
    refine J_tableIn (tgt := 328) (off := 302) 26 31 dX1_runs_26 rfl (by decide +kernel) (by decide) ?_
    refine J_aload_n 328 0 dX1_runs_328 rfl rfl ?_
    refine J_bipush (v := 13) 329 dX1_runs_329 rfl ?_
    refine J_iload_n 331 2 dX1_runs_331 rfl rfl ?_
    refine J_iload 332 dX1_runs_332 rfl ?_
    refine kb_RX1_52 (bs' := [wDe a bo ((ct + 1) + 4) 0 2 nu te, wI G bo 30 (pF [13, 11, 30, 10] (upd f ct 31) (ct + 1))]) (rest := []) (st' := [.int ((((x * 5 + nu) - 4) - te) ^^^ 150)]) 334 (c_runs_2_13 l G x (d + 1) a bo (ct + 1) nu te (upd f ct 31) (by omega) (by omega)) [0, 1] rfl rfl [[a], [bo]] rfl rfl rfl rfl rfl rfl (Nat.le_of_ble_eq_true rfl) rfl dX1_runs_334 ?_
    refine J_aload_n 337 0 dX1_runs_337 rfl rfl ?_
    refine J_gets (v := .ref (G.2.2 4)) 338 w_748 gz4 rfl dX1_runs_338 ?_
    refine J_aload_n 341 0 dX1_runs_341 rfl rfl ?_
    refine g_180 (v := .int 2) 342 0 rfl rfl dX1_runs_342 ?_
    refine J_stat (v := .int 12) 345 gt4 2 rfl (by omega) (by decide) rfl dX1_runs_345 ?_
    refine J_aload_n 346 0 dX1_runs_346 rfl rfl ?_
    refine g_181 (v := .int nu) 347 0 rfl rfl dX1_runs_347 ?_
    refine J_iload 350 dX1_runs_350 rfl ?_
    refine kb_RX1_52 (bs' := [wDe a bo (((ct + 1) + 4) + 1) 1 2 nu te, wI G bo 30 (pF [12] (pF [13, 11, 30, 10] (upd f ct 31) (ct + 1)) ((ct + 1) + 4))]) (rest := [.int ((((x * 5 + nu) - 4) - te) ^^^ 150)]) (st' := [.int 0, .int ((((x * 5 + nu) - 4) - te) ^^^ 150)]) 352 (c_runs_2_12z l G nu (d + 1) a bo ((ct + 1) + 4) nu te (pF [13, 11, 30, 10] (upd f ct 31) (ct + 1)) (by omega) (by omega) (by omega)) [0, 1] rfl rfl [[a], [bo]] rfl rfl rfl rfl rfl rfl (Nat.le_of_ble_eq_true rfl) rfl dX1_runs_352 ?_
    refine J_iadd 355 dX1_runs_355 ?_
    exact J_iret 356 dX1_runs_356 rfl (cg2 (fun (x0_ : Nat) (x1_ : Nat → Int32) => (wF [wDe a bo x0_ 1 2 nu te, wI G bo 30 x1_])) (((ct + 1) + 4) + 1) (ct + 6) (pF [12] (pF [13, 11, 30, 10] (upd f ct 31) (ct + 1)) ((ct + 1) + 4)) (pF [31, 13, 11, 30, 10, 12] f ct) rfl rfl)
  · skip
    have c_2_ : ¬ d ≤ 40 := fun z_ => c_2_ ((nI_leI (a := d) (b := 40) (by omega) (by omega)).mpr z_)
    omega
set_option maxRecDepth 100000 in
set_option maxHeartbeats 4000000 in
theorem c_runs_3_10 (l : Launch) (G : Gd) (x : Int32) (d : Nat) (a : Nat) (bo : Nat) (ct : Nat) (nu : Int32) (te : Int32) (f : Nat → Int32) (hd : d + 0 ≤ 40) (hc : ct + 1 ≤ 30) : Ct l G yX1_runs cX1_runs 5 (some (FieldType.int)) 1 [.ref a, .int 10, .int x, .int (nI d)] (wF [wDe a bo ct 0 3 nu te, wI G bo 30 f]) (some (.int (x * 5 + nu))) (wF [wDe a bo (ct + 1) 0 3 nu te, wI G bo 30 (pF [10] f ct)]) := by
  refine Ct.of "GooseArms$Deed" [some (.ref a), some (.int 10), some (.int x), some (.int (nI d)), none] (by decide +kernel) rfl (Nat.le_of_ble_eq_true rfl) rfl ?_
  refine J_aload_n 0 0 dX1_runs_0 rfl rfl ?_
  refine g_178 (v := .int 0) 1 0 rfl rfl dX1_runs_1 ?_
  refine J_if_ne (tgt := 13) 4 dX1_runs_4 (by decide) (fun c_1_ => absurd c_1_ (by decide)) (fun _ => ?_)
  refine J_iload_n 7 3 dX1_runs_7 rfl rfl ?_
  refine J_bipush (v := 40) 8 dX1_runs_8 rfl ?_
  refine J_icmp_le (tgt := 15) 10 dX1_runs_10 (by decide) (fun c_2_ => ?_) (fun c_2_ => ?_)
  · skip
    have c_2_ : d ≤ 40 := (nI_leI (a := d) (b := 40) (by omega) (by omega)).mp c_2_
    refine J_aload_n 15 0 dX1_runs_15 rfl rfl ?_
    refine J_iload_n 16 1 dX1_runs_16 rfl rfl ?_
    refine kb_RX1_48 (bs' := [wDe a bo (ct + 1) 0 3 nu te, wI G bo 30 (upd f ct 10)]) (rest := []) (st' := []) 17 (c_X1_notes l G 10 a bo ct 0 3 nu te f (by omega)) [0, 1] 0 rfl rfl rfl [[a], [bo]] rfl rfl rfl rfl rfl rfl (Nat.le_of_ble_eq_true rfl) rfl dX1_runs_17 ?_
    refine J_iload_n 20 3 dX1_runs_20 rfl rfl ?_
    refine J_iconst (v := 1) 21 dX1_runs_21 rfl ?_
    refine J_iadd 22 dX1_runs_22 ?_
    refine J_topi (y := nI (d + 1)) 23 (nI_add d 1) ?_
    refine J_istore (lv' := [some (.ref a), some (.int 10), some (.int x), some (.int (nI d)), some (.int (nI (d + 1)))]) 23 dX1_runs_23 (by decide) rfl ?_
    refine J_iload_n 25 1 dX1_runs_25 rfl rfl ?_
    refine J_tableIn (tgt := 248) (off := 222) 26 10 dX1_runs_26 rfl (by decide +kernel) (by decide) ?_
    refine J_iload_n 248 2 dX1_runs_248 rfl rfl ?_
    refine J_iconst (v := 5) 249 dX1_runs_249 rfl ?_
    refine J_imul 250 dX1_runs_250 ?_
    refine J_aload_n 251 0 dX1_runs_251 rfl rfl ?_
    refine g_181 (v := .int nu) 252 0 rfl rfl dX1_runs_252 ?_
    refine J_iadd 255 dX1_runs_255 ?_
    exact J_iret 256 dX1_runs_256 (congrArg (fun x_ => some (Value.int x_)) rfl) (cg1 (fun (x0_ : Nat → Int32) => (wF [wDe a bo (ct + 1) 0 3 nu te, wI G bo 30 x0_])) (upd f ct 10) (pF [10] f ct) rfl)
  · skip
    have c_2_ : ¬ d ≤ 40 := fun z_ => c_2_ ((nI_leI (a := d) (b := 40) (by omega) (by omega)).mpr z_)
    omega
set_option maxRecDepth 100000 in
set_option maxHeartbeats 4000000 in
theorem c_runs_3_51 (l : Launch) (G : Gd) (x : Int32) (d : Nat) (a : Nat) (bo : Nat) (ct : Nat) (nu : Int32) (te : Int32) (f : Nat → Int32) (hd : d + 1 ≤ 40) (hc : ct + 2 ≤ 30) : Ct l G yX1_runs cX1_runs 5 (some (FieldType.int)) 2 [.ref a, .int 51, .int x, .int (nI d)] (wF [wDe a bo ct 0 3 nu te, wI G bo 30 f]) (some (.int ((x * 5 + nu) + te))) (wF [wDe a bo (ct + 2) 0 3 nu te, wI G bo 30 (pF [51, 10] f ct)]) := by
  refine Ct.of "GooseArms$Deed" [some (.ref a), some (.int 51), some (.int x), some (.int (nI d)), none] (by decide +kernel) rfl (Nat.le_of_ble_eq_true rfl) rfl ?_
  refine J_aload_n 0 0 dX1_runs_0 rfl rfl ?_
  refine g_178 (v := .int 0) 1 0 rfl rfl dX1_runs_1 ?_
  refine J_if_ne (tgt := 13) 4 dX1_runs_4 (by decide) (fun c_1_ => absurd c_1_ (by decide)) (fun _ => ?_)
  refine J_iload_n 7 3 dX1_runs_7 rfl rfl ?_
  refine J_bipush (v := 40) 8 dX1_runs_8 rfl ?_
  refine J_icmp_le (tgt := 15) 10 dX1_runs_10 (by decide) (fun c_2_ => ?_) (fun c_2_ => ?_)
  · skip
    have c_2_ : d ≤ 40 := (nI_leI (a := d) (b := 40) (by omega) (by omega)).mp c_2_
    refine J_aload_n 15 0 dX1_runs_15 rfl rfl ?_
    refine J_iload_n 16 1 dX1_runs_16 rfl rfl ?_
    refine kb_RX1_48 (bs' := [wDe a bo (ct + 1) 0 3 nu te, wI G bo 30 (upd f ct 51)]) (rest := []) (st' := []) 17 (c_X1_notes l G 51 a bo ct 0 3 nu te f (by omega)) [0, 1] 0 rfl rfl rfl [[a], [bo]] rfl rfl rfl rfl rfl rfl (Nat.le_of_ble_eq_true rfl) rfl dX1_runs_17 ?_
    refine J_iload_n 20 3 dX1_runs_20 rfl rfl ?_
    refine J_iconst (v := 1) 21 dX1_runs_21 rfl ?_
    refine J_iadd 22 dX1_runs_22 ?_
    refine J_topi (y := nI (d + 1)) 23 (nI_add d 1) ?_
    refine J_istore (lv' := [some (.ref a), some (.int 51), some (.int x), some (.int (nI d)), some (.int (nI (d + 1)))]) 23 dX1_runs_23 (by decide) rfl ?_
    refine J_iload_n 25 1 dX1_runs_25 rfl rfl ?_
    refine J_tableIn (tgt := 412) (off := 386) 26 51 dX1_runs_26 rfl (by decide +kernel) (by decide) ?_
    refine J_aload_n 412 0 dX1_runs_412 rfl rfl ?_
    refine J_bipush (v := 10) 413 dX1_runs_413 rfl ?_
    refine J_iload_n 415 2 dX1_runs_415 rfl rfl ?_
    refine J_iload 416 dX1_runs_416 rfl ?_
    refine kb_RX1_52 (bs' := [wDe a bo ((ct + 1) + 1) 0 3 nu te, wI G bo 30 (pF [10] (upd f ct 51) (ct + 1))]) (rest := []) (st' := [.int (x * 5 + nu)]) 418 (c_runs_3_10 l G x (d + 1) a bo (ct + 1) nu te (upd f ct 51) (by omega) (by omega)) [0, 1] rfl rfl [[a], [bo]] rfl rfl rfl rfl rfl rfl (Nat.le_of_ble_eq_true rfl) rfl dX1_runs_418 ?_
    refine J_aload_n 421 0 dX1_runs_421 rfl rfl ?_
    refine g_182 (v := .int te) 422 0 rfl rfl dX1_runs_422 ?_
    refine J_iadd 425 dX1_runs_425 ?_
    exact J_iret 426 dX1_runs_426 rfl (cg2 (fun (x0_ : Nat) (x1_ : Nat → Int32) => (wF [wDe a bo x0_ 0 3 nu te, wI G bo 30 x1_])) ((ct + 1) + 1) (ct + 2) (pF [10] (upd f ct 51) (ct + 1)) (pF [51, 10] f ct) rfl rfl)
  · skip
    have c_2_ : ¬ d ≤ 40 := fun z_ => c_2_ ((nI_leI (a := d) (b := 40) (by omega) (by omega)).mpr z_)
    omega
set_option maxRecDepth 100000 in
set_option maxHeartbeats 4000000 in
theorem c_runs_3_11 (l : Launch) (G : Gd) (x : Int32) (d : Nat) (a : Nat) (bo : Nat) (ct : Nat) (nu : Int32) (te : Int32) (f : Nat → Int32) (hd : d + 2 ≤ 40) (hc : ct + 3 ≤ 30) : Ct l G yX1_runs cX1_runs 5 (some (FieldType.int)) 3 [.ref a, .int 11, .int x, .int (nI d)] (wF [wDe a bo ct 0 3 nu te, wI G bo 30 f]) (some (.int (((x * 5 + nu) + te) - te))) (wF [wDe a bo (ct + 3) 0 3 nu te, wI G bo 30 (pF [11, 51, 10] f ct)]) := by
  refine Ct.of "GooseArms$Deed" [some (.ref a), some (.int 11), some (.int x), some (.int (nI d)), none] (by decide +kernel) rfl (Nat.le_of_ble_eq_true rfl) rfl ?_
  refine J_aload_n 0 0 dX1_runs_0 rfl rfl ?_
  refine g_178 (v := .int 0) 1 0 rfl rfl dX1_runs_1 ?_
  refine J_if_ne (tgt := 13) 4 dX1_runs_4 (by decide) (fun c_1_ => absurd c_1_ (by decide)) (fun _ => ?_)
  refine J_iload_n 7 3 dX1_runs_7 rfl rfl ?_
  refine J_bipush (v := 40) 8 dX1_runs_8 rfl ?_
  refine J_icmp_le (tgt := 15) 10 dX1_runs_10 (by decide) (fun c_2_ => ?_) (fun c_2_ => ?_)
  · skip
    have c_2_ : d ≤ 40 := (nI_leI (a := d) (b := 40) (by omega) (by omega)).mp c_2_
    refine J_aload_n 15 0 dX1_runs_15 rfl rfl ?_
    refine J_iload_n 16 1 dX1_runs_16 rfl rfl ?_
    refine kb_RX1_48 (bs' := [wDe a bo (ct + 1) 0 3 nu te, wI G bo 30 (upd f ct 11)]) (rest := []) (st' := []) 17 (c_X1_notes l G 11 a bo ct 0 3 nu te f (by omega)) [0, 1] 0 rfl rfl rfl [[a], [bo]] rfl rfl rfl rfl rfl rfl (Nat.le_of_ble_eq_true rfl) rfl dX1_runs_17 ?_
    refine J_iload_n 20 3 dX1_runs_20 rfl rfl ?_
    refine J_iconst (v := 1) 21 dX1_runs_21 rfl ?_
    refine J_iadd 22 dX1_runs_22 ?_
    refine J_topi (y := nI (d + 1)) 23 (nI_add d 1) ?_
    refine J_istore (lv' := [some (.ref a), some (.int 11), some (.int x), some (.int (nI d)), some (.int (nI (d + 1)))]) 23 dX1_runs_23 (by decide) rfl ?_
    refine J_iload_n 25 1 dX1_runs_25 rfl rfl ?_
    refine J_tableIn (tgt := 257) (off := 231) 26 11 dX1_runs_26 rfl (by decide +kernel) (by decide) ?_
    refine J_aload_n 257 0 dX1_runs_257 rfl rfl ?_
    refine J_gets (v := .ref (G.2.2 2)) 258 w_744 gz2 rfl dX1_runs_258 ?_
    refine J_aload_n 261 0 dX1_runs_261 rfl rfl ?_
    refine g_180 (v := .int 3) 262 0 rfl rfl dX1_runs_262 ?_
    refine J_stat (v := .int 51) 265 gt2 3 rfl (by omega) (by decide) rfl dX1_runs_265 ?_
    refine J_iload_n 266 2 dX1_runs_266 rfl rfl ?_
    refine J_iload 267 dX1_runs_267 rfl ?_
    refine kb_RX1_52 (bs' := [wDe a bo ((ct + 1) + 2) 0 3 nu te, wI G bo 30 (pF [51, 10] (upd f ct 11) (ct + 1))]) (rest := []) (st' := [.int ((x * 5 + nu) + te)]) 269 (c_runs_3_51 l G x (d + 1) a bo (ct + 1) nu te (upd f ct 11) (by omega) (by omega)) [0, 1] rfl rfl [[a], [bo]] rfl rfl rfl rfl rfl rfl (Nat.le_of_ble_eq_true rfl) rfl dX1_runs_269 ?_
    refine J_aload_n 272 0 dX1_runs_272 rfl rfl ?_
    refine g_182 (v := .int te) 273 0 rfl rfl dX1_runs_273 ?_
    refine J_isub 276 dX1_runs_276 ?_
    exact J_iret 277 dX1_runs_277 rfl (cg2 (fun (x0_ : Nat) (x1_ : Nat → Int32) => (wF [wDe a bo x0_ 0 3 nu te, wI G bo 30 x1_])) ((ct + 1) + 2) (ct + 3) (pF [51, 10] (upd f ct 11) (ct + 1)) (pF [11, 51, 10] f ct) rfl rfl)
  · skip
    have c_2_ : ¬ d ≤ 40 := fun z_ => c_2_ ((nI_leI (a := d) (b := 40) (by omega) (by omega)).mpr z_)
    omega
set_option maxRecDepth 100000 in
set_option maxHeartbeats 4000000 in
theorem c_runs_3_20 (l : Launch) (G : Gd) (x : Int32) (d : Nat) (a : Nat) (bo : Nat) (ct : Nat) (nu : Int32) (te : Int32) (f : Nat → Int32) (hd : d + 3 ≤ 40) (hc : ct + 4 ≤ 30) : Ct l G yX1_runs cX1_runs 5 (some (FieldType.int)) 4 [.ref a, .int 20, .int x, .int (nI d)] (wF [wDe a bo ct 0 3 nu te, wI G bo 30 f]) (some (.int ((((x * 5 + nu) + te) - te) * 2))) (wF [wDe a bo (ct + 4) 0 3 nu te, wI G bo 30 (pF [20, 11, 51, 10] f ct)]) := by
  refine Ct.of "GooseArms$Deed" [some (.ref a), some (.int 20), some (.int x), some (.int (nI d)), none] (by decide +kernel) rfl (Nat.le_of_ble_eq_true rfl) rfl ?_
  refine J_aload_n 0 0 dX1_runs_0 rfl rfl ?_
  refine g_178 (v := .int 0) 1 0 rfl rfl dX1_runs_1 ?_
  refine J_if_ne (tgt := 13) 4 dX1_runs_4 (by decide) (fun c_1_ => absurd c_1_ (by decide)) (fun _ => ?_)
  refine J_iload_n 7 3 dX1_runs_7 rfl rfl ?_
  refine J_bipush (v := 40) 8 dX1_runs_8 rfl ?_
  refine J_icmp_le (tgt := 15) 10 dX1_runs_10 (by decide) (fun c_2_ => ?_) (fun c_2_ => ?_)
  · skip
    have c_2_ : d ≤ 40 := (nI_leI (a := d) (b := 40) (by omega) (by omega)).mp c_2_
    refine J_aload_n 15 0 dX1_runs_15 rfl rfl ?_
    refine J_iload_n 16 1 dX1_runs_16 rfl rfl ?_
    refine kb_RX1_48 (bs' := [wDe a bo (ct + 1) 0 3 nu te, wI G bo 30 (upd f ct 20)]) (rest := []) (st' := []) 17 (c_X1_notes l G 20 a bo ct 0 3 nu te f (by omega)) [0, 1] 0 rfl rfl rfl [[a], [bo]] rfl rfl rfl rfl rfl rfl (Nat.le_of_ble_eq_true rfl) rfl dX1_runs_17 ?_
    refine J_iload_n 20 3 dX1_runs_20 rfl rfl ?_
    refine J_iconst (v := 1) 21 dX1_runs_21 rfl ?_
    refine J_iadd 22 dX1_runs_22 ?_
    refine J_topi (y := nI (d + 1)) 23 (nI_add d 1) ?_
    refine J_istore (lv' := [some (.ref a), some (.int 20), some (.int x), some (.int (nI d)), some (.int (nI (d + 1)))]) 23 dX1_runs_23 (by decide) rfl ?_
    refine J_iload_n 25 1 dX1_runs_25 rfl rfl ?_
    refine J_tableIn (tgt := 304) (off := 278) 26 20 dX1_runs_26 rfl (by decide +kernel) (by decide) ?_
    refine J_aload_n 304 0 dX1_runs_304 rfl rfl ?_
    refine J_bipush (v := 11) 305 dX1_runs_305 rfl ?_
    refine J_iload_n 307 2 dX1_runs_307 rfl rfl ?_
    refine J_iload 308 dX1_runs_308 rfl ?_
    refine kb_RX1_52 (bs' := [wDe a bo ((ct + 1) + 3) 0 3 nu te, wI G bo 30 (pF [11, 51, 10] (upd f ct 20) (ct + 1))]) (rest := []) (st' := [.int (((x * 5 + nu) + te) - te)]) 310 (c_runs_3_11 l G x (d + 1) a bo (ct + 1) nu te (upd f ct 20) (by omega) (by omega)) [0, 1] rfl rfl [[a], [bo]] rfl rfl rfl rfl rfl rfl (Nat.le_of_ble_eq_true rfl) rfl dX1_runs_310 ?_
    refine J_iconst (v := 2) 313 dX1_runs_313 rfl ?_
    refine J_imul 314 dX1_runs_314 ?_
    exact J_iret 315 dX1_runs_315 rfl (cg2 (fun (x0_ : Nat) (x1_ : Nat → Int32) => (wF [wDe a bo x0_ 0 3 nu te, wI G bo 30 x1_])) ((ct + 1) + 3) (ct + 4) (pF [11, 51, 10] (upd f ct 20) (ct + 1)) (pF [20, 11, 51, 10] f ct) rfl rfl)
  · skip
    have c_2_ : ¬ d ≤ 40 := fun z_ => c_2_ ((nI_leI (a := d) (b := 40) (by omega) (by omega)).mpr z_)
    omega
set_option maxRecDepth 100000 in
set_option maxHeartbeats 4000000 in
theorem c_runs_3_12 (l : Launch) (G : Gd) (x : Int32) (d : Nat) (a : Nat) (bo : Nat) (ct : Nat) (nu : Int32) (te : Int32) (f : Nat → Int32) (hd : d + 0 ≤ 40) (hc : ct + 1 ≤ 30) (hz : ¬ te - nu = 0) : Ct l G yX1_runs cX1_runs 5 (some (FieldType.int)) 1 [.ref a, .int 12, .int x, .int (nI d)] (wF [wDe a bo ct 0 3 nu te, wI G bo 30 f]) (some (.int (x / (te - nu)))) (wF [wDe a bo (ct + 1) 0 3 nu te, wI G bo 30 (pF [12] f ct)]) := by
  refine Ct.of "GooseArms$Deed" [some (.ref a), some (.int 12), some (.int x), some (.int (nI d)), none] (by decide +kernel) rfl (Nat.le_of_ble_eq_true rfl) rfl ?_
  refine J_aload_n 0 0 dX1_runs_0 rfl rfl ?_
  refine g_178 (v := .int 0) 1 0 rfl rfl dX1_runs_1 ?_
  refine J_if_ne (tgt := 13) 4 dX1_runs_4 (by decide) (fun c_1_ => absurd c_1_ (by decide)) (fun _ => ?_)
  refine J_iload_n 7 3 dX1_runs_7 rfl rfl ?_
  refine J_bipush (v := 40) 8 dX1_runs_8 rfl ?_
  refine J_icmp_le (tgt := 15) 10 dX1_runs_10 (by decide) (fun c_2_ => ?_) (fun c_2_ => ?_)
  · skip
    have c_2_ : d ≤ 40 := (nI_leI (a := d) (b := 40) (by omega) (by omega)).mp c_2_
    refine J_aload_n 15 0 dX1_runs_15 rfl rfl ?_
    refine J_iload_n 16 1 dX1_runs_16 rfl rfl ?_
    refine kb_RX1_48 (bs' := [wDe a bo (ct + 1) 0 3 nu te, wI G bo 30 (upd f ct 12)]) (rest := []) (st' := []) 17 (c_X1_notes l G 12 a bo ct 0 3 nu te f (by omega)) [0, 1] 0 rfl rfl rfl [[a], [bo]] rfl rfl rfl rfl rfl rfl (Nat.le_of_ble_eq_true rfl) rfl dX1_runs_17 ?_
    refine J_iload_n 20 3 dX1_runs_20 rfl rfl ?_
    refine J_iconst (v := 1) 21 dX1_runs_21 rfl ?_
    refine J_iadd 22 dX1_runs_22 ?_
    refine J_topi (y := nI (d + 1)) 23 (nI_add d 1) ?_
    refine J_istore (lv' := [some (.ref a), some (.int 12), some (.int x), some (.int (nI d)), some (.int (nI (d + 1)))]) 23 dX1_runs_23 (by decide) rfl ?_
    refine J_iload_n 25 1 dX1_runs_25 rfl rfl ?_
    refine J_tableIn (tgt := 278) (off := 252) 26 12 dX1_runs_26 rfl (by decide +kernel) (by decide) ?_
    refine J_aload_n 278 0 dX1_runs_278 rfl rfl ?_
    refine J_iload_n 279 2 dX1_runs_279 rfl rfl ?_
    refine kb_RX1_56 (bs' := [wDe a bo (ct + 1) 0 3 nu te, wI G bo 30 (upd f ct 12)]) (rest := []) (st' := [.int (x / (te - nu))]) 280 (c_X1_quotient l G x a bo (ct + 1) 0 3 nu te (by omega)) [0] 0 rfl rfl rfl [[a]] rfl rfl rfl rfl rfl rfl (Nat.le_of_ble_eq_true rfl) rfl dX1_runs_280 ?_
    exact J_iret 283 dX1_runs_283 rfl (cg1 (fun (x0_ : Nat → Int32) => (wF [wDe a bo (ct + 1) 0 3 nu te, wI G bo 30 x0_])) (upd f ct 12) (pF [12] f ct) rfl)
  · skip
    have c_2_ : ¬ d ≤ 40 := fun z_ => c_2_ ((nI_leI (a := d) (b := 40) (by omega) (by omega)).mpr z_)
    omega
set_option maxRecDepth 100000 in
set_option maxHeartbeats 4000000 in
theorem c_runs_3_50 (l : Launch) (G : Gd) (x : Int32) (d : Nat) (a : Nat) (bo : Nat) (ct : Nat) (nu : Int32) (te : Int32) (f : Nat → Int32) (hd : d + 1 ≤ 40) (hc : ct + 2 ≤ 30) (hz : ¬ te - nu = 0) : Ct l G yX1_runs cX1_runs 5 (some (FieldType.int)) 2 [.ref a, .int 50, .int x, .int (nI d)] (wF [wDe a bo ct 0 3 nu te, wI G bo 30 f]) (some (.int (((x * 3) / (te - nu)) + 2))) (wF [wDe a bo (ct + 2) 0 3 nu te, wI G bo 30 (pF [50, 12] f ct)]) := by
  refine Ct.of "GooseArms$Deed" [some (.ref a), some (.int 50), some (.int x), some (.int (nI d)), none] (by decide +kernel) rfl (Nat.le_of_ble_eq_true rfl) rfl ?_
  refine J_aload_n 0 0 dX1_runs_0 rfl rfl ?_
  refine g_178 (v := .int 0) 1 0 rfl rfl dX1_runs_1 ?_
  refine J_if_ne (tgt := 13) 4 dX1_runs_4 (by decide) (fun c_1_ => absurd c_1_ (by decide)) (fun _ => ?_)
  refine J_iload_n 7 3 dX1_runs_7 rfl rfl ?_
  refine J_bipush (v := 40) 8 dX1_runs_8 rfl ?_
  refine J_icmp_le (tgt := 15) 10 dX1_runs_10 (by decide) (fun c_2_ => ?_) (fun c_2_ => ?_)
  · skip
    have c_2_ : d ≤ 40 := (nI_leI (a := d) (b := 40) (by omega) (by omega)).mp c_2_
    refine J_aload_n 15 0 dX1_runs_15 rfl rfl ?_
    refine J_iload_n 16 1 dX1_runs_16 rfl rfl ?_
    refine kb_RX1_48 (bs' := [wDe a bo (ct + 1) 0 3 nu te, wI G bo 30 (upd f ct 50)]) (rest := []) (st' := []) 17 (c_X1_notes l G 50 a bo ct 0 3 nu te f (by omega)) [0, 1] 0 rfl rfl rfl [[a], [bo]] rfl rfl rfl rfl rfl rfl (Nat.le_of_ble_eq_true rfl) rfl dX1_runs_17 ?_
    refine J_iload_n 20 3 dX1_runs_20 rfl rfl ?_
    refine J_iconst (v := 1) 21 dX1_runs_21 rfl ?_
    refine J_iadd 22 dX1_runs_22 ?_
    refine J_topi (y := nI (d + 1)) 23 (nI_add d 1) ?_
    refine J_istore (lv' := [some (.ref a), some (.int 50), some (.int x), some (.int (nI d)), some (.int (nI (d + 1)))]) 23 dX1_runs_23 (by decide) rfl ?_
    refine J_iload_n 25 1 dX1_runs_25 rfl rfl ?_
    refine J_tableIn (tgt := 398) (off := 372) 26 50 dX1_runs_26 rfl (by decide +kernel) (by decide) ?_
    refine J_aload_n 398 0 dX1_runs_398 rfl rfl ?_
    refine J_bipush (v := 12) 399 dX1_runs_399 rfl ?_
    refine J_iload_n 401 2 dX1_runs_401 rfl rfl ?_
    refine J_iconst (v := 3) 402 dX1_runs_402 rfl ?_
    refine J_imul 403 dX1_runs_403 ?_
    refine J_iload 404 dX1_runs_404 rfl ?_
    refine kb_RX1_52 (bs' := [wDe a bo ((ct + 1) + 1) 0 3 nu te, wI G bo 30 (pF [12] (upd f ct 50) (ct + 1))]) (rest := []) (st' := [.int ((x * 3) / (te - nu))]) 406 (c_runs_3_12 l G (x * 3) (d + 1) a bo (ct + 1) nu te (upd f ct 50) (by omega) (by omega) (by omega)) [0, 1] rfl rfl [[a], [bo]] rfl rfl rfl rfl rfl rfl (Nat.le_of_ble_eq_true rfl) rfl dX1_runs_406 ?_
    refine J_iconst (v := 2) 409 dX1_runs_409 rfl ?_
    refine J_iadd 410 dX1_runs_410 ?_
    exact J_iret 411 dX1_runs_411 rfl (cg2 (fun (x0_ : Nat) (x1_ : Nat → Int32) => (wF [wDe a bo x0_ 0 3 nu te, wI G bo 30 x1_])) ((ct + 1) + 1) (ct + 2) (pF [12] (upd f ct 50) (ct + 1)) (pF [50, 12] f ct) rfl rfl)
  · skip
    have c_2_ : ¬ d ≤ 40 := fun z_ => c_2_ ((nI_leI (a := d) (b := 40) (by omega) (by omega)).mpr z_)
    omega
set_option maxRecDepth 100000 in
set_option maxHeartbeats 4000000 in
theorem c_runs_3_12z (l : Launch) (G : Gd) (x : Int32) (d : Nat) (a : Nat) (bo : Nat) (ct : Nat) (nu : Int32) (te : Int32) (f : Nat → Int32) (hd : d + 0 ≤ 40) (hc : ct + 1 ≤ 30) (hz : te - nu = 0) : Ct l G yX1_runs cX1_runs 5 (some (FieldType.int)) 1 [.ref a, .int 12, .int x, .int (nI d)] (wF [wDe a bo ct 0 3 nu te, wI G bo 30 f]) (some (.int 0)) (wF [wDe a bo (ct + 1) 1 3 nu te, wI G bo 30 (pF [12] f ct)]) := by
  refine Ct.of "GooseArms$Deed" [some (.ref a), some (.int 12), some (.int x), some (.int (nI d)), none] (by decide +kernel) rfl (Nat.le_of_ble_eq_true rfl) rfl ?_
  refine J_aload_n 0 0 dX1_runs_0 rfl rfl ?_
  refine g_178 (v := .int 0) 1 0 rfl rfl dX1_runs_1 ?_
  refine J_if_ne (tgt := 13) 4 dX1_runs_4 (by decide) (fun c_1_ => absurd c_1_ (by decide)) (fun _ => ?_)
  refine J_iload_n 7 3 dX1_runs_7 rfl rfl ?_
  refine J_bipush (v := 40) 8 dX1_runs_8 rfl ?_
  refine J_icmp_le (tgt := 15) 10 dX1_runs_10 (by decide) (fun c_2_ => ?_) (fun c_2_ => ?_)
  · skip
    have c_2_ : d ≤ 40 := (nI_leI (a := d) (b := 40) (by omega) (by omega)).mp c_2_
    refine J_aload_n 15 0 dX1_runs_15 rfl rfl ?_
    refine J_iload_n 16 1 dX1_runs_16 rfl rfl ?_
    refine kb_RX1_48 (bs' := [wDe a bo (ct + 1) 0 3 nu te, wI G bo 30 (upd f ct 12)]) (rest := []) (st' := []) 17 (c_X1_notes l G 12 a bo ct 0 3 nu te f (by omega)) [0, 1] 0 rfl rfl rfl [[a], [bo]] rfl rfl rfl rfl rfl rfl (Nat.le_of_ble_eq_true rfl) rfl dX1_runs_17 ?_
    refine J_iload_n 20 3 dX1_runs_20 rfl rfl ?_
    refine J_iconst (v := 1) 21 dX1_runs_21 rfl ?_
    refine J_iadd 22 dX1_runs_22 ?_
    refine J_topi (y := nI (d + 1)) 23 (nI_add d 1) ?_
    refine J_istore (lv' := [some (.ref a), some (.int 12), some (.int x), some (.int (nI d)), some (.int (nI (d + 1)))]) 23 dX1_runs_23 (by decide) rfl ?_
    refine J_iload_n 25 1 dX1_runs_25 rfl rfl ?_
    refine J_tableIn (tgt := 278) (off := 252) 26 12 dX1_runs_26 rfl (by decide +kernel) (by decide) ?_
    refine J_aload_n 278 0 dX1_runs_278 rfl rfl ?_
    refine J_iload_n 279 2 dX1_runs_279 rfl rfl ?_
    refine kb_RX1_56 (bs' := [wDe a bo (ct + 1) 1 3 nu te, wI G bo 30 (upd f ct 12)]) (rest := []) (st' := [.int 0]) 280 (c_X1_quotient_z l G x a bo (ct + 1) 0 3 nu te (by omega)) [0] 0 rfl rfl rfl [[a]] rfl rfl rfl rfl rfl rfl (Nat.le_of_ble_eq_true rfl) rfl dX1_runs_280 ?_
    exact J_iret 283 dX1_runs_283 rfl (cg1 (fun (x0_ : Nat → Int32) => (wF [wDe a bo (ct + 1) 1 3 nu te, wI G bo 30 x0_])) (upd f ct 12) (pF [12] f ct) rfl)
  · skip
    have c_2_ : ¬ d ≤ 40 := fun z_ => c_2_ ((nI_leI (a := d) (b := 40) (by omega) (by omega)).mpr z_)
    omega
set_option maxRecDepth 100000 in
set_option maxHeartbeats 4000000 in
theorem c_runs_3_50z (l : Launch) (G : Gd) (x : Int32) (d : Nat) (a : Nat) (bo : Nat) (ct : Nat) (nu : Int32) (te : Int32) (f : Nat → Int32) (hd : d + 1 ≤ 40) (hc : ct + 2 ≤ 30) (hz : te - nu = 0) : Ct l G yX1_runs cX1_runs 5 (some (FieldType.int)) 2 [.ref a, .int 50, .int x, .int (nI d)] (wF [wDe a bo ct 0 3 nu te, wI G bo 30 f]) (some (.int (0 + 2))) (wF [wDe a bo (ct + 2) 1 3 nu te, wI G bo 30 (pF [50, 12] f ct)]) := by
  refine Ct.of "GooseArms$Deed" [some (.ref a), some (.int 50), some (.int x), some (.int (nI d)), none] (by decide +kernel) rfl (Nat.le_of_ble_eq_true rfl) rfl ?_
  refine J_aload_n 0 0 dX1_runs_0 rfl rfl ?_
  refine g_178 (v := .int 0) 1 0 rfl rfl dX1_runs_1 ?_
  refine J_if_ne (tgt := 13) 4 dX1_runs_4 (by decide) (fun c_1_ => absurd c_1_ (by decide)) (fun _ => ?_)
  refine J_iload_n 7 3 dX1_runs_7 rfl rfl ?_
  refine J_bipush (v := 40) 8 dX1_runs_8 rfl ?_
  refine J_icmp_le (tgt := 15) 10 dX1_runs_10 (by decide) (fun c_2_ => ?_) (fun c_2_ => ?_)
  · skip
    have c_2_ : d ≤ 40 := (nI_leI (a := d) (b := 40) (by omega) (by omega)).mp c_2_
    refine J_aload_n 15 0 dX1_runs_15 rfl rfl ?_
    refine J_iload_n 16 1 dX1_runs_16 rfl rfl ?_
    refine kb_RX1_48 (bs' := [wDe a bo (ct + 1) 0 3 nu te, wI G bo 30 (upd f ct 50)]) (rest := []) (st' := []) 17 (c_X1_notes l G 50 a bo ct 0 3 nu te f (by omega)) [0, 1] 0 rfl rfl rfl [[a], [bo]] rfl rfl rfl rfl rfl rfl (Nat.le_of_ble_eq_true rfl) rfl dX1_runs_17 ?_
    refine J_iload_n 20 3 dX1_runs_20 rfl rfl ?_
    refine J_iconst (v := 1) 21 dX1_runs_21 rfl ?_
    refine J_iadd 22 dX1_runs_22 ?_
    refine J_topi (y := nI (d + 1)) 23 (nI_add d 1) ?_
    refine J_istore (lv' := [some (.ref a), some (.int 50), some (.int x), some (.int (nI d)), some (.int (nI (d + 1)))]) 23 dX1_runs_23 (by decide) rfl ?_
    refine J_iload_n 25 1 dX1_runs_25 rfl rfl ?_
    refine J_tableIn (tgt := 398) (off := 372) 26 50 dX1_runs_26 rfl (by decide +kernel) (by decide) ?_
    refine J_aload_n 398 0 dX1_runs_398 rfl rfl ?_
    refine J_bipush (v := 12) 399 dX1_runs_399 rfl ?_
    refine J_iload_n 401 2 dX1_runs_401 rfl rfl ?_
    refine J_iconst (v := 3) 402 dX1_runs_402 rfl ?_
    refine J_imul 403 dX1_runs_403 ?_
    refine J_iload 404 dX1_runs_404 rfl ?_
    refine kb_RX1_52 (bs' := [wDe a bo ((ct + 1) + 1) 1 3 nu te, wI G bo 30 (pF [12] (upd f ct 50) (ct + 1))]) (rest := []) (st' := [.int 0]) 406 (c_runs_3_12z l G (x * 3) (d + 1) a bo (ct + 1) nu te (upd f ct 50) (by omega) (by omega) (by omega)) [0, 1] rfl rfl [[a], [bo]] rfl rfl rfl rfl rfl rfl (Nat.le_of_ble_eq_true rfl) rfl dX1_runs_406 ?_
    refine J_iconst (v := 2) 409 dX1_runs_409 rfl ?_
    refine J_iadd 410 dX1_runs_410 ?_
    exact J_iret 411 dX1_runs_411 rfl (cg2 (fun (x0_ : Nat) (x1_ : Nat → Int32) => (wF [wDe a bo x0_ 1 3 nu te, wI G bo 30 x1_])) ((ct + 1) + 1) (ct + 2) (pF [12] (upd f ct 50) (ct + 1)) (pF [50, 12] f ct) rfl rfl)
  · skip
    have c_2_ : ¬ d ≤ 40 := fun z_ => c_2_ ((nI_leI (a := d) (b := 40) (by omega) (by omega)).mpr z_)
    omega
set_option maxRecDepth 100000 in
set_option maxHeartbeats 4000000 in
theorem c_runs_3_13 (l : Launch) (G : Gd) (x : Int32) (d : Nat) (a : Nat) (bo : Nat) (ct : Nat) (nu : Int32) (te : Int32) (f : Nat → Int32) (hd : d + 4 ≤ 40) (hc : ct + 5 ≤ 30) : Ct l G yX1_runs cX1_runs 5 (some (FieldType.int)) 5 [.ref a, .int 13, .int x, .int (nI d)] (wF [wDe a bo ct 0 3 nu te, wI G bo 30 f]) (some (.int (((((x * 5 + nu) + te) - te) * 2) ^^^ 150))) (wF [wDe a bo (ct + 5) 0 3 nu te, wI G bo 30 (pF [13, 20, 11, 51, 10] f ct)]) := by
  refine Ct.of "GooseArms$Deed" [some (.ref a), some (.int 13), some (.int x), some (.int (nI d)), none] (by decide +kernel) rfl (Nat.le_of_ble_eq_true rfl) rfl ?_
  refine J_aload_n 0 0 dX1_runs_0 rfl rfl ?_
  refine g_178 (v := .int 0) 1 0 rfl rfl dX1_runs_1 ?_
  refine J_if_ne (tgt := 13) 4 dX1_runs_4 (by decide) (fun c_1_ => absurd c_1_ (by decide)) (fun _ => ?_)
  refine J_iload_n 7 3 dX1_runs_7 rfl rfl ?_
  refine J_bipush (v := 40) 8 dX1_runs_8 rfl ?_
  refine J_icmp_le (tgt := 15) 10 dX1_runs_10 (by decide) (fun c_2_ => ?_) (fun c_2_ => ?_)
  · skip
    have c_2_ : d ≤ 40 := (nI_leI (a := d) (b := 40) (by omega) (by omega)).mp c_2_
    refine J_aload_n 15 0 dX1_runs_15 rfl rfl ?_
    refine J_iload_n 16 1 dX1_runs_16 rfl rfl ?_
    refine kb_RX1_48 (bs' := [wDe a bo (ct + 1) 0 3 nu te, wI G bo 30 (upd f ct 13)]) (rest := []) (st' := []) 17 (c_X1_notes l G 13 a bo ct 0 3 nu te f (by omega)) [0, 1] 0 rfl rfl rfl [[a], [bo]] rfl rfl rfl rfl rfl rfl (Nat.le_of_ble_eq_true rfl) rfl dX1_runs_17 ?_
    refine J_iload_n 20 3 dX1_runs_20 rfl rfl ?_
    refine J_iconst (v := 1) 21 dX1_runs_21 rfl ?_
    refine J_iadd 22 dX1_runs_22 ?_
    refine J_topi (y := nI (d + 1)) 23 (nI_add d 1) ?_
    refine J_istore (lv' := [some (.ref a), some (.int 13), some (.int x), some (.int (nI d)), some (.int (nI (d + 1)))]) 23 dX1_runs_23 (by decide) rfl ?_
    refine J_iload_n 25 1 dX1_runs_25 rfl rfl ?_
    refine J_tableIn (tgt := 284) (off := 258) 26 13 dX1_runs_26 rfl (by decide +kernel) (by decide) ?_
    refine J_aload_n 284 0 dX1_runs_284 rfl rfl ?_
    refine J_gets (v := .ref (G.2.2 3)) 285 w_746 gz3 rfl dX1_runs_285 ?_
    refine J_aload_n 288 0 dX1_runs_288 rfl rfl ?_
    refine g_180 (v := .int 3) 289 0 rfl rfl dX1_runs_289 ?_
    refine J_stat (v := .int 20) 292 gt3 3 rfl (by omega) (by decide) rfl dX1_runs_292 ?_
    refine J_iload_n 293 2 dX1_runs_293 rfl rfl ?_
    refine J_iload 294 dX1_runs_294 rfl ?_
    refine kb_RX1_52 (bs' := [wDe a bo ((ct + 1) + 4) 0 3 nu te, wI G bo 30 (pF [20, 11, 51, 10] (upd f ct 13) (ct + 1))]) (rest := []) (st' := [.int ((((x * 5 + nu) + te) - te) * 2)]) 296 (c_runs_3_20 l G x (d + 1) a bo (ct + 1) nu te (upd f ct 13) (by omega) (by omega)) [0, 1] rfl rfl [[a], [bo]] rfl rfl rfl rfl rfl rfl (Nat.le_of_ble_eq_true rfl) rfl dX1_runs_296 ?_
    refine J_sipush (v := 150) 299 dX1_runs_299 rfl ?_
    refine J_ixor 302 dX1_runs_302 ?_
    exact J_iret 303 dX1_runs_303 rfl (cg2 (fun (x0_ : Nat) (x1_ : Nat → Int32) => (wF [wDe a bo x0_ 0 3 nu te, wI G bo 30 x1_])) ((ct + 1) + 4) (ct + 5) (pF [20, 11, 51, 10] (upd f ct 13) (ct + 1)) (pF [13, 20, 11, 51, 10] f ct) rfl rfl)
  · skip
    have c_2_ : ¬ d ≤ 40 := fun z_ => c_2_ ((nI_leI (a := d) (b := 40) (by omega) (by omega)).mpr z_)
    omega
set_option maxRecDepth 100000 in
set_option maxHeartbeats 4000000 in
theorem c_runs_4_10 (l : Launch) (G : Gd) (x : Int32) (d : Nat) (a : Nat) (bo : Nat) (ct : Nat) (nu : Int32) (te : Int32) (f : Nat → Int32) (hd : d + 0 ≤ 40) (hc : ct + 1 ≤ 30) : Ct l G yX1_runs cX1_runs 5 (some (FieldType.int)) 1 [.ref a, .int 10, .int x, .int (nI d)] (wF [wDe a bo ct 0 4 nu te, wI G bo 30 f]) (some (.int (x * 5 + nu))) (wF [wDe a bo (ct + 1) 0 4 nu te, wI G bo 30 (pF [10] f ct)]) := by
  refine Ct.of "GooseArms$Deed" [some (.ref a), some (.int 10), some (.int x), some (.int (nI d)), none] (by decide +kernel) rfl (Nat.le_of_ble_eq_true rfl) rfl ?_
  refine J_aload_n 0 0 dX1_runs_0 rfl rfl ?_
  refine g_178 (v := .int 0) 1 0 rfl rfl dX1_runs_1 ?_
  refine J_if_ne (tgt := 13) 4 dX1_runs_4 (by decide) (fun c_1_ => absurd c_1_ (by decide)) (fun _ => ?_)
  refine J_iload_n 7 3 dX1_runs_7 rfl rfl ?_
  refine J_bipush (v := 40) 8 dX1_runs_8 rfl ?_
  refine J_icmp_le (tgt := 15) 10 dX1_runs_10 (by decide) (fun c_2_ => ?_) (fun c_2_ => ?_)
  · skip
    have c_2_ : d ≤ 40 := (nI_leI (a := d) (b := 40) (by omega) (by omega)).mp c_2_
    refine J_aload_n 15 0 dX1_runs_15 rfl rfl ?_
    refine J_iload_n 16 1 dX1_runs_16 rfl rfl ?_
    refine kb_RX1_48 (bs' := [wDe a bo (ct + 1) 0 4 nu te, wI G bo 30 (upd f ct 10)]) (rest := []) (st' := []) 17 (c_X1_notes l G 10 a bo ct 0 4 nu te f (by omega)) [0, 1] 0 rfl rfl rfl [[a], [bo]] rfl rfl rfl rfl rfl rfl (Nat.le_of_ble_eq_true rfl) rfl dX1_runs_17 ?_
    refine J_iload_n 20 3 dX1_runs_20 rfl rfl ?_
    refine J_iconst (v := 1) 21 dX1_runs_21 rfl ?_
    refine J_iadd 22 dX1_runs_22 ?_
    refine J_topi (y := nI (d + 1)) 23 (nI_add d 1) ?_
    refine J_istore (lv' := [some (.ref a), some (.int 10), some (.int x), some (.int (nI d)), some (.int (nI (d + 1)))]) 23 dX1_runs_23 (by decide) rfl ?_
    refine J_iload_n 25 1 dX1_runs_25 rfl rfl ?_
    refine J_tableIn (tgt := 248) (off := 222) 26 10 dX1_runs_26 rfl (by decide +kernel) (by decide) ?_
    refine J_iload_n 248 2 dX1_runs_248 rfl rfl ?_
    refine J_iconst (v := 5) 249 dX1_runs_249 rfl ?_
    refine J_imul 250 dX1_runs_250 ?_
    refine J_aload_n 251 0 dX1_runs_251 rfl rfl ?_
    refine g_181 (v := .int nu) 252 0 rfl rfl dX1_runs_252 ?_
    refine J_iadd 255 dX1_runs_255 ?_
    exact J_iret 256 dX1_runs_256 (congrArg (fun x_ => some (Value.int x_)) rfl) (cg1 (fun (x0_ : Nat → Int32) => (wF [wDe a bo (ct + 1) 0 4 nu te, wI G bo 30 x0_])) (upd f ct 10) (pF [10] f ct) rfl)
  · skip
    have c_2_ : ¬ d ≤ 40 := fun z_ => c_2_ ((nI_leI (a := d) (b := 40) (by omega) (by omega)).mpr z_)
    omega
set_option maxRecDepth 100000 in
set_option maxHeartbeats 4000000 in
theorem c_runs_4_30 (l : Launch) (G : Gd) (x : Int32) (d : Nat) (a : Nat) (bo : Nat) (ct : Nat) (nu : Int32) (te : Int32) (f : Nat → Int32) (hd : d + 1 ≤ 40) (hc : ct + 2 ≤ 30) : Ct l G yX1_runs cX1_runs 5 (some (FieldType.int)) 2 [.ref a, .int 30, .int x, .int (nI d)] (wF [wDe a bo ct 0 4 nu te, wI G bo 30 f]) (some (.int ((x * 5 + nu) - 4))) (wF [wDe a bo (ct + 2) 0 4 nu te, wI G bo 30 (pF [30, 10] f ct)]) := by
  refine Ct.of "GooseArms$Deed" [some (.ref a), some (.int 30), some (.int x), some (.int (nI d)), none] (by decide +kernel) rfl (Nat.le_of_ble_eq_true rfl) rfl ?_
  refine J_aload_n 0 0 dX1_runs_0 rfl rfl ?_
  refine g_178 (v := .int 0) 1 0 rfl rfl dX1_runs_1 ?_
  refine J_if_ne (tgt := 13) 4 dX1_runs_4 (by decide) (fun c_1_ => absurd c_1_ (by decide)) (fun _ => ?_)
  refine J_iload_n 7 3 dX1_runs_7 rfl rfl ?_
  refine J_bipush (v := 40) 8 dX1_runs_8 rfl ?_
  refine J_icmp_le (tgt := 15) 10 dX1_runs_10 (by decide) (fun c_2_ => ?_) (fun c_2_ => ?_)
  · skip
    have c_2_ : d ≤ 40 := (nI_leI (a := d) (b := 40) (by omega) (by omega)).mp c_2_
    refine J_aload_n 15 0 dX1_runs_15 rfl rfl ?_
    refine J_iload_n 16 1 dX1_runs_16 rfl rfl ?_
    refine kb_RX1_48 (bs' := [wDe a bo (ct + 1) 0 4 nu te, wI G bo 30 (upd f ct 30)]) (rest := []) (st' := []) 17 (c_X1_notes l G 30 a bo ct 0 4 nu te f (by omega)) [0, 1] 0 rfl rfl rfl [[a], [bo]] rfl rfl rfl rfl rfl rfl (Nat.le_of_ble_eq_true rfl) rfl dX1_runs_17 ?_
    refine J_iload_n 20 3 dX1_runs_20 rfl rfl ?_
    refine J_iconst (v := 1) 21 dX1_runs_21 rfl ?_
    refine J_iadd 22 dX1_runs_22 ?_
    refine J_topi (y := nI (d + 1)) 23 (nI_add d 1) ?_
    refine J_istore (lv' := [some (.ref a), some (.int 30), some (.int x), some (.int (nI d)), some (.int (nI (d + 1)))]) 23 dX1_runs_23 (by decide) rfl ?_
    refine J_iload_n 25 1 dX1_runs_25 rfl rfl ?_
    refine J_tableIn (tgt := 316) (off := 290) 26 30 dX1_runs_26 rfl (by decide +kernel) (by decide) ?_
    refine J_aload_n 316 0 dX1_runs_316 rfl rfl ?_
    refine J_bipush (v := 10) 317 dX1_runs_317 rfl ?_
    refine J_iload_n 319 2 dX1_runs_319 rfl rfl ?_
    refine J_iload 320 dX1_runs_320 rfl ?_
    refine kb_RX1_52 (bs' := [wDe a bo ((ct + 1) + 1) 0 4 nu te, wI G bo 30 (pF [10] (upd f ct 30) (ct + 1))]) (rest := []) (st' := [.int (x * 5 + nu)]) 322 (c_runs_4_10 l G x (d + 1) a bo (ct + 1) nu te (upd f ct 30) (by omega) (by omega)) [0, 1] rfl rfl [[a], [bo]] rfl rfl rfl rfl rfl rfl (Nat.le_of_ble_eq_true rfl) rfl dX1_runs_322 ?_
    refine J_iconst (v := 4) 325 dX1_runs_325 rfl ?_
    refine J_isub 326 dX1_runs_326 ?_
    exact J_iret 327 dX1_runs_327 rfl (cg2 (fun (x0_ : Nat) (x1_ : Nat → Int32) => (wF [wDe a bo x0_ 0 4 nu te, wI G bo 30 x1_])) ((ct + 1) + 1) (ct + 2) (pF [10] (upd f ct 30) (ct + 1)) (pF [30, 10] f ct) rfl rfl)
  · skip
    have c_2_ : ¬ d ≤ 40 := fun z_ => c_2_ ((nI_leI (a := d) (b := 40) (by omega) (by omega)).mpr z_)
    omega
set_option maxRecDepth 100000 in
set_option maxHeartbeats 4000000 in
theorem c_runs_4_40 (l : Launch) (G : Gd) (x : Int32) (d : Nat) (a : Nat) (bo : Nat) (ct : Nat) (nu : Int32) (te : Int32) (f : Nat → Int32) (hd : d + 2 ≤ 40) (hc : ct + 3 ≤ 30) : Ct l G yX1_runs cX1_runs 5 (some (FieldType.int)) 3 [.ref a, .int 40, .int x, .int (nI d)] (wF [wDe a bo ct 0 4 nu te, wI G bo 30 f]) (some (.int (0 - ((x * 5 + nu) - 4)))) (wF [wDe a bo (ct + 3) 0 4 nu te, wI G bo 30 (pF [40, 30, 10] f ct)]) := by
  refine Ct.of "GooseArms$Deed" [some (.ref a), some (.int 40), some (.int x), some (.int (nI d)), none] (by decide +kernel) rfl (Nat.le_of_ble_eq_true rfl) rfl ?_
  refine J_aload_n 0 0 dX1_runs_0 rfl rfl ?_
  refine g_178 (v := .int 0) 1 0 rfl rfl dX1_runs_1 ?_
  refine J_if_ne (tgt := 13) 4 dX1_runs_4 (by decide) (fun c_1_ => absurd c_1_ (by decide)) (fun _ => ?_)
  refine J_iload_n 7 3 dX1_runs_7 rfl rfl ?_
  refine J_bipush (v := 40) 8 dX1_runs_8 rfl ?_
  refine J_icmp_le (tgt := 15) 10 dX1_runs_10 (by decide) (fun c_2_ => ?_) (fun c_2_ => ?_)
  · skip
    have c_2_ : d ≤ 40 := (nI_leI (a := d) (b := 40) (by omega) (by omega)).mp c_2_
    refine J_aload_n 15 0 dX1_runs_15 rfl rfl ?_
    refine J_iload_n 16 1 dX1_runs_16 rfl rfl ?_
    refine kb_RX1_48 (bs' := [wDe a bo (ct + 1) 0 4 nu te, wI G bo 30 (upd f ct 40)]) (rest := []) (st' := []) 17 (c_X1_notes l G 40 a bo ct 0 4 nu te f (by omega)) [0, 1] 0 rfl rfl rfl [[a], [bo]] rfl rfl rfl rfl rfl rfl (Nat.le_of_ble_eq_true rfl) rfl dX1_runs_17 ?_
    refine J_iload_n 20 3 dX1_runs_20 rfl rfl ?_
    refine J_iconst (v := 1) 21 dX1_runs_21 rfl ?_
    refine J_iadd 22 dX1_runs_22 ?_
    refine J_topi (y := nI (d + 1)) 23 (nI_add d 1) ?_
    refine J_istore (lv' := [some (.ref a), some (.int 40), some (.int x), some (.int (nI d)), some (.int (nI (d + 1)))]) 23 dX1_runs_23 (by decide) rfl ?_
    refine J_iload_n 25 1 dX1_runs_25 rfl rfl ?_
    refine J_tableIn (tgt := 357) (off := 331) 26 40 dX1_runs_26 rfl (by decide +kernel) (by decide) ?_
    refine J_iconst (v := 0) 357 dX1_runs_357 rfl ?_
    refine J_aload_n 358 0 dX1_runs_358 rfl rfl ?_
    refine J_bipush (v := 30) 359 dX1_runs_359 rfl ?_
    refine J_iload_n 361 2 dX1_runs_361 rfl rfl ?_
    refine J_iload 362 dX1_runs_362 rfl ?_
    refine kb_RX1_52 (bs' := [wDe a bo ((ct + 1) + 2) 0 4 nu te, wI G bo 30 (pF [30, 10] (upd f ct 40) (ct + 1))]) (rest := [.int 0]) (st' := [.int ((x * 5 + nu) - 4), .int 0]) 364 (c_runs_4_30 l G x (d + 1) a bo (ct + 1) nu te (upd f ct 40) (by omega) (by omega)) [0, 1] rfl rfl [[a], [bo]] rfl rfl rfl rfl rfl rfl (Nat.le_of_ble_eq_true rfl) rfl dX1_runs_364 ?_
    refine J_isub 367 dX1_runs_367 ?_
    exact J_iret 368 dX1_runs_368 rfl (cg2 (fun (x0_ : Nat) (x1_ : Nat → Int32) => (wF [wDe a bo x0_ 0 4 nu te, wI G bo 30 x1_])) ((ct + 1) + 2) (ct + 3) (pF [30, 10] (upd f ct 40) (ct + 1)) (pF [40, 30, 10] f ct) rfl rfl)
  · skip
    have c_2_ : ¬ d ≤ 40 := fun z_ => c_2_ ((nI_leI (a := d) (b := 40) (by omega) (by omega)).mpr z_)
    omega
set_option maxRecDepth 100000 in
set_option maxHeartbeats 4000000 in
theorem c_runs_4_11 (l : Launch) (G : Gd) (x : Int32) (d : Nat) (a : Nat) (bo : Nat) (ct : Nat) (nu : Int32) (te : Int32) (f : Nat → Int32) (hd : d + 3 ≤ 40) (hc : ct + 4 ≤ 30) : Ct l G yX1_runs cX1_runs 5 (some (FieldType.int)) 4 [.ref a, .int 11, .int x, .int (nI d)] (wF [wDe a bo ct 0 4 nu te, wI G bo 30 f]) (some (.int ((0 - ((x * 5 + nu) - 4)) - te))) (wF [wDe a bo (ct + 4) 0 4 nu te, wI G bo 30 (pF [11, 40, 30, 10] f ct)]) := by
  refine Ct.of "GooseArms$Deed" [some (.ref a), some (.int 11), some (.int x), some (.int (nI d)), none] (by decide +kernel) rfl (Nat.le_of_ble_eq_true rfl) rfl ?_
  refine J_aload_n 0 0 dX1_runs_0 rfl rfl ?_
  refine g_178 (v := .int 0) 1 0 rfl rfl dX1_runs_1 ?_
  refine J_if_ne (tgt := 13) 4 dX1_runs_4 (by decide) (fun c_1_ => absurd c_1_ (by decide)) (fun _ => ?_)
  refine J_iload_n 7 3 dX1_runs_7 rfl rfl ?_
  refine J_bipush (v := 40) 8 dX1_runs_8 rfl ?_
  refine J_icmp_le (tgt := 15) 10 dX1_runs_10 (by decide) (fun c_2_ => ?_) (fun c_2_ => ?_)
  · skip
    have c_2_ : d ≤ 40 := (nI_leI (a := d) (b := 40) (by omega) (by omega)).mp c_2_
    refine J_aload_n 15 0 dX1_runs_15 rfl rfl ?_
    refine J_iload_n 16 1 dX1_runs_16 rfl rfl ?_
    refine kb_RX1_48 (bs' := [wDe a bo (ct + 1) 0 4 nu te, wI G bo 30 (upd f ct 11)]) (rest := []) (st' := []) 17 (c_X1_notes l G 11 a bo ct 0 4 nu te f (by omega)) [0, 1] 0 rfl rfl rfl [[a], [bo]] rfl rfl rfl rfl rfl rfl (Nat.le_of_ble_eq_true rfl) rfl dX1_runs_17 ?_
    refine J_iload_n 20 3 dX1_runs_20 rfl rfl ?_
    refine J_iconst (v := 1) 21 dX1_runs_21 rfl ?_
    refine J_iadd 22 dX1_runs_22 ?_
    refine J_topi (y := nI (d + 1)) 23 (nI_add d 1) ?_
    refine J_istore (lv' := [some (.ref a), some (.int 11), some (.int x), some (.int (nI d)), some (.int (nI (d + 1)))]) 23 dX1_runs_23 (by decide) rfl ?_
    refine J_iload_n 25 1 dX1_runs_25 rfl rfl ?_
    refine J_tableIn (tgt := 257) (off := 231) 26 11 dX1_runs_26 rfl (by decide +kernel) (by decide) ?_
    refine J_aload_n 257 0 dX1_runs_257 rfl rfl ?_
    refine J_gets (v := .ref (G.2.2 2)) 258 w_744 gz2 rfl dX1_runs_258 ?_
    refine J_aload_n 261 0 dX1_runs_261 rfl rfl ?_
    refine g_180 (v := .int 4) 262 0 rfl rfl dX1_runs_262 ?_
    refine J_stat (v := .int 40) 265 gt2 4 rfl (by omega) (by decide) rfl dX1_runs_265 ?_
    refine J_iload_n 266 2 dX1_runs_266 rfl rfl ?_
    refine J_iload 267 dX1_runs_267 rfl ?_
    refine kb_RX1_52 (bs' := [wDe a bo ((ct + 1) + 3) 0 4 nu te, wI G bo 30 (pF [40, 30, 10] (upd f ct 11) (ct + 1))]) (rest := []) (st' := [.int (0 - ((x * 5 + nu) - 4))]) 269 (c_runs_4_40 l G x (d + 1) a bo (ct + 1) nu te (upd f ct 11) (by omega) (by omega)) [0, 1] rfl rfl [[a], [bo]] rfl rfl rfl rfl rfl rfl (Nat.le_of_ble_eq_true rfl) rfl dX1_runs_269 ?_
    refine J_aload_n 272 0 dX1_runs_272 rfl rfl ?_
    refine g_182 (v := .int te) 273 0 rfl rfl dX1_runs_273 ?_
    refine J_isub 276 dX1_runs_276 ?_
    exact J_iret 277 dX1_runs_277 rfl (cg2 (fun (x0_ : Nat) (x1_ : Nat → Int32) => (wF [wDe a bo x0_ 0 4 nu te, wI G bo 30 x1_])) ((ct + 1) + 3) (ct + 4) (pF [40, 30, 10] (upd f ct 11) (ct + 1)) (pF [11, 40, 30, 10] f ct) rfl rfl)
  · skip
    have c_2_ : ¬ d ≤ 40 := fun z_ => c_2_ ((nI_leI (a := d) (b := 40) (by omega) (by omega)).mpr z_)
    omega
set_option maxRecDepth 100000 in
set_option maxHeartbeats 4000000 in
theorem c_runs_4_41 (l : Launch) (G : Gd) (x : Int32) (d : Nat) (a : Nat) (bo : Nat) (ct : Nat) (nu : Int32) (te : Int32) (f : Nat → Int32) (hd : d + 4 ≤ 40) (hc : ct + 8 ≤ 30) : Ct l G yX1_runs cX1_runs 5 (some (FieldType.int)) 5 [.ref a, .int 41, .int x, .int (nI d)] (wF [wDe a bo ct 0 4 nu te, wI G bo 30 f]) (some (.int (((0 - ((x * 5 + nu) - 4)) - te) ^^^ (0 - ((te * 5 + nu) - 4))))) (wF [wDe a bo (ct + 8) 0 4 nu te, wI G bo 30 (pF [41, 11, 40, 30, 10, 40, 30, 10] f ct)]) := by
  refine Ct.of "GooseArms$Deed" [some (.ref a), some (.int 41), some (.int x), some (.int (nI d)), none] (by decide +kernel) rfl (Nat.le_of_ble_eq_true rfl) rfl ?_
  refine J_aload_n 0 0 dX1_runs_0 rfl rfl ?_
  refine g_178 (v := .int 0) 1 0 rfl rfl dX1_runs_1 ?_
  refine J_if_ne (tgt := 13) 4 dX1_runs_4 (by decide) (fun c_1_ => absurd c_1_ (by decide)) (fun _ => ?_)
  refine J_iload_n 7 3 dX1_runs_7 rfl rfl ?_
  refine J_bipush (v := 40) 8 dX1_runs_8 rfl ?_
  refine J_icmp_le (tgt := 15) 10 dX1_runs_10 (by decide) (fun c_2_ => ?_) (fun c_2_ => ?_)
  · skip
    have c_2_ : d ≤ 40 := (nI_leI (a := d) (b := 40) (by omega) (by omega)).mp c_2_
    refine J_aload_n 15 0 dX1_runs_15 rfl rfl ?_
    refine J_iload_n 16 1 dX1_runs_16 rfl rfl ?_
    refine kb_RX1_48 (bs' := [wDe a bo (ct + 1) 0 4 nu te, wI G bo 30 (upd f ct 41)]) (rest := []) (st' := []) 17 (c_X1_notes l G 41 a bo ct 0 4 nu te f (by omega)) [0, 1] 0 rfl rfl rfl [[a], [bo]] rfl rfl rfl rfl rfl rfl (Nat.le_of_ble_eq_true rfl) rfl dX1_runs_17 ?_
    refine J_iload_n 20 3 dX1_runs_20 rfl rfl ?_
    refine J_iconst (v := 1) 21 dX1_runs_21 rfl ?_
    refine J_iadd 22 dX1_runs_22 ?_
    refine J_topi (y := nI (d + 1)) 23 (nI_add d 1) ?_
    refine J_istore (lv' := [some (.ref a), some (.int 41), some (.int x), some (.int (nI d)), some (.int (nI (d + 1)))]) 23 dX1_runs_23 (by decide) rfl ?_
    refine J_iload_n 25 1 dX1_runs_25 rfl rfl ?_
    refine J_tableIn (tgt := 369) (off := 343) 26 41 dX1_runs_26 rfl (by decide +kernel) (by decide) ?_
    refine J_aload_n 369 0 dX1_runs_369 rfl rfl ?_
    refine J_bipush (v := 11) 370 dX1_runs_370 rfl ?_
    refine J_iload_n 372 2 dX1_runs_372 rfl rfl ?_
    refine J_iload 373 dX1_runs_373 rfl ?_
    refine kb_RX1_52 (bs' := [wDe a bo ((ct + 1) + 4) 0 4 nu te, wI G bo 30 (pF [11, 40, 30, 10] (upd f ct 41) (ct + 1))]) (rest := []) (st' := [.int ((0 - ((x * 5 + nu) - 4)) - te)]) 375 (c_runs_4_11 l G x (d + 1) a bo (ct + 1) nu te (upd f ct 41) (by omega) (by omega)) [0, 1] rfl rfl [[a], [bo]] rfl rfl rfl rfl rfl rfl (Nat.le_of_ble_eq_true rfl) rfl dX1_runs_375 ?_
    refine J_aload_n 378 0 dX1_runs_378 rfl rfl ?_
    refine J_gets (v := .ref (G.2.2 2)) 379 w_744 gz2 rfl dX1_runs_379 ?_
    refine J_aload_n 382 0 dX1_runs_382 rfl rfl ?_
    refine g_180 (v := .int 4) 383 0 rfl rfl dX1_runs_383 ?_
    refine J_stat (v := .int 40) 386 gt2 4 rfl (by omega) (by decide) rfl dX1_runs_386 ?_
    refine J_aload_n 387 0 dX1_runs_387 rfl rfl ?_
    refine g_182 (v := .int te) 388 0 rfl rfl dX1_runs_388 ?_
    refine J_iload 391 dX1_runs_391 rfl ?_
    refine kb_RX1_52 (bs' := [wDe a bo (((ct + 1) + 4) + 3) 0 4 nu te, wI G bo 30 (pF [40, 30, 10] (pF [11, 40, 30, 10] (upd f ct 41) (ct + 1)) ((ct + 1) + 4))]) (rest := [.int ((0 - ((x * 5 + nu) - 4)) - te)]) (st' := [.int (0 - ((te * 5 + nu) - 4)), .int ((0 - ((x * 5 + nu) - 4)) - te)]) 393 (c_runs_4_40 l G te (d + 1) a bo ((ct + 1) + 4) nu te (pF [11, 40, 30, 10] (upd f ct 41) (ct + 1)) (by omega) (by omega)) [0, 1] rfl rfl [[a], [bo]] rfl rfl rfl rfl rfl rfl (Nat.le_of_ble_eq_true rfl) rfl dX1_runs_393 ?_
    refine J_ixor 396 dX1_runs_396 ?_
    exact J_iret 397 dX1_runs_397 rfl (cg2 (fun (x0_ : Nat) (x1_ : Nat → Int32) => (wF [wDe a bo x0_ 0 4 nu te, wI G bo 30 x1_])) (((ct + 1) + 4) + 3) (ct + 8) (pF [40, 30, 10] (pF [11, 40, 30, 10] (upd f ct 41) (ct + 1)) ((ct + 1) + 4)) (pF [41, 11, 40, 30, 10, 40, 30, 10] f ct) rfl rfl)
  · skip
    have c_2_ : ¬ d ≤ 40 := fun z_ => c_2_ ((nI_leI (a := d) (b := 40) (by omega) (by omega)).mpr z_)
    omega
set_option maxRecDepth 100000 in
set_option maxHeartbeats 4000000 in
theorem c_runs_4_12 (l : Launch) (G : Gd) (x : Int32) (d : Nat) (a : Nat) (bo : Nat) (ct : Nat) (nu : Int32) (te : Int32) (f : Nat → Int32) (hd : d + 0 ≤ 40) (hc : ct + 1 ≤ 30) (hz : ¬ te - nu = 0) : Ct l G yX1_runs cX1_runs 5 (some (FieldType.int)) 1 [.ref a, .int 12, .int x, .int (nI d)] (wF [wDe a bo ct 0 4 nu te, wI G bo 30 f]) (some (.int (x / (te - nu)))) (wF [wDe a bo (ct + 1) 0 4 nu te, wI G bo 30 (pF [12] f ct)]) := by
  refine Ct.of "GooseArms$Deed" [some (.ref a), some (.int 12), some (.int x), some (.int (nI d)), none] (by decide +kernel) rfl (Nat.le_of_ble_eq_true rfl) rfl ?_
  refine J_aload_n 0 0 dX1_runs_0 rfl rfl ?_
  refine g_178 (v := .int 0) 1 0 rfl rfl dX1_runs_1 ?_
  refine J_if_ne (tgt := 13) 4 dX1_runs_4 (by decide) (fun c_1_ => absurd c_1_ (by decide)) (fun _ => ?_)
  refine J_iload_n 7 3 dX1_runs_7 rfl rfl ?_
  refine J_bipush (v := 40) 8 dX1_runs_8 rfl ?_
  refine J_icmp_le (tgt := 15) 10 dX1_runs_10 (by decide) (fun c_2_ => ?_) (fun c_2_ => ?_)
  · skip
    have c_2_ : d ≤ 40 := (nI_leI (a := d) (b := 40) (by omega) (by omega)).mp c_2_
    refine J_aload_n 15 0 dX1_runs_15 rfl rfl ?_
    refine J_iload_n 16 1 dX1_runs_16 rfl rfl ?_
    refine kb_RX1_48 (bs' := [wDe a bo (ct + 1) 0 4 nu te, wI G bo 30 (upd f ct 12)]) (rest := []) (st' := []) 17 (c_X1_notes l G 12 a bo ct 0 4 nu te f (by omega)) [0, 1] 0 rfl rfl rfl [[a], [bo]] rfl rfl rfl rfl rfl rfl (Nat.le_of_ble_eq_true rfl) rfl dX1_runs_17 ?_
    refine J_iload_n 20 3 dX1_runs_20 rfl rfl ?_
    refine J_iconst (v := 1) 21 dX1_runs_21 rfl ?_
    refine J_iadd 22 dX1_runs_22 ?_
    refine J_topi (y := nI (d + 1)) 23 (nI_add d 1) ?_
    refine J_istore (lv' := [some (.ref a), some (.int 12), some (.int x), some (.int (nI d)), some (.int (nI (d + 1)))]) 23 dX1_runs_23 (by decide) rfl ?_
    refine J_iload_n 25 1 dX1_runs_25 rfl rfl ?_
    refine J_tableIn (tgt := 278) (off := 252) 26 12 dX1_runs_26 rfl (by decide +kernel) (by decide) ?_
    refine J_aload_n 278 0 dX1_runs_278 rfl rfl ?_
    refine J_iload_n 279 2 dX1_runs_279 rfl rfl ?_
    refine kb_RX1_56 (bs' := [wDe a bo (ct + 1) 0 4 nu te, wI G bo 30 (upd f ct 12)]) (rest := []) (st' := [.int (x / (te - nu))]) 280 (c_X1_quotient l G x a bo (ct + 1) 0 4 nu te (by omega)) [0] 0 rfl rfl rfl [[a]] rfl rfl rfl rfl rfl rfl (Nat.le_of_ble_eq_true rfl) rfl dX1_runs_280 ?_
    exact J_iret 283 dX1_runs_283 rfl (cg1 (fun (x0_ : Nat → Int32) => (wF [wDe a bo (ct + 1) 0 4 nu te, wI G bo 30 x0_])) (upd f ct 12) (pF [12] f ct) rfl)
  · skip
    have c_2_ : ¬ d ≤ 40 := fun z_ => c_2_ ((nI_leI (a := d) (b := 40) (by omega) (by omega)).mpr z_)
    omega
set_option maxRecDepth 100000 in
set_option maxHeartbeats 4000000 in
theorem c_runs_4_12z (l : Launch) (G : Gd) (x : Int32) (d : Nat) (a : Nat) (bo : Nat) (ct : Nat) (nu : Int32) (te : Int32) (f : Nat → Int32) (hd : d + 0 ≤ 40) (hc : ct + 1 ≤ 30) (hz : te - nu = 0) : Ct l G yX1_runs cX1_runs 5 (some (FieldType.int)) 1 [.ref a, .int 12, .int x, .int (nI d)] (wF [wDe a bo ct 0 4 nu te, wI G bo 30 f]) (some (.int 0)) (wF [wDe a bo (ct + 1) 1 4 nu te, wI G bo 30 (pF [12] f ct)]) := by
  refine Ct.of "GooseArms$Deed" [some (.ref a), some (.int 12), some (.int x), some (.int (nI d)), none] (by decide +kernel) rfl (Nat.le_of_ble_eq_true rfl) rfl ?_
  refine J_aload_n 0 0 dX1_runs_0 rfl rfl ?_
  refine g_178 (v := .int 0) 1 0 rfl rfl dX1_runs_1 ?_
  refine J_if_ne (tgt := 13) 4 dX1_runs_4 (by decide) (fun c_1_ => absurd c_1_ (by decide)) (fun _ => ?_)
  refine J_iload_n 7 3 dX1_runs_7 rfl rfl ?_
  refine J_bipush (v := 40) 8 dX1_runs_8 rfl ?_
  refine J_icmp_le (tgt := 15) 10 dX1_runs_10 (by decide) (fun c_2_ => ?_) (fun c_2_ => ?_)
  · skip
    have c_2_ : d ≤ 40 := (nI_leI (a := d) (b := 40) (by omega) (by omega)).mp c_2_
    refine J_aload_n 15 0 dX1_runs_15 rfl rfl ?_
    refine J_iload_n 16 1 dX1_runs_16 rfl rfl ?_
    refine kb_RX1_48 (bs' := [wDe a bo (ct + 1) 0 4 nu te, wI G bo 30 (upd f ct 12)]) (rest := []) (st' := []) 17 (c_X1_notes l G 12 a bo ct 0 4 nu te f (by omega)) [0, 1] 0 rfl rfl rfl [[a], [bo]] rfl rfl rfl rfl rfl rfl (Nat.le_of_ble_eq_true rfl) rfl dX1_runs_17 ?_
    refine J_iload_n 20 3 dX1_runs_20 rfl rfl ?_
    refine J_iconst (v := 1) 21 dX1_runs_21 rfl ?_
    refine J_iadd 22 dX1_runs_22 ?_
    refine J_topi (y := nI (d + 1)) 23 (nI_add d 1) ?_
    refine J_istore (lv' := [some (.ref a), some (.int 12), some (.int x), some (.int (nI d)), some (.int (nI (d + 1)))]) 23 dX1_runs_23 (by decide) rfl ?_
    refine J_iload_n 25 1 dX1_runs_25 rfl rfl ?_
    refine J_tableIn (tgt := 278) (off := 252) 26 12 dX1_runs_26 rfl (by decide +kernel) (by decide) ?_
    refine J_aload_n 278 0 dX1_runs_278 rfl rfl ?_
    refine J_iload_n 279 2 dX1_runs_279 rfl rfl ?_
    refine kb_RX1_56 (bs' := [wDe a bo (ct + 1) 1 4 nu te, wI G bo 30 (upd f ct 12)]) (rest := []) (st' := [.int 0]) 280 (c_X1_quotient_z l G x a bo (ct + 1) 0 4 nu te (by omega)) [0] 0 rfl rfl rfl [[a]] rfl rfl rfl rfl rfl rfl (Nat.le_of_ble_eq_true rfl) rfl dX1_runs_280 ?_
    exact J_iret 283 dX1_runs_283 rfl (cg1 (fun (x0_ : Nat → Int32) => (wF [wDe a bo (ct + 1) 1 4 nu te, wI G bo 30 x0_])) (upd f ct 12) (pF [12] f ct) rfl)
  · skip
    have c_2_ : ¬ d ≤ 40 := fun z_ => c_2_ ((nI_leI (a := d) (b := 40) (by omega) (by omega)).mpr z_)
    omega
set_option maxRecDepth 100000 in
set_option maxHeartbeats 4000000 in
theorem c_runs_4_13 (l : Launch) (G : Gd) (x : Int32) (d : Nat) (a : Nat) (bo : Nat) (ct : Nat) (nu : Int32) (te : Int32) (f : Nat → Int32) (hd : d + 5 ≤ 40) (hc : ct + 9 ≤ 30) : Ct l G yX1_runs cX1_runs 5 (some (FieldType.int)) 6 [.ref a, .int 13, .int x, .int (nI d)] (wF [wDe a bo ct 0 4 nu te, wI G bo 30 f]) (some (.int ((((0 - ((x * 5 + nu) - 4)) - te) ^^^ (0 - ((te * 5 + nu) - 4))) ^^^ 150))) (wF [wDe a bo (ct + 9) 0 4 nu te, wI G bo 30 (pF [13, 41, 11, 40, 30, 10, 40, 30, 10] f ct)]) := by
  refine Ct.of "GooseArms$Deed" [some (.ref a), some (.int 13), some (.int x), some (.int (nI d)), none] (by decide +kernel) rfl (Nat.le_of_ble_eq_true rfl) rfl ?_
  refine J_aload_n 0 0 dX1_runs_0 rfl rfl ?_
  refine g_178 (v := .int 0) 1 0 rfl rfl dX1_runs_1 ?_
  refine J_if_ne (tgt := 13) 4 dX1_runs_4 (by decide) (fun c_1_ => absurd c_1_ (by decide)) (fun _ => ?_)
  refine J_iload_n 7 3 dX1_runs_7 rfl rfl ?_
  refine J_bipush (v := 40) 8 dX1_runs_8 rfl ?_
  refine J_icmp_le (tgt := 15) 10 dX1_runs_10 (by decide) (fun c_2_ => ?_) (fun c_2_ => ?_)
  · skip
    have c_2_ : d ≤ 40 := (nI_leI (a := d) (b := 40) (by omega) (by omega)).mp c_2_
    refine J_aload_n 15 0 dX1_runs_15 rfl rfl ?_
    refine J_iload_n 16 1 dX1_runs_16 rfl rfl ?_
    refine kb_RX1_48 (bs' := [wDe a bo (ct + 1) 0 4 nu te, wI G bo 30 (upd f ct 13)]) (rest := []) (st' := []) 17 (c_X1_notes l G 13 a bo ct 0 4 nu te f (by omega)) [0, 1] 0 rfl rfl rfl [[a], [bo]] rfl rfl rfl rfl rfl rfl (Nat.le_of_ble_eq_true rfl) rfl dX1_runs_17 ?_
    refine J_iload_n 20 3 dX1_runs_20 rfl rfl ?_
    refine J_iconst (v := 1) 21 dX1_runs_21 rfl ?_
    refine J_iadd 22 dX1_runs_22 ?_
    refine J_topi (y := nI (d + 1)) 23 (nI_add d 1) ?_
    refine J_istore (lv' := [some (.ref a), some (.int 13), some (.int x), some (.int (nI d)), some (.int (nI (d + 1)))]) 23 dX1_runs_23 (by decide) rfl ?_
    refine J_iload_n 25 1 dX1_runs_25 rfl rfl ?_
    refine J_tableIn (tgt := 284) (off := 258) 26 13 dX1_runs_26 rfl (by decide +kernel) (by decide) ?_
    refine J_aload_n 284 0 dX1_runs_284 rfl rfl ?_
    refine J_gets (v := .ref (G.2.2 3)) 285 w_746 gz3 rfl dX1_runs_285 ?_
    refine J_aload_n 288 0 dX1_runs_288 rfl rfl ?_
    refine g_180 (v := .int 4) 289 0 rfl rfl dX1_runs_289 ?_
    refine J_stat (v := .int 41) 292 gt3 4 rfl (by omega) (by decide) rfl dX1_runs_292 ?_
    refine J_iload_n 293 2 dX1_runs_293 rfl rfl ?_
    refine J_iload 294 dX1_runs_294 rfl ?_
    refine kb_RX1_52 (bs' := [wDe a bo ((ct + 1) + 8) 0 4 nu te, wI G bo 30 (pF [41, 11, 40, 30, 10, 40, 30, 10] (upd f ct 13) (ct + 1))]) (rest := []) (st' := [.int (((0 - ((x * 5 + nu) - 4)) - te) ^^^ (0 - ((te * 5 + nu) - 4)))]) 296 (c_runs_4_41 l G x (d + 1) a bo (ct + 1) nu te (upd f ct 13) (by omega) (by omega)) [0, 1] rfl rfl [[a], [bo]] rfl rfl rfl rfl rfl rfl (Nat.le_of_ble_eq_true rfl) rfl dX1_runs_296 ?_
    refine J_sipush (v := 150) 299 dX1_runs_299 rfl ?_
    refine J_ixor 302 dX1_runs_302 ?_
    exact J_iret 303 dX1_runs_303 rfl (cg2 (fun (x0_ : Nat) (x1_ : Nat → Int32) => (wF [wDe a bo x0_ 0 4 nu te, wI G bo 30 x1_])) ((ct + 1) + 8) (ct + 9) (pF [41, 11, 40, 30, 10, 40, 30, 10] (upd f ct 13) (ct + 1)) (pF [13, 41, 11, 40, 30, 10, 40, 30, 10] f ct) rfl rfl)
  · skip
    have c_2_ : ¬ d ≤ 40 := fun z_ => c_2_ ((nI_leI (a := d) (b := 40) (by omega) (by omega)).mpr z_)
    omega
set_option maxRecDepth 100000 in
set_option maxHeartbeats 4000000 in
theorem c_runs_4_31 (l : Launch) (G : Gd) (x : Int32) (d : Nat) (a : Nat) (bo : Nat) (ct : Nat) (nu : Int32) (te : Int32) (f : Nat → Int32) (hd : d + 6 ≤ 40) (hc : ct + 11 ≤ 30) (hz : ¬ te - nu = 0) : Ct l G yX1_runs cX1_runs 5 (some (FieldType.int)) 7 [.ref a, .int 31, .int x, .int (nI d)] (wF [wDe a bo ct 0 4 nu te, wI G bo 30 f]) (some (.int (((((0 - ((x * 5 + nu) - 4)) - te) ^^^ (0 - ((te * 5 + nu) - 4))) ^^^ 150) + (nu / (te - nu))))) (wF [wDe a bo (ct + 11) 0 4 nu te, wI G bo 30 (pF [31, 13, 41, 11, 40, 30, 10, 40, 30, 10, 12] f ct)]) := by
  refine Ct.of "GooseArms$Deed" [some (.ref a), some (.int 31), some (.int x), some (.int (nI d)), none] (by decide +kernel) rfl (Nat.le_of_ble_eq_true rfl) rfl ?_
  refine J_aload_n 0 0 dX1_runs_0 rfl rfl ?_
  refine g_178 (v := .int 0) 1 0 rfl rfl dX1_runs_1 ?_
  refine J_if_ne (tgt := 13) 4 dX1_runs_4 (by decide) (fun c_1_ => absurd c_1_ (by decide)) (fun _ => ?_)
  refine J_iload_n 7 3 dX1_runs_7 rfl rfl ?_
  refine J_bipush (v := 40) 8 dX1_runs_8 rfl ?_
  refine J_icmp_le (tgt := 15) 10 dX1_runs_10 (by decide) (fun c_2_ => ?_) (fun c_2_ => ?_)
  · skip
    have c_2_ : d ≤ 40 := (nI_leI (a := d) (b := 40) (by omega) (by omega)).mp c_2_
    refine J_aload_n 15 0 dX1_runs_15 rfl rfl ?_
    refine J_iload_n 16 1 dX1_runs_16 rfl rfl ?_
    refine kb_RX1_48 (bs' := [wDe a bo (ct + 1) 0 4 nu te, wI G bo 30 (upd f ct 31)]) (rest := []) (st' := []) 17 (c_X1_notes l G 31 a bo ct 0 4 nu te f (by omega)) [0, 1] 0 rfl rfl rfl [[a], [bo]] rfl rfl rfl rfl rfl rfl (Nat.le_of_ble_eq_true rfl) rfl dX1_runs_17 ?_
    refine J_iload_n 20 3 dX1_runs_20 rfl rfl ?_
    refine J_iconst (v := 1) 21 dX1_runs_21 rfl ?_
    refine J_iadd 22 dX1_runs_22 ?_
    refine J_topi (y := nI (d + 1)) 23 (nI_add d 1) ?_
    refine J_istore (lv' := [some (.ref a), some (.int 31), some (.int x), some (.int (nI d)), some (.int (nI (d + 1)))]) 23 dX1_runs_23 (by decide) rfl ?_
    refine J_iload_n 25 1 dX1_runs_25 rfl rfl ?_
    refine J_tableIn (tgt := 328) (off := 302) 26 31 dX1_runs_26 rfl (by decide +kernel) (by decide) ?_
    refine J_aload_n 328 0 dX1_runs_328 rfl rfl ?_
    refine J_bipush (v := 13) 329 dX1_runs_329 rfl ?_
    refine J_iload_n 331 2 dX1_runs_331 rfl rfl ?_
    refine J_iload 332 dX1_runs_332 rfl ?_
    refine kb_RX1_52 (bs' := [wDe a bo ((ct + 1) + 9) 0 4 nu te, wI G bo 30 (pF [13, 41, 11, 40, 30, 10, 40, 30, 10] (upd f ct 31) (ct + 1))]) (rest := []) (st' := [.int ((((0 - ((x * 5 + nu) - 4)) - te) ^^^ (0 - ((te * 5 + nu) - 4))) ^^^ 150)]) 334 (c_runs_4_13 l G x (d + 1) a bo (ct + 1) nu te (upd f ct 31) (by omega) (by omega)) [0, 1] rfl rfl [[a], [bo]] rfl rfl rfl rfl rfl rfl (Nat.le_of_ble_eq_true rfl) rfl dX1_runs_334 ?_
    refine J_aload_n 337 0 dX1_runs_337 rfl rfl ?_
    refine J_gets (v := .ref (G.2.2 4)) 338 w_748 gz4 rfl dX1_runs_338 ?_
    refine J_aload_n 341 0 dX1_runs_341 rfl rfl ?_
    refine g_180 (v := .int 4) 342 0 rfl rfl dX1_runs_342 ?_
    refine J_stat (v := .int 12) 345 gt4 4 rfl (by omega) (by decide) rfl dX1_runs_345 ?_
    refine J_aload_n 346 0 dX1_runs_346 rfl rfl ?_
    refine g_181 (v := .int nu) 347 0 rfl rfl dX1_runs_347 ?_
    refine J_iload 350 dX1_runs_350 rfl ?_
    refine kb_RX1_52 (bs' := [wDe a bo (((ct + 1) + 9) + 1) 0 4 nu te, wI G bo 30 (pF [12] (pF [13, 41, 11, 40, 30, 10, 40, 30, 10] (upd f ct 31) (ct + 1)) ((ct + 1) + 9))]) (rest := [.int ((((0 - ((x * 5 + nu) - 4)) - te) ^^^ (0 - ((te * 5 + nu) - 4))) ^^^ 150)]) (st' := [.int (nu / (te - nu)), .int ((((0 - ((x * 5 + nu) - 4)) - te) ^^^ (0 - ((te * 5 + nu) - 4))) ^^^ 150)]) 352 (c_runs_4_12 l G nu (d + 1) a bo ((ct + 1) + 9) nu te (pF [13, 41, 11, 40, 30, 10, 40, 30, 10] (upd f ct 31) (ct + 1)) (by omega) (by omega) (by omega)) [0, 1] rfl rfl [[a], [bo]] rfl rfl rfl rfl rfl rfl (Nat.le_of_ble_eq_true rfl) rfl dX1_runs_352 ?_
    refine J_iadd 355 dX1_runs_355 ?_
    exact J_iret 356 dX1_runs_356 rfl (cg2 (fun (x0_ : Nat) (x1_ : Nat → Int32) => (wF [wDe a bo x0_ 0 4 nu te, wI G bo 30 x1_])) (((ct + 1) + 9) + 1) (ct + 11) (pF [12] (pF [13, 41, 11, 40, 30, 10, 40, 30, 10] (upd f ct 31) (ct + 1)) ((ct + 1) + 9)) (pF [31, 13, 41, 11, 40, 30, 10, 40, 30, 10, 12] f ct) rfl rfl)
  · skip
    have c_2_ : ¬ d ≤ 40 := fun z_ => c_2_ ((nI_leI (a := d) (b := 40) (by omega) (by omega)).mpr z_)
    omega
set_option maxRecDepth 100000 in
set_option maxHeartbeats 4000000 in
theorem c_runs_4_31z (l : Launch) (G : Gd) (x : Int32) (d : Nat) (a : Nat) (bo : Nat) (ct : Nat) (nu : Int32) (te : Int32) (f : Nat → Int32) (hd : d + 6 ≤ 40) (hc : ct + 11 ≤ 30) (hz : te - nu = 0) : Ct l G yX1_runs cX1_runs 5 (some (FieldType.int)) 7 [.ref a, .int 31, .int x, .int (nI d)] (wF [wDe a bo ct 0 4 nu te, wI G bo 30 f]) (some (.int (((((0 - ((x * 5 + nu) - 4)) - te) ^^^ (0 - ((te * 5 + nu) - 4))) ^^^ 150) + 0))) (wF [wDe a bo (ct + 11) 1 4 nu te, wI G bo 30 (pF [31, 13, 41, 11, 40, 30, 10, 40, 30, 10, 12] f ct)]) := by
  refine Ct.of "GooseArms$Deed" [some (.ref a), some (.int 31), some (.int x), some (.int (nI d)), none] (by decide +kernel) rfl (Nat.le_of_ble_eq_true rfl) rfl ?_
  refine J_aload_n 0 0 dX1_runs_0 rfl rfl ?_
  refine g_178 (v := .int 0) 1 0 rfl rfl dX1_runs_1 ?_
  refine J_if_ne (tgt := 13) 4 dX1_runs_4 (by decide) (fun c_1_ => absurd c_1_ (by decide)) (fun _ => ?_)
  refine J_iload_n 7 3 dX1_runs_7 rfl rfl ?_
  refine J_bipush (v := 40) 8 dX1_runs_8 rfl ?_
  refine J_icmp_le (tgt := 15) 10 dX1_runs_10 (by decide) (fun c_2_ => ?_) (fun c_2_ => ?_)
  · skip
    have c_2_ : d ≤ 40 := (nI_leI (a := d) (b := 40) (by omega) (by omega)).mp c_2_
    refine J_aload_n 15 0 dX1_runs_15 rfl rfl ?_
    refine J_iload_n 16 1 dX1_runs_16 rfl rfl ?_
    refine kb_RX1_48 (bs' := [wDe a bo (ct + 1) 0 4 nu te, wI G bo 30 (upd f ct 31)]) (rest := []) (st' := []) 17 (c_X1_notes l G 31 a bo ct 0 4 nu te f (by omega)) [0, 1] 0 rfl rfl rfl [[a], [bo]] rfl rfl rfl rfl rfl rfl (Nat.le_of_ble_eq_true rfl) rfl dX1_runs_17 ?_
    refine J_iload_n 20 3 dX1_runs_20 rfl rfl ?_
    refine J_iconst (v := 1) 21 dX1_runs_21 rfl ?_
    refine J_iadd 22 dX1_runs_22 ?_
    refine J_topi (y := nI (d + 1)) 23 (nI_add d 1) ?_
    refine J_istore (lv' := [some (.ref a), some (.int 31), some (.int x), some (.int (nI d)), some (.int (nI (d + 1)))]) 23 dX1_runs_23 (by decide) rfl ?_
    refine J_iload_n 25 1 dX1_runs_25 rfl rfl ?_
    refine J_tableIn (tgt := 328) (off := 302) 26 31 dX1_runs_26 rfl (by decide +kernel) (by decide) ?_
    refine J_aload_n 328 0 dX1_runs_328 rfl rfl ?_
    refine J_bipush (v := 13) 329 dX1_runs_329 rfl ?_
    refine J_iload_n 331 2 dX1_runs_331 rfl rfl ?_
    refine J_iload 332 dX1_runs_332 rfl ?_
    refine kb_RX1_52 (bs' := [wDe a bo ((ct + 1) + 9) 0 4 nu te, wI G bo 30 (pF [13, 41, 11, 40, 30, 10, 40, 30, 10] (upd f ct 31) (ct + 1))]) (rest := []) (st' := [.int ((((0 - ((x * 5 + nu) - 4)) - te) ^^^ (0 - ((te * 5 + nu) - 4))) ^^^ 150)]) 334 (c_runs_4_13 l G x (d + 1) a bo (ct + 1) nu te (upd f ct 31) (by omega) (by omega)) [0, 1] rfl rfl [[a], [bo]] rfl rfl rfl rfl rfl rfl (Nat.le_of_ble_eq_true rfl) rfl dX1_runs_334 ?_
    refine J_aload_n 337 0 dX1_runs_337 rfl rfl ?_
    refine J_gets (v := .ref (G.2.2 4)) 338 w_748 gz4 rfl dX1_runs_338 ?_
    refine J_aload_n 341 0 dX1_runs_341 rfl rfl ?_
    refine g_180 (v := .int 4) 342 0 rfl rfl dX1_runs_342 ?_
    refine J_stat (v := .int 12) 345 gt4 4 rfl (by omega) (by decide) rfl dX1_runs_345 ?_
    refine J_aload_n 346 0 dX1_runs_346 rfl rfl ?_
    refine g_181 (v := .int nu) 347 0 rfl rfl dX1_runs_347 ?_
    refine J_iload 350 dX1_runs_350 rfl ?_
    refine kb_RX1_52 (bs' := [wDe a bo (((ct + 1) + 9) + 1) 1 4 nu te, wI G bo 30 (pF [12] (pF [13, 41, 11, 40, 30, 10, 40, 30, 10] (upd f ct 31) (ct + 1)) ((ct + 1) + 9))]) (rest := [.int ((((0 - ((x * 5 + nu) - 4)) - te) ^^^ (0 - ((te * 5 + nu) - 4))) ^^^ 150)]) (st' := [.int 0, .int ((((0 - ((x * 5 + nu) - 4)) - te) ^^^ (0 - ((te * 5 + nu) - 4))) ^^^ 150)]) 352 (c_runs_4_12z l G nu (d + 1) a bo ((ct + 1) + 9) nu te (pF [13, 41, 11, 40, 30, 10, 40, 30, 10] (upd f ct 31) (ct + 1)) (by omega) (by omega) (by omega)) [0, 1] rfl rfl [[a], [bo]] rfl rfl rfl rfl rfl rfl (Nat.le_of_ble_eq_true rfl) rfl dX1_runs_352 ?_
    refine J_iadd 355 dX1_runs_355 ?_
    exact J_iret 356 dX1_runs_356 rfl (cg2 (fun (x0_ : Nat) (x1_ : Nat → Int32) => (wF [wDe a bo x0_ 1 4 nu te, wI G bo 30 x1_])) (((ct + 1) + 9) + 1) (ct + 11) (pF [12] (pF [13, 41, 11, 40, 30, 10, 40, 30, 10] (upd f ct 31) (ct + 1)) ((ct + 1) + 9)) (pF [31, 13, 41, 11, 40, 30, 10, 40, 30, 10, 12] f ct) rfl rfl)
  · skip
    have c_2_ : ¬ d ≤ 40 := fun z_ => c_2_ ((nI_leI (a := d) (b := 40) (by omega) (by omega)).mpr z_)
    omega
set_option maxRecDepth 100000 in
set_option maxHeartbeats 4000000 in
theorem c_runs_5_10 (l : Launch) (G : Gd) (x : Int32) (d : Nat) (a : Nat) (bo : Nat) (ct : Nat) (nu : Int32) (te : Int32) (f : Nat → Int32) (hd : d + 0 ≤ 40) (hc : ct + 1 ≤ 30) : Ct l G yX1_runs cX1_runs 5 (some (FieldType.int)) 1 [.ref a, .int 10, .int x, .int (nI d)] (wF [wDe a bo ct 0 5 nu te, wI G bo 30 f]) (some (.int (x * 5 + nu))) (wF [wDe a bo (ct + 1) 0 5 nu te, wI G bo 30 (pF [10] f ct)]) := by
  refine Ct.of "GooseArms$Deed" [some (.ref a), some (.int 10), some (.int x), some (.int (nI d)), none] (by decide +kernel) rfl (Nat.le_of_ble_eq_true rfl) rfl ?_
  refine J_aload_n 0 0 dX1_runs_0 rfl rfl ?_
  refine g_178 (v := .int 0) 1 0 rfl rfl dX1_runs_1 ?_
  refine J_if_ne (tgt := 13) 4 dX1_runs_4 (by decide) (fun c_1_ => absurd c_1_ (by decide)) (fun _ => ?_)
  refine J_iload_n 7 3 dX1_runs_7 rfl rfl ?_
  refine J_bipush (v := 40) 8 dX1_runs_8 rfl ?_
  refine J_icmp_le (tgt := 15) 10 dX1_runs_10 (by decide) (fun c_2_ => ?_) (fun c_2_ => ?_)
  · skip
    have c_2_ : d ≤ 40 := (nI_leI (a := d) (b := 40) (by omega) (by omega)).mp c_2_
    refine J_aload_n 15 0 dX1_runs_15 rfl rfl ?_
    refine J_iload_n 16 1 dX1_runs_16 rfl rfl ?_
    refine kb_RX1_48 (bs' := [wDe a bo (ct + 1) 0 5 nu te, wI G bo 30 (upd f ct 10)]) (rest := []) (st' := []) 17 (c_X1_notes l G 10 a bo ct 0 5 nu te f (by omega)) [0, 1] 0 rfl rfl rfl [[a], [bo]] rfl rfl rfl rfl rfl rfl (Nat.le_of_ble_eq_true rfl) rfl dX1_runs_17 ?_
    refine J_iload_n 20 3 dX1_runs_20 rfl rfl ?_
    refine J_iconst (v := 1) 21 dX1_runs_21 rfl ?_
    refine J_iadd 22 dX1_runs_22 ?_
    refine J_topi (y := nI (d + 1)) 23 (nI_add d 1) ?_
    refine J_istore (lv' := [some (.ref a), some (.int 10), some (.int x), some (.int (nI d)), some (.int (nI (d + 1)))]) 23 dX1_runs_23 (by decide) rfl ?_
    refine J_iload_n 25 1 dX1_runs_25 rfl rfl ?_
    refine J_tableIn (tgt := 248) (off := 222) 26 10 dX1_runs_26 rfl (by decide +kernel) (by decide) ?_
    refine J_iload_n 248 2 dX1_runs_248 rfl rfl ?_
    refine J_iconst (v := 5) 249 dX1_runs_249 rfl ?_
    refine J_imul 250 dX1_runs_250 ?_
    refine J_aload_n 251 0 dX1_runs_251 rfl rfl ?_
    refine g_181 (v := .int nu) 252 0 rfl rfl dX1_runs_252 ?_
    refine J_iadd 255 dX1_runs_255 ?_
    exact J_iret 256 dX1_runs_256 (congrArg (fun x_ => some (Value.int x_)) rfl) (cg1 (fun (x0_ : Nat → Int32) => (wF [wDe a bo (ct + 1) 0 5 nu te, wI G bo 30 x0_])) (upd f ct 10) (pF [10] f ct) rfl)
  · skip
    have c_2_ : ¬ d ≤ 40 := fun z_ => c_2_ ((nI_leI (a := d) (b := 40) (by omega) (by omega)).mpr z_)
    omega
set_option maxRecDepth 100000 in
set_option maxHeartbeats 4000000 in
theorem c_runs_5_11 (l : Launch) (G : Gd) (x : Int32) (d : Nat) (a : Nat) (bo : Nat) (ct : Nat) (nu : Int32) (te : Int32) (f : Nat → Int32) (hd : d + 1 ≤ 40) (hc : ct + 2 ≤ 30) : Ct l G yX1_runs cX1_runs 5 (some (FieldType.int)) 2 [.ref a, .int 11, .int x, .int (nI d)] (wF [wDe a bo ct 0 5 nu te, wI G bo 30 f]) (some (.int ((x * 5 + nu) - te))) (wF [wDe a bo (ct + 2) 0 5 nu te, wI G bo 30 (pF [11, 10] f ct)]) := by
  refine Ct.of "GooseArms$Deed" [some (.ref a), some (.int 11), some (.int x), some (.int (nI d)), none] (by decide +kernel) rfl (Nat.le_of_ble_eq_true rfl) rfl ?_
  refine J_aload_n 0 0 dX1_runs_0 rfl rfl ?_
  refine g_178 (v := .int 0) 1 0 rfl rfl dX1_runs_1 ?_
  refine J_if_ne (tgt := 13) 4 dX1_runs_4 (by decide) (fun c_1_ => absurd c_1_ (by decide)) (fun _ => ?_)
  refine J_iload_n 7 3 dX1_runs_7 rfl rfl ?_
  refine J_bipush (v := 40) 8 dX1_runs_8 rfl ?_
  refine J_icmp_le (tgt := 15) 10 dX1_runs_10 (by decide) (fun c_2_ => ?_) (fun c_2_ => ?_)
  · skip
    have c_2_ : d ≤ 40 := (nI_leI (a := d) (b := 40) (by omega) (by omega)).mp c_2_
    refine J_aload_n 15 0 dX1_runs_15 rfl rfl ?_
    refine J_iload_n 16 1 dX1_runs_16 rfl rfl ?_
    refine kb_RX1_48 (bs' := [wDe a bo (ct + 1) 0 5 nu te, wI G bo 30 (upd f ct 11)]) (rest := []) (st' := []) 17 (c_X1_notes l G 11 a bo ct 0 5 nu te f (by omega)) [0, 1] 0 rfl rfl rfl [[a], [bo]] rfl rfl rfl rfl rfl rfl (Nat.le_of_ble_eq_true rfl) rfl dX1_runs_17 ?_
    refine J_iload_n 20 3 dX1_runs_20 rfl rfl ?_
    refine J_iconst (v := 1) 21 dX1_runs_21 rfl ?_
    refine J_iadd 22 dX1_runs_22 ?_
    refine J_topi (y := nI (d + 1)) 23 (nI_add d 1) ?_
    refine J_istore (lv' := [some (.ref a), some (.int 11), some (.int x), some (.int (nI d)), some (.int (nI (d + 1)))]) 23 dX1_runs_23 (by decide) rfl ?_
    refine J_iload_n 25 1 dX1_runs_25 rfl rfl ?_
    refine J_tableIn (tgt := 257) (off := 231) 26 11 dX1_runs_26 rfl (by decide +kernel) (by decide) ?_
    refine J_aload_n 257 0 dX1_runs_257 rfl rfl ?_
    refine J_gets (v := .ref (G.2.2 2)) 258 w_744 gz2 rfl dX1_runs_258 ?_
    refine J_aload_n 261 0 dX1_runs_261 rfl rfl ?_
    refine g_180 (v := .int 5) 262 0 rfl rfl dX1_runs_262 ?_
    refine J_stat (v := .int 10) 265 gt2 5 rfl (by omega) (by decide) rfl dX1_runs_265 ?_
    refine J_iload_n 266 2 dX1_runs_266 rfl rfl ?_
    refine J_iload 267 dX1_runs_267 rfl ?_
    refine kb_RX1_52 (bs' := [wDe a bo ((ct + 1) + 1) 0 5 nu te, wI G bo 30 (pF [10] (upd f ct 11) (ct + 1))]) (rest := []) (st' := [.int (x * 5 + nu)]) 269 (c_runs_5_10 l G x (d + 1) a bo (ct + 1) nu te (upd f ct 11) (by omega) (by omega)) [0, 1] rfl rfl [[a], [bo]] rfl rfl rfl rfl rfl rfl (Nat.le_of_ble_eq_true rfl) rfl dX1_runs_269 ?_
    refine J_aload_n 272 0 dX1_runs_272 rfl rfl ?_
    refine g_182 (v := .int te) 273 0 rfl rfl dX1_runs_273 ?_
    refine J_isub 276 dX1_runs_276 ?_
    exact J_iret 277 dX1_runs_277 rfl (cg2 (fun (x0_ : Nat) (x1_ : Nat → Int32) => (wF [wDe a bo x0_ 0 5 nu te, wI G bo 30 x1_])) ((ct + 1) + 1) (ct + 2) (pF [10] (upd f ct 11) (ct + 1)) (pF [11, 10] f ct) rfl rfl)
  · skip
    have c_2_ : ¬ d ≤ 40 := fun z_ => c_2_ ((nI_leI (a := d) (b := 40) (by omega) (by omega)).mpr z_)
    omega
set_option maxRecDepth 100000 in
set_option maxHeartbeats 4000000 in
theorem c_runs_5_12 (l : Launch) (G : Gd) (x : Int32) (d : Nat) (a : Nat) (bo : Nat) (ct : Nat) (nu : Int32) (te : Int32) (f : Nat → Int32) (hd : d + 0 ≤ 40) (hc : ct + 1 ≤ 30) (hz : ¬ te - nu = 0) : Ct l G yX1_runs cX1_runs 5 (some (FieldType.int)) 1 [.ref a, .int 12, .int x, .int (nI d)] (wF [wDe a bo ct 0 5 nu te, wI G bo 30 f]) (some (.int (x / (te - nu)))) (wF [wDe a bo (ct + 1) 0 5 nu te, wI G bo 30 (pF [12] f ct)]) := by
  refine Ct.of "GooseArms$Deed" [some (.ref a), some (.int 12), some (.int x), some (.int (nI d)), none] (by decide +kernel) rfl (Nat.le_of_ble_eq_true rfl) rfl ?_
  refine J_aload_n 0 0 dX1_runs_0 rfl rfl ?_
  refine g_178 (v := .int 0) 1 0 rfl rfl dX1_runs_1 ?_
  refine J_if_ne (tgt := 13) 4 dX1_runs_4 (by decide) (fun c_1_ => absurd c_1_ (by decide)) (fun _ => ?_)
  refine J_iload_n 7 3 dX1_runs_7 rfl rfl ?_
  refine J_bipush (v := 40) 8 dX1_runs_8 rfl ?_
  refine J_icmp_le (tgt := 15) 10 dX1_runs_10 (by decide) (fun c_2_ => ?_) (fun c_2_ => ?_)
  · skip
    have c_2_ : d ≤ 40 := (nI_leI (a := d) (b := 40) (by omega) (by omega)).mp c_2_
    refine J_aload_n 15 0 dX1_runs_15 rfl rfl ?_
    refine J_iload_n 16 1 dX1_runs_16 rfl rfl ?_
    refine kb_RX1_48 (bs' := [wDe a bo (ct + 1) 0 5 nu te, wI G bo 30 (upd f ct 12)]) (rest := []) (st' := []) 17 (c_X1_notes l G 12 a bo ct 0 5 nu te f (by omega)) [0, 1] 0 rfl rfl rfl [[a], [bo]] rfl rfl rfl rfl rfl rfl (Nat.le_of_ble_eq_true rfl) rfl dX1_runs_17 ?_
    refine J_iload_n 20 3 dX1_runs_20 rfl rfl ?_
    refine J_iconst (v := 1) 21 dX1_runs_21 rfl ?_
    refine J_iadd 22 dX1_runs_22 ?_
    refine J_topi (y := nI (d + 1)) 23 (nI_add d 1) ?_
    refine J_istore (lv' := [some (.ref a), some (.int 12), some (.int x), some (.int (nI d)), some (.int (nI (d + 1)))]) 23 dX1_runs_23 (by decide) rfl ?_
    refine J_iload_n 25 1 dX1_runs_25 rfl rfl ?_
    refine J_tableIn (tgt := 278) (off := 252) 26 12 dX1_runs_26 rfl (by decide +kernel) (by decide) ?_
    refine J_aload_n 278 0 dX1_runs_278 rfl rfl ?_
    refine J_iload_n 279 2 dX1_runs_279 rfl rfl ?_
    refine kb_RX1_56 (bs' := [wDe a bo (ct + 1) 0 5 nu te, wI G bo 30 (upd f ct 12)]) (rest := []) (st' := [.int (x / (te - nu))]) 280 (c_X1_quotient l G x a bo (ct + 1) 0 5 nu te (by omega)) [0] 0 rfl rfl rfl [[a]] rfl rfl rfl rfl rfl rfl (Nat.le_of_ble_eq_true rfl) rfl dX1_runs_280 ?_
    exact J_iret 283 dX1_runs_283 rfl (cg1 (fun (x0_ : Nat → Int32) => (wF [wDe a bo (ct + 1) 0 5 nu te, wI G bo 30 x0_])) (upd f ct 12) (pF [12] f ct) rfl)
  · skip
    have c_2_ : ¬ d ≤ 40 := fun z_ => c_2_ ((nI_leI (a := d) (b := 40) (by omega) (by omega)).mpr z_)
    omega
set_option maxRecDepth 100000 in
set_option maxHeartbeats 4000000 in
theorem c_runs_5_61 (l : Launch) (G : Gd) (x : Int32) (d : Nat) (a : Nat) (bo : Nat) (ct : Nat) (nu : Int32) (te : Int32) (f : Nat → Int32) (hd : d + 1 ≤ 40) (hc : ct + 3 ≤ 30) (hz : ¬ te - nu = 0) : Ct l G yX1_runs cX1_runs 5 (some (FieldType.int)) 2 [.ref a, .int 61, .int x, .int (nI d)] (wF [wDe a bo ct 0 5 nu te, wI G bo 30 f]) (some (.int ((x / (te - nu)) - (nu * 5 + nu)))) (wF [wDe a bo (ct + 3) 0 5 nu te, wI G bo 30 (pF [61, 12, 10] f ct)]) := by
  refine Ct.of "GooseArms$Deed" [some (.ref a), some (.int 61), some (.int x), some (.int (nI d)), none] (by decide +kernel) rfl (Nat.le_of_ble_eq_true rfl) rfl ?_
  refine J_aload_n 0 0 dX1_runs_0 rfl rfl ?_
  refine g_178 (v := .int 0) 1 0 rfl rfl dX1_runs_1 ?_
  refine J_if_ne (tgt := 13) 4 dX1_runs_4 (by decide) (fun c_1_ => absurd c_1_ (by decide)) (fun _ => ?_)
  refine J_iload_n 7 3 dX1_runs_7 rfl rfl ?_
  refine J_bipush (v := 40) 8 dX1_runs_8 rfl ?_
  refine J_icmp_le (tgt := 15) 10 dX1_runs_10 (by decide) (fun c_2_ => ?_) (fun c_2_ => ?_)
  · skip
    have c_2_ : d ≤ 40 := (nI_leI (a := d) (b := 40) (by omega) (by omega)).mp c_2_
    refine J_aload_n 15 0 dX1_runs_15 rfl rfl ?_
    refine J_iload_n 16 1 dX1_runs_16 rfl rfl ?_
    refine kb_RX1_48 (bs' := [wDe a bo (ct + 1) 0 5 nu te, wI G bo 30 (upd f ct 61)]) (rest := []) (st' := []) 17 (c_X1_notes l G 61 a bo ct 0 5 nu te f (by omega)) [0, 1] 0 rfl rfl rfl [[a], [bo]] rfl rfl rfl rfl rfl rfl (Nat.le_of_ble_eq_true rfl) rfl dX1_runs_17 ?_
    refine J_iload_n 20 3 dX1_runs_20 rfl rfl ?_
    refine J_iconst (v := 1) 21 dX1_runs_21 rfl ?_
    refine J_iadd 22 dX1_runs_22 ?_
    refine J_topi (y := nI (d + 1)) 23 (nI_add d 1) ?_
    refine J_istore (lv' := [some (.ref a), some (.int 61), some (.int x), some (.int (nI d)), some (.int (nI (d + 1)))]) 23 dX1_runs_23 (by decide) rfl ?_
    refine J_iload_n 25 1 dX1_runs_25 rfl rfl ?_
    refine J_tableIn (tgt := 439) (off := 413) 26 61 dX1_runs_26 rfl (by decide +kernel) (by decide) ?_
    refine J_aload_n 439 0 dX1_runs_439 rfl rfl ?_
    refine J_bipush (v := 12) 440 dX1_runs_440 rfl ?_
    refine J_iload_n 442 2 dX1_runs_442 rfl rfl ?_
    refine J_iload 443 dX1_runs_443 rfl ?_
    refine kb_RX1_52 (bs' := [wDe a bo ((ct + 1) + 1) 0 5 nu te, wI G bo 30 (pF [12] (upd f ct 61) (ct + 1))]) (rest := []) (st' := [.int (x / (te - nu))]) 445 (c_runs_5_12 l G x (d + 1) a bo (ct + 1) nu te (upd f ct 61) (by omega) (by omega) (by omega)) [0, 1] rfl rfl [[a], [bo]] rfl rfl rfl rfl rfl rfl (Nat.le_of_ble_eq_true rfl) rfl dX1_runs_445 ?_
    refine J_aload_n 448 0 dX1_runs_448 rfl rfl ?_
    refine J_gets (v := .ref (G.2.2 2)) 449 w_744 gz2 rfl dX1_runs_449 ?_
    refine J_aload_n 452 0 dX1_runs_452 rfl rfl ?_
    refine g_180 (v := .int 5) 453 0 rfl rfl dX1_runs_453 ?_
    refine J_stat (v := .int 10) 456 gt2 5 rfl (by omega) (by decide) rfl dX1_runs_456 ?_
    refine J_aload_n 457 0 dX1_runs_457 rfl rfl ?_
    refine g_181 (v := .int nu) 458 0 rfl rfl dX1_runs_458 ?_
    refine J_iload 461 dX1_runs_461 rfl ?_
    refine kb_RX1_52 (bs' := [wDe a bo (((ct + 1) + 1) + 1) 0 5 nu te, wI G bo 30 (pF [10] (pF [12] (upd f ct 61) (ct + 1)) ((ct + 1) + 1))]) (rest := [.int (x / (te - nu))]) (st' := [.int (nu * 5 + nu), .int (x / (te - nu))]) 463 (c_runs_5_10 l G nu (d + 1) a bo ((ct + 1) + 1) nu te (pF [12] (upd f ct 61) (ct + 1)) (by omega) (by omega)) [0, 1] rfl rfl [[a], [bo]] rfl rfl rfl rfl rfl rfl (Nat.le_of_ble_eq_true rfl) rfl dX1_runs_463 ?_
    refine J_isub 466 dX1_runs_466 ?_
    exact J_iret 467 dX1_runs_467 rfl (cg2 (fun (x0_ : Nat) (x1_ : Nat → Int32) => (wF [wDe a bo x0_ 0 5 nu te, wI G bo 30 x1_])) (((ct + 1) + 1) + 1) (ct + 3) (pF [10] (pF [12] (upd f ct 61) (ct + 1)) ((ct + 1) + 1)) (pF [61, 12, 10] f ct) rfl rfl)
  · skip
    have c_2_ : ¬ d ≤ 40 := fun z_ => c_2_ ((nI_leI (a := d) (b := 40) (by omega) (by omega)).mpr z_)
    omega
set_option maxRecDepth 100000 in
set_option maxHeartbeats 4000000 in
theorem c_runs_5_12z (l : Launch) (G : Gd) (x : Int32) (d : Nat) (a : Nat) (bo : Nat) (ct : Nat) (nu : Int32) (te : Int32) (f : Nat → Int32) (hd : d + 0 ≤ 40) (hc : ct + 1 ≤ 30) (hz : te - nu = 0) : Ct l G yX1_runs cX1_runs 5 (some (FieldType.int)) 1 [.ref a, .int 12, .int x, .int (nI d)] (wF [wDe a bo ct 0 5 nu te, wI G bo 30 f]) (some (.int 0)) (wF [wDe a bo (ct + 1) 1 5 nu te, wI G bo 30 (pF [12] f ct)]) := by
  refine Ct.of "GooseArms$Deed" [some (.ref a), some (.int 12), some (.int x), some (.int (nI d)), none] (by decide +kernel) rfl (Nat.le_of_ble_eq_true rfl) rfl ?_
  refine J_aload_n 0 0 dX1_runs_0 rfl rfl ?_
  refine g_178 (v := .int 0) 1 0 rfl rfl dX1_runs_1 ?_
  refine J_if_ne (tgt := 13) 4 dX1_runs_4 (by decide) (fun c_1_ => absurd c_1_ (by decide)) (fun _ => ?_)
  refine J_iload_n 7 3 dX1_runs_7 rfl rfl ?_
  refine J_bipush (v := 40) 8 dX1_runs_8 rfl ?_
  refine J_icmp_le (tgt := 15) 10 dX1_runs_10 (by decide) (fun c_2_ => ?_) (fun c_2_ => ?_)
  · skip
    have c_2_ : d ≤ 40 := (nI_leI (a := d) (b := 40) (by omega) (by omega)).mp c_2_
    refine J_aload_n 15 0 dX1_runs_15 rfl rfl ?_
    refine J_iload_n 16 1 dX1_runs_16 rfl rfl ?_
    refine kb_RX1_48 (bs' := [wDe a bo (ct + 1) 0 5 nu te, wI G bo 30 (upd f ct 12)]) (rest := []) (st' := []) 17 (c_X1_notes l G 12 a bo ct 0 5 nu te f (by omega)) [0, 1] 0 rfl rfl rfl [[a], [bo]] rfl rfl rfl rfl rfl rfl (Nat.le_of_ble_eq_true rfl) rfl dX1_runs_17 ?_
    refine J_iload_n 20 3 dX1_runs_20 rfl rfl ?_
    refine J_iconst (v := 1) 21 dX1_runs_21 rfl ?_
    refine J_iadd 22 dX1_runs_22 ?_
    refine J_topi (y := nI (d + 1)) 23 (nI_add d 1) ?_
    refine J_istore (lv' := [some (.ref a), some (.int 12), some (.int x), some (.int (nI d)), some (.int (nI (d + 1)))]) 23 dX1_runs_23 (by decide) rfl ?_
    refine J_iload_n 25 1 dX1_runs_25 rfl rfl ?_
    refine J_tableIn (tgt := 278) (off := 252) 26 12 dX1_runs_26 rfl (by decide +kernel) (by decide) ?_
    refine J_aload_n 278 0 dX1_runs_278 rfl rfl ?_
    refine J_iload_n 279 2 dX1_runs_279 rfl rfl ?_
    refine kb_RX1_56 (bs' := [wDe a bo (ct + 1) 1 5 nu te, wI G bo 30 (upd f ct 12)]) (rest := []) (st' := [.int 0]) 280 (c_X1_quotient_z l G x a bo (ct + 1) 0 5 nu te (by omega)) [0] 0 rfl rfl rfl [[a]] rfl rfl rfl rfl rfl rfl (Nat.le_of_ble_eq_true rfl) rfl dX1_runs_280 ?_
    exact J_iret 283 dX1_runs_283 rfl (cg1 (fun (x0_ : Nat → Int32) => (wF [wDe a bo (ct + 1) 1 5 nu te, wI G bo 30 x0_])) (upd f ct 12) (pF [12] f ct) rfl)
  · skip
    have c_2_ : ¬ d ≤ 40 := fun z_ => c_2_ ((nI_leI (a := d) (b := 40) (by omega) (by omega)).mpr z_)
    omega
set_option maxRecDepth 100000 in
set_option maxHeartbeats 4000000 in
theorem c_runs_5_61z (l : Launch) (G : Gd) (x : Int32) (d : Nat) (a : Nat) (bo : Nat) (ct : Nat) (nu : Int32) (te : Int32) (f : Nat → Int32) (hd : d + 1 ≤ 40) (hc : ct + 2 ≤ 30) (hz : te - nu = 0) : Ct l G yX1_runs cX1_runs 5 (some (FieldType.int)) 2 [.ref a, .int 61, .int x, .int (nI d)] (wF [wDe a bo ct 0 5 nu te, wI G bo 30 f]) (some (.int (0 - 0))) (wF [wDe a bo (ct + 2) 1 5 nu te, wI G bo 30 (pF [61, 12] f ct)]) := by
  refine Ct.of "GooseArms$Deed" [some (.ref a), some (.int 61), some (.int x), some (.int (nI d)), none] (by decide +kernel) rfl (Nat.le_of_ble_eq_true rfl) rfl ?_
  refine J_aload_n 0 0 dX1_runs_0 rfl rfl ?_
  refine g_178 (v := .int 0) 1 0 rfl rfl dX1_runs_1 ?_
  refine J_if_ne (tgt := 13) 4 dX1_runs_4 (by decide) (fun c_1_ => absurd c_1_ (by decide)) (fun _ => ?_)
  refine J_iload_n 7 3 dX1_runs_7 rfl rfl ?_
  refine J_bipush (v := 40) 8 dX1_runs_8 rfl ?_
  refine J_icmp_le (tgt := 15) 10 dX1_runs_10 (by decide) (fun c_2_ => ?_) (fun c_2_ => ?_)
  · skip
    have c_2_ : d ≤ 40 := (nI_leI (a := d) (b := 40) (by omega) (by omega)).mp c_2_
    refine J_aload_n 15 0 dX1_runs_15 rfl rfl ?_
    refine J_iload_n 16 1 dX1_runs_16 rfl rfl ?_
    refine kb_RX1_48 (bs' := [wDe a bo (ct + 1) 0 5 nu te, wI G bo 30 (upd f ct 61)]) (rest := []) (st' := []) 17 (c_X1_notes l G 61 a bo ct 0 5 nu te f (by omega)) [0, 1] 0 rfl rfl rfl [[a], [bo]] rfl rfl rfl rfl rfl rfl (Nat.le_of_ble_eq_true rfl) rfl dX1_runs_17 ?_
    refine J_iload_n 20 3 dX1_runs_20 rfl rfl ?_
    refine J_iconst (v := 1) 21 dX1_runs_21 rfl ?_
    refine J_iadd 22 dX1_runs_22 ?_
    refine J_topi (y := nI (d + 1)) 23 (nI_add d 1) ?_
    refine J_istore (lv' := [some (.ref a), some (.int 61), some (.int x), some (.int (nI d)), some (.int (nI (d + 1)))]) 23 dX1_runs_23 (by decide) rfl ?_
    refine J_iload_n 25 1 dX1_runs_25 rfl rfl ?_
    refine J_tableIn (tgt := 439) (off := 413) 26 61 dX1_runs_26 rfl (by decide +kernel) (by decide) ?_
    refine J_aload_n 439 0 dX1_runs_439 rfl rfl ?_
    refine J_bipush (v := 12) 440 dX1_runs_440 rfl ?_
    refine J_iload_n 442 2 dX1_runs_442 rfl rfl ?_
    refine J_iload 443 dX1_runs_443 rfl ?_
    refine kb_RX1_52 (bs' := [wDe a bo ((ct + 1) + 1) 1 5 nu te, wI G bo 30 (pF [12] (upd f ct 61) (ct + 1))]) (rest := []) (st' := [.int 0]) 445 (c_runs_5_12z l G x (d + 1) a bo (ct + 1) nu te (upd f ct 61) (by omega) (by omega) (by omega)) [0, 1] rfl rfl [[a], [bo]] rfl rfl rfl rfl rfl rfl (Nat.le_of_ble_eq_true rfl) rfl dX1_runs_445 ?_
    refine J_aload_n 448 0 dX1_runs_448 rfl rfl ?_
    refine J_gets (v := .ref (G.2.2 2)) 449 w_744 gz2 rfl dX1_runs_449 ?_
    refine J_aload_n 452 0 dX1_runs_452 rfl rfl ?_
    refine g_180 (v := .int 5) 453 0 rfl rfl dX1_runs_453 ?_
    refine J_stat (v := .int 10) 456 gt2 5 rfl (by omega) (by decide) rfl dX1_runs_456 ?_
    refine J_aload_n 457 0 dX1_runs_457 rfl rfl ?_
    refine g_181 (v := .int nu) 458 0 rfl rfl dX1_runs_458 ?_
    refine J_iload 461 dX1_runs_461 rfl ?_
    refine kb_RX1_52 (bs' := [wDe a bo ((ct + 1) + 1) 1 5 nu te, wI G bo 30 (pF [12] (upd f ct 61) (ct + 1))]) (rest := [.int 0]) (st' := [.int 0, .int 0]) 463 (c_runs_p l G 10 nu (d + 1) a bo ((ct + 1) + 1) 5 nu te ) [0] rfl rfl [[a]] rfl rfl rfl rfl rfl rfl (Nat.le_of_ble_eq_true rfl) rfl dX1_runs_463 ?_
    refine J_isub 466 dX1_runs_466 ?_
    exact J_iret 467 dX1_runs_467 rfl (cg2 (fun (x0_ : Nat) (x1_ : Nat → Int32) => (wF [wDe a bo x0_ 1 5 nu te, wI G bo 30 x1_])) ((ct + 1) + 1) (ct + 2) (pF [12] (upd f ct 61) (ct + 1)) (pF [61, 12] f ct) rfl rfl)
  · skip
    have c_2_ : ¬ d ≤ 40 := fun z_ => c_2_ ((nI_leI (a := d) (b := 40) (by omega) (by omega)).mpr z_)
    omega
set_option maxRecDepth 100000 in
set_option maxHeartbeats 4000000 in
theorem c_runs_5_13 (l : Launch) (G : Gd) (x : Int32) (d : Nat) (a : Nat) (bo : Nat) (ct : Nat) (nu : Int32) (te : Int32) (f : Nat → Int32) (hd : d + 2 ≤ 40) (hc : ct + 3 ≤ 30) : Ct l G yX1_runs cX1_runs 5 (some (FieldType.int)) 3 [.ref a, .int 13, .int x, .int (nI d)] (wF [wDe a bo ct 0 5 nu te, wI G bo 30 f]) (some (.int (((x * 5 + nu) - te) ^^^ 150))) (wF [wDe a bo (ct + 3) 0 5 nu te, wI G bo 30 (pF [13, 11, 10] f ct)]) := by
  refine Ct.of "GooseArms$Deed" [some (.ref a), some (.int 13), some (.int x), some (.int (nI d)), none] (by decide +kernel) rfl (Nat.le_of_ble_eq_true rfl) rfl ?_
  refine J_aload_n 0 0 dX1_runs_0 rfl rfl ?_
  refine g_178 (v := .int 0) 1 0 rfl rfl dX1_runs_1 ?_
  refine J_if_ne (tgt := 13) 4 dX1_runs_4 (by decide) (fun c_1_ => absurd c_1_ (by decide)) (fun _ => ?_)
  refine J_iload_n 7 3 dX1_runs_7 rfl rfl ?_
  refine J_bipush (v := 40) 8 dX1_runs_8 rfl ?_
  refine J_icmp_le (tgt := 15) 10 dX1_runs_10 (by decide) (fun c_2_ => ?_) (fun c_2_ => ?_)
  · skip
    have c_2_ : d ≤ 40 := (nI_leI (a := d) (b := 40) (by omega) (by omega)).mp c_2_
    refine J_aload_n 15 0 dX1_runs_15 rfl rfl ?_
    refine J_iload_n 16 1 dX1_runs_16 rfl rfl ?_
    refine kb_RX1_48 (bs' := [wDe a bo (ct + 1) 0 5 nu te, wI G bo 30 (upd f ct 13)]) (rest := []) (st' := []) 17 (c_X1_notes l G 13 a bo ct 0 5 nu te f (by omega)) [0, 1] 0 rfl rfl rfl [[a], [bo]] rfl rfl rfl rfl rfl rfl (Nat.le_of_ble_eq_true rfl) rfl dX1_runs_17 ?_
    refine J_iload_n 20 3 dX1_runs_20 rfl rfl ?_
    refine J_iconst (v := 1) 21 dX1_runs_21 rfl ?_
    refine J_iadd 22 dX1_runs_22 ?_
    refine J_topi (y := nI (d + 1)) 23 (nI_add d 1) ?_
    refine J_istore (lv' := [some (.ref a), some (.int 13), some (.int x), some (.int (nI d)), some (.int (nI (d + 1)))]) 23 dX1_runs_23 (by decide) rfl ?_
    refine J_iload_n 25 1 dX1_runs_25 rfl rfl ?_
    refine J_tableIn (tgt := 284) (off := 258) 26 13 dX1_runs_26 rfl (by decide +kernel) (by decide) ?_
    refine J_aload_n 284 0 dX1_runs_284 rfl rfl ?_
    refine J_gets (v := .ref (G.2.2 3)) 285 w_746 gz3 rfl dX1_runs_285 ?_
    refine J_aload_n 288 0 dX1_runs_288 rfl rfl ?_
    refine g_180 (v := .int 5) 289 0 rfl rfl dX1_runs_289 ?_
    refine J_stat (v := .int 11) 292 gt3 5 rfl (by omega) (by decide) rfl dX1_runs_292 ?_
    refine J_iload_n 293 2 dX1_runs_293 rfl rfl ?_
    refine J_iload 294 dX1_runs_294 rfl ?_
    refine kb_RX1_52 (bs' := [wDe a bo ((ct + 1) + 2) 0 5 nu te, wI G bo 30 (pF [11, 10] (upd f ct 13) (ct + 1))]) (rest := []) (st' := [.int ((x * 5 + nu) - te)]) 296 (c_runs_5_11 l G x (d + 1) a bo (ct + 1) nu te (upd f ct 13) (by omega) (by omega)) [0, 1] rfl rfl [[a], [bo]] rfl rfl rfl rfl rfl rfl (Nat.le_of_ble_eq_true rfl) rfl dX1_runs_296 ?_
    refine J_sipush (v := 150) 299 dX1_runs_299 rfl ?_
    refine J_ixor 302 dX1_runs_302 ?_
    exact J_iret 303 dX1_runs_303 rfl (cg2 (fun (x0_ : Nat) (x1_ : Nat → Int32) => (wF [wDe a bo x0_ 0 5 nu te, wI G bo 30 x1_])) ((ct + 1) + 2) (ct + 3) (pF [11, 10] (upd f ct 13) (ct + 1)) (pF [13, 11, 10] f ct) rfl rfl)
  · skip
    have c_2_ : ¬ d ≤ 40 := fun z_ => c_2_ ((nI_leI (a := d) (b := 40) (by omega) (by omega)).mpr z_)
    omega
set_option maxRecDepth 100000 in
set_option maxHeartbeats 4000000 in
theorem c_runs_5_60 (l : Launch) (G : Gd) (x : Int32) (d : Nat) (a : Nat) (bo : Nat) (ct : Nat) (nu : Int32) (te : Int32) (f : Nat → Int32) (hd : d + 3 ≤ 40) (hc : ct + 4 ≤ 30) : Ct l G yX1_runs cX1_runs 5 (some (FieldType.int)) 4 [.ref a, .int 60, .int x, .int (nI d)] (wF [wDe a bo ct 0 5 nu te, wI G bo 30 f]) (some (.int ((((x * 5 + nu) - te) ^^^ 150) * 2))) (wF [wDe a bo (ct + 4) 0 5 nu te, wI G bo 30 (pF [60, 13, 11, 10] f ct)]) := by
  refine Ct.of "GooseArms$Deed" [some (.ref a), some (.int 60), some (.int x), some (.int (nI d)), none] (by decide +kernel) rfl (Nat.le_of_ble_eq_true rfl) rfl ?_
  refine J_aload_n 0 0 dX1_runs_0 rfl rfl ?_
  refine g_178 (v := .int 0) 1 0 rfl rfl dX1_runs_1 ?_
  refine J_if_ne (tgt := 13) 4 dX1_runs_4 (by decide) (fun c_1_ => absurd c_1_ (by decide)) (fun _ => ?_)
  refine J_iload_n 7 3 dX1_runs_7 rfl rfl ?_
  refine J_bipush (v := 40) 8 dX1_runs_8 rfl ?_
  refine J_icmp_le (tgt := 15) 10 dX1_runs_10 (by decide) (fun c_2_ => ?_) (fun c_2_ => ?_)
  · skip
    have c_2_ : d ≤ 40 := (nI_leI (a := d) (b := 40) (by omega) (by omega)).mp c_2_
    refine J_aload_n 15 0 dX1_runs_15 rfl rfl ?_
    refine J_iload_n 16 1 dX1_runs_16 rfl rfl ?_
    refine kb_RX1_48 (bs' := [wDe a bo (ct + 1) 0 5 nu te, wI G bo 30 (upd f ct 60)]) (rest := []) (st' := []) 17 (c_X1_notes l G 60 a bo ct 0 5 nu te f (by omega)) [0, 1] 0 rfl rfl rfl [[a], [bo]] rfl rfl rfl rfl rfl rfl (Nat.le_of_ble_eq_true rfl) rfl dX1_runs_17 ?_
    refine J_iload_n 20 3 dX1_runs_20 rfl rfl ?_
    refine J_iconst (v := 1) 21 dX1_runs_21 rfl ?_
    refine J_iadd 22 dX1_runs_22 ?_
    refine J_topi (y := nI (d + 1)) 23 (nI_add d 1) ?_
    refine J_istore (lv' := [some (.ref a), some (.int 60), some (.int x), some (.int (nI d)), some (.int (nI (d + 1)))]) 23 dX1_runs_23 (by decide) rfl ?_
    refine J_iload_n 25 1 dX1_runs_25 rfl rfl ?_
    refine J_tableIn (tgt := 427) (off := 401) 26 60 dX1_runs_26 rfl (by decide +kernel) (by decide) ?_
    refine J_aload_n 427 0 dX1_runs_427 rfl rfl ?_
    refine J_bipush (v := 13) 428 dX1_runs_428 rfl ?_
    refine J_iload_n 430 2 dX1_runs_430 rfl rfl ?_
    refine J_iload 431 dX1_runs_431 rfl ?_
    refine kb_RX1_52 (bs' := [wDe a bo ((ct + 1) + 3) 0 5 nu te, wI G bo 30 (pF [13, 11, 10] (upd f ct 60) (ct + 1))]) (rest := []) (st' := [.int (((x * 5 + nu) - te) ^^^ 150)]) 433 (c_runs_5_13 l G x (d + 1) a bo (ct + 1) nu te (upd f ct 60) (by omega) (by omega)) [0, 1] rfl rfl [[a], [bo]] rfl rfl rfl rfl rfl rfl (Nat.le_of_ble_eq_true rfl) rfl dX1_runs_433 ?_
    refine J_iconst (v := 2) 436 dX1_runs_436 rfl ?_
    refine J_imul 437 dX1_runs_437 ?_
    exact J_iret 438 dX1_runs_438 rfl (cg2 (fun (x0_ : Nat) (x1_ : Nat → Int32) => (wF [wDe a bo x0_ 0 5 nu te, wI G bo 30 x1_])) ((ct + 1) + 3) (ct + 4) (pF [13, 11, 10] (upd f ct 60) (ct + 1)) (pF [60, 13, 11, 10] f ct) rfl rfl)
  · skip
    have c_2_ : ¬ d ≤ 40 := fun z_ => c_2_ ((nI_leI (a := d) (b := 40) (by omega) (by omega)).mpr z_)
    omega
