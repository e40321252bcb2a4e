theorem fWays_s {n k j : Nat} (h_ : 1 ≤ j) : fWays n k j = fWays n k (j - 1) * (nI n - nI k + nI j).toInt64 / (nI j).toInt64 := by
  cases j with
  | zero => exact absurd h_ (by decide)
  | succ j => rfl
theorem mxL_c (x y : Int64) : mxL x y = if y < x then x else y := by
  unfold mxL
  by_cases a_ : x < y
  · rw [if_pos a_, if_neg (fun z_ => Int64.lt_irrefl (Int64.lt_trans a_ z_))]
  · rw [if_neg a_]
    by_cases b_ : y < x
    · rw [if_pos b_]
    · rw [if_neg b_]; exact Int64.le_antisymm (Int64.not_lt.mp b_) (Int64.not_lt.mp a_)
section JML
variable {l : Launch} {G : Gd} {B : Bd} {cc : ByteArray} {nL : Nat} {own : String} {lv : List (Option Value)} {st : List Value} {ws : va_W}
theorem J_maxL (pc : Nat) {index : Nat} {x y : Int64} (hw : Cond.methodLink own index Lib.MathLoose.max_long.x ∈ TB) (hs : Cond.static Lib.MathLoose.max_long.x ∈ TB) (hi : Cond.initialized "java/lang/Math" ∈ TB) (hc : Cond.code Lib.MathLoose.max_long.x Lib.MathLoose.max_long.code 4 (some .long) ∈ TB) (hf : fitR B 0 4 = true) (hst : (st.map fun v => v.category).sum ≤ 8) (hdg : decode cc pc = .ok (.invokestatic index, 3)) (k : J l G B cc nL own (pc + 3) lv (.long (mxL x y) :: st) ws) : J l G B cc nL own pc lv (.long y :: .long x :: st) ws := by
  intro p e s m args below meth c A H locs ls C hP hD hS hl
  simp only [fitR, Bool.and_eq_true, Nat.ble_eq] at hf
  exact va_mmax_long C.1 C.2.1 (C.2.2.1.trans hl.1.symm) C.2.2.2.2.1 (C.2.2.2.1 _ hw) (C.2.2.2.1 _ hs) (C.2.2.2.1 _ hi) (C.2.2.2.1 _ hc) (by omega) (by omega) hf.1.2 hf.2 hdg (by rw [← mxL_c]; exact k p e s m args below meth c A H locs ls C hP hD hS hl)
end JML
set_option maxRecDepth 100000 in
set_option maxHeartbeats 4000000 in
theorem c_X5_power (l : Launch) (G : Gd) (b : Int64) (n : Nat) (hn : n < 2147483648) : Ct l G yX5_power cX5_power 6 (some (FieldType.long)) 0 [.long b, .int (nI n)] (wF []) (some (.long (fPow b n))) (wF []) := by
  refine Ct.of "GooseArms" [some (.long b), none, some (.int (nI n)), none, none, none] (by decide +kernel) rfl (Nat.le_of_ble_eq_true rfl) rfl ?_
  have cut_5_ : ∀ (n_5_ : Nat) (i : Nat) (x : Int64), (n - i < n_5_) → (hk : i ≤ n) → (hx : x = fPow b i) → J l G (bd G 0 (some (FieldType.long)) (some (.long (fPow b n))) (wF [])) cX5_power 6 "GooseArms" 5 [some (.long b), none, some (.int (nI n)), some (.long x), none, some (.int (nI i))] [] (wF []) := by
    intro n_5_
    induction n_5_ with
    | zero => intro i x m_5_; exact absurd m_5_ (Nat.not_lt_zero _)
    | succ n_5_ ih_5_ =>
      intro i x m_5_ hk hx
      refine J_iload 5 dX5_power_5 rfl ?_
      refine J_iload_n 7 2 dX5_power_7 rfl rfl ?_
      refine J_icmp_ge (tgt := 21) 8 dX5_power_8 (by decide) (fun c_1_ => ?_) (fun c_1_ => ?_)
      · skip
        have c_1_ : n ≤ i := (nI_leI (a := n) (b := i) (by omega) (by omega)).mp c_1_
        refine J_lload_n 21 3 dX5_power_21 rfl rfl ?_
        exact J_lret 22 dX5_power_22 (congrArg (fun x_ => some (Value.long x_)) (by rw [hx, show i = n by omega])) rfl
      · skip
        have c_1_ : ¬ n ≤ i := fun z_ => c_1_ ((nI_leI (a := n) (b := i) (by omega) (by omega)).mpr z_)
        refine J_lload_n 11 3 dX5_power_11 rfl rfl ?_
        refine J_lload_n 12 0 dX5_power_12 rfl rfl ?_
        refine J_lmul 13 dX5_power_13 ?_
        refine J_lstore_n (lv' := [some (.long b), none, some (.int (nI n)), some (.long (x * b)), none, some (.int (nI i))]) 14 3 dX5_power_14 rfl (by decide) rfl ?_
        refine J_iinc (v := nI (i + 1)) (lv' := [some (.long b), none, some (.int (nI n)), some (.long (x * b)), none, some (.int (nI (i + 1)))]) 15 dX5_power_15 rfl (nI_add _ 1) (by decide) rfl ?_
        refine J_goto (tgt := 5) 18 dX5_power_18 (by decide) ?_
        exact ih_5_ (i + 1) (x * b) (by omega) (by first | assumption | omega | rfl) (by first | rfl | (rw [hx]; rfl))
  refine J_lconst (v := 1) 0 dX5_power_0 rfl ?_
  refine J_lstore_n (lv' := [some (.long b), none, some (.int (nI n)), some (.long 1), none, none]) 1 3 dX5_power_1 rfl (by decide) rfl ?_
  refine J_iconst (v := 0) 2 dX5_power_2 rfl ?_
  refine J_istore (lv' := [some (.long b), none, some (.int (nI n)), some (.long 1), none, some (.int 0)]) 3 dX5_power_3 (by decide) rfl ?_
  exact cut_5_ ((n - 0) + 1) 0 1 (Nat.lt_succ_self _) (by first | assumption | omega | rfl) (by first | rfl | (rw [hx]; rfl))
set_option maxRecDepth 100000 in
set_option maxHeartbeats 4000000 in
theorem c_X5_waysToChoose (l : Launch) (G : Gd) (n : Nat) (k : Nat) (hn : n ≤ 8) (hk : k ≤ n) : Ct l G yX5_waysToChoose cX5_waysToChoose 5 (some (FieldType.long)) 0 [.int (nI n), .int (nI k)] (wF []) (some (.long (fWays n k k))) (wF []) := by
  refine Ct.of "GooseArms" [some (.int (nI n)), some (.int (nI k)), none, none, none] (by decide +kernel) rfl (Nat.le_of_ble_eq_true rfl) rfl ?_
  have cut_5_ : ∀ (n_5_ : Nat) (j : Nat) (x : Int64), (k + 1 - j < n_5_) → (hj : 1 ≤ j) → (hi : j ≤ k + 1) → (hx : x = fWays n k (j - 1)) → J l G (bd G 0 (some (FieldType.long)) (some (.long (fWays n k k))) (wF [])) cX5_waysToChoose 5 "GooseArms" 5 [some (.int (nI n)), some (.int (nI k)), some (.long x), none, some (.int (nI j))] [] (wF []) := by
    intro n_5_
    induction n_5_ with
    | zero => intro j x m_5_; exact absurd m_5_ (Nat.not_lt_zero _)
    | succ n_5_ ih_5_ =>
      intro j x m_5_ hj hi hx
      refine J_iload 5 dX5_waysToChoose_5 rfl ?_
      refine J_iload_n 7 1 dX5_waysToChoose_7 rfl rfl ?_
      refine J_icmp_gt (tgt := 31) 8 dX5_waysToChoose_8 (by decide) (fun c_1_ => ?_) (fun c_1_ => ?_)
      · skip
        have c_1_ : k < j := (nI_ltI (a := k) (b := j) (by omega) (by omega)).mp c_1_
        refine J_lload_n 31 2 dX5_waysToChoose_31 rfl rfl ?_
        exact J_lret 32 dX5_waysToChoose_32 (congrArg (fun x_ => some (Value.long x_)) (by rw [hx, show j - 1 = k by omega])) rfl
      · skip
        have c_1_ : ¬ k < j := fun z_ => c_1_ ((nI_ltI (a := k) (b := j) (by omega) (by omega)).mpr z_)
        refine J_lload_n 11 2 dX5_waysToChoose_11 rfl rfl ?_
        refine J_iload_n 12 0 dX5_waysToChoose_12 rfl rfl ?_
        refine J_iload_n 13 1 dX5_waysToChoose_13 rfl rfl ?_
        refine J_isub 14 dX5_waysToChoose_14 ?_
        refine J_iload 15 dX5_waysToChoose_15 rfl ?_
        refine J_iadd 17 dX5_waysToChoose_17 ?_
        refine J_i2l 18 dX5_waysToChoose_18 ?_
        refine J_lmul 19 dX5_waysToChoose_19 ?_
        refine J_iload 20 dX5_waysToChoose_20 rfl ?_
        refine J_i2l 22 dX5_waysToChoose_22 ?_
        refine J_ldiv 23 dX5_waysToChoose_23 (tI64_ne (by omega) (by omega)) ?_
        refine J_lstore_n (lv' := [some (.int (nI n)), some (.int (nI k)), some (.long ((x * ((((nI n) - (nI k)) + (nI j)).toInt64)) / ((nI j).toInt64))), none, some (.int (nI j))]) 24 2 dX5_waysToChoose_24 rfl (by decide) rfl ?_
        refine J_iinc (v := nI (j + 1)) (lv' := [some (.int (nI n)), some (.int (nI k)), some (.long ((x * ((((nI n) - (nI k)) + (nI j)).toInt64)) / ((nI j).toInt64))), none, some (.int (nI (j + 1)))]) 25 dX5_waysToChoose_25 rfl (nI_add _ 1) (by decide) rfl ?_
        refine J_goto (tgt := 5) 28 dX5_waysToChoose_28 (by decide) ?_
        exact ih_5_ (j + 1) ((x * ((((nI n) - (nI k)) + (nI j)).toInt64)) / ((nI j).toInt64)) (by omega) (by first | assumption | omega | rfl) (by first | assumption | omega | rfl) (by first | rfl | (rw [hx]; exact (fWays_s hj).symm))
  refine J_lconst (v := 1) 0 dX5_waysToChoose_0 rfl ?_
  refine J_lstore_n (lv' := [some (.int (nI n)), some (.int (nI k)), some (.long 1), none, none]) 1 2 dX5_waysToChoose_1 rfl (by decide) rfl ?_
  refine J_iconst (v := 1) 2 dX5_waysToChoose_2 rfl ?_
  refine J_istore (lv' := [some (.int (nI n)), some (.int (nI k)), some (.long 1), none, some (.int 1)]) 3 dX5_waysToChoose_3 (by decide) rfl ?_
  exact cut_5_ ((k + 1 - 1) + 1) 1 1 (Nat.lt_succ_self _) (by first | assumption | omega | rfl) (by first | assumption | omega | rfl) (by first | rfl | (rw [hx]; exact (fWays_s hj).symm))
set_option maxRecDepth 100000 in
set_option maxHeartbeats 4000000 in
theorem c_X5_commonDivisor (l : Launch) (G : Gd) (a : Int64) (b : Int64)  : Ct l G yX5_commonDivisor cX5_commonDivisor 11 (some (FieldType.long)) 0 [.long a, .long b] (wF []) (some (.long ((fGcd 200 (a, b)).1))) (wF []) := by
  refine Ct.of "GooseArms" [some (.long a), none, some (.long b), none, none, none, none, none, none, none, none] (by decide +kernel) rfl (Nat.le_of_ble_eq_true rfl) rfl ?_
  have cut_9_ : ∀ (n_9_ : Nat) (i : Nat) (x : Int64) (y : Int64), (200 - i < n_9_) → (hi : i ≤ 200) → (hx : fGcd 200 (a, b) = fGcd (200 - i) (x, y)) → J l G (bd G 0 (some (FieldType.long)) (some (.long ((fGcd 200 (a, b)).1))) (wF [])) cX5_commonDivisor 11 "GooseArms" 9 [none, none, none, none, some (.long x), none, some (.long y), none, some (.int (nI i)), none, none] [] (wF []) := by
    intro n_9_
    induction n_9_ with
    | zero => intro i x y m_9_; exact absurd m_9_ (Nat.not_lt_zero _)
    | succ n_9_ ih_9_ =>
      intro i x y m_9_ hi hx
      refine J_iload 9 dX5_commonDivisor_9 rfl ?_
      refine J_sipush (v := 200) 11 dX5_commonDivisor_11 rfl ?_
      refine J_icmp_ge (tgt := 45) 14 dX5_commonDivisor_14 (by decide) (fun c_1_ => ?_) (fun c_1_ => ?_)
      · skip
        have c_1_ : 200 ≤ i := (nI_leI (a := 200) (b := i) (by omega) (by omega)).mp c_1_
        refine J_lload 45 dX5_commonDivisor_45 rfl ?_
        exact J_lret 47 dX5_commonDivisor_47 (congrArg (fun x_ => some (Value.long x_)) (by rw [hx]; first | rw [show 200 - i = 0 by omega]; rfl | rw [fGcd_e (lgc0.mp (by assumption))])) rfl
      · skip
        have c_1_ : ¬ 200 ≤ i := fun z_ => c_1_ ((nI_leI (a := 200) (b := i) (by omega) (by omega)).mpr z_)
        refine J_lload 17 dX5_commonDivisor_17 rfl ?_
        refine J_lconst (v := 0) 19 dX5_commonDivisor_19 rfl ?_
        refine J_lcmp 20 dX5_commonDivisor_20 ?_
        refine J_if_eq (tgt := 45) 21 dX5_commonDivisor_21 (by decide) (fun c_2_ => ?_) (fun c_2_ => ?_)
        · skip
          refine J_lload 45 dX5_commonDivisor_45 rfl ?_
          exact J_lret 47 dX5_commonDivisor_47 (congrArg (fun x_ => some (Value.long x_)) (by rw [hx]; first | rw [show 200 - i = 0 by omega]; rfl | rw [fGcd_e (lgc0.mp (by assumption))])) rfl
        · skip
          refine J_lload 24 dX5_commonDivisor_24 rfl ?_
          refine J_lload 26 dX5_commonDivisor_26 rfl ?_
          refine J_lrem 28 dX5_commonDivisor_28 (fun z_ => (by assumption : ¬ lg_cmp y 0 = 0) (lgc0.mpr z_)) ?_
          refine J_lstore (lv' := [none, none, none, none, some (.long x), none, some (.long y), none, some (.int (nI i)), some (.long (x - x / y * y)), none]) 29 dX5_commonDivisor_29 (by decide) rfl ?_
          refine J_lload 31 dX5_commonDivisor_31 rfl ?_
          refine J_lstore (lv' := [none, none, none, none, some (.long y), none, some (.long y), none, some (.int (nI i)), some (.long (x - x / y * y)), none]) 33 dX5_commonDivisor_33 (by decide) rfl ?_
          refine J_lload 35 dX5_commonDivisor_35 rfl ?_
          refine J_lstore (lv' := [none, none, none, none, some (.long y), none, some (.long (x - x / y * y)), none, some (.int (nI i)), some (.long (x - x / y * y)), none]) 37 dX5_commonDivisor_37 (by decide) rfl ?_
          refine J_iinc (v := nI (i + 1)) (lv' := [none, none, none, none, some (.long y), none, some (.long (x - x / y * y)), none, some (.int (nI (i + 1))), some (.long (x - x / y * y)), none]) 39 dX5_commonDivisor_39 rfl (nI_add _ 1) (by decide) rfl ?_
          refine J_goto (tgt := 9) 42 dX5_commonDivisor_42 (by decide) ?_
          refine J_mask (lv' := [none, none, none, none, some (.long y), none, some (.long (x - x / y * y)), none, some (.int (nI (i + 1))), none, none]) 9 [true, true, true, true, true, true, true, true, true, false, true] rfl ?_
          exact ih_9_ (i + 1) y (x - x / y * y) (by omega) (by first | assumption | omega | rfl) (by first | rfl | exact hx.trans (fGcd_s (by omega) (fun z_ => (by assumption : ¬ lg_cmp y 0 = 0) (lgc0.mpr z_))))
  refine J_lload_n 0 0 dX5_commonDivisor_0 rfl rfl ?_
  refine J_lstore (lv' := [some (.long a), none, some (.long b), none, some (.long a), none, none, none, none, none, none]) 1 dX5_commonDivisor_1 (by decide) rfl ?_
  refine J_lload_n 3 2 dX5_commonDivisor_3 rfl rfl ?_
  refine J_lstore (lv' := [some (.long a), none, some (.long b), none, some (.long a), none, some (.long b), none, none, none, none]) 4 dX5_commonDivisor_4 (by decide) rfl ?_
  refine J_iconst (v := 0) 6 dX5_commonDivisor_6 rfl ?_
  refine J_istore (lv' := [some (.long a), none, some (.long b), none, some (.long a), none, some (.long b), none, some (.int 0), none, none]) 7 dX5_commonDivisor_7 (by decide) rfl ?_
  refine J_mask (lv' := [none, none, none, none, some (.long a), none, some (.long b), none, some (.int 0), none, none]) 9 [false, true, false, true, true, true, true, true, true, true, true] rfl ?_
  exact cut_9_ ((200 - 0) + 1) 0 a b (Nat.lt_succ_self _) (by first | assumption | omega | rfl) (by first | rfl | exact hx.trans (fGcd_s (by omega) (fun z_ => (by assumption : ¬ lg_cmp y 0 = 0) (lgc0.mpr z_))))
set_option maxRecDepth 100000 in
set_option maxHeartbeats 4000000 in
theorem c_X5_partOfFraction (l : Launch) (G : Gd) (a : Int64) (b : Int64) (p : Int32)  : Ct l G yX5_partOfFraction cX5_partOfFraction 7 (some (FieldType.long)) 1 [.long a, .long b, .int p] (wF []) (some (.long (fPart a b p))) (wF []) := by
  refine Ct.of "GooseArms" [some (.long a), none, some (.long b), none, some (.int p), none, none] (by decide +kernel) rfl (Nat.le_of_ble_eq_true rfl) rfl ?_
  refine J_lconst (v := 1) 0 dX5_partOfFraction_0 rfl ?_
  refine J_lload_n 1 0 dX5_partOfFraction_1 rfl rfl ?_
  refine J_lload_n 2 2 dX5_partOfFraction_2 rfl rfl ?_
  refine kb_RX5_330 (bs' := []) (rest := [.long 1]) (st' := [.long ((fGcd 200 (a, b)).1), .long 1]) 3 (c_X5_commonDivisor l G a b ) [] rfl rfl [] rfl rfl rfl rfl rfl rfl (Nat.le_of_ble_eq_true rfl) rfl dX5_partOfFraction_3 ?_
  refine J_maxL 6 w_649 w_650 w_13 w_651 rfl (Nat.le_of_ble_eq_true rfl) dX5_partOfFraction_6 ?_
  refine J_lstore (lv' := [some (.long a), none, some (.long b), none, some (.int p), some (.long (mxL 1 ((fGcd 200 (a, b)).1))), none]) 9 dX5_partOfFraction_9 (by decide) rfl ?_
  refine J_iload 11 dX5_partOfFraction_11 rfl ?_
  refine J_if_ne (tgt := 23) 13 dX5_partOfFraction_13 (by decide) (fun c_1_ => ?_) (fun c_1_ => ?_)
  · skip
    refine J_lload_n 23 2 dX5_partOfFraction_23 rfl rfl ?_
    refine J_lload 24 dX5_partOfFraction_24 rfl ?_
    refine J_ldiv 26 dX5_partOfFraction_26 (mxL_1 _) ?_
    exact J_lret 27 dX5_partOfFraction_27 (congrArg (fun x_ => some (Value.long x_)) (by unfold fPart; first | exact (if_pos (by assumption)).symm | exact (if_neg (by assumption)).symm)) rfl
  · skip
    refine J_lload_n 16 0 dX5_partOfFraction_16 rfl rfl ?_
    refine J_lload 17 dX5_partOfFraction_17 rfl ?_
    refine J_ldiv 19 dX5_partOfFraction_19 (mxL_1 _) ?_
    refine J_goto (tgt := 27) 20 dX5_partOfFraction_20 (by decide) ?_
    exact J_lret 27 dX5_partOfFraction_27 (congrArg (fun x_ => some (Value.long x_)) (by unfold fPart; first | exact (if_pos (by assumption)).symm | exact (if_neg (by assumption)).symm)) rfl
set_option maxRecDepth 100000 in
set_option maxHeartbeats 4000000 in
theorem c_X5_mightBeSo (l : Launch) (G : Gd) (h : Nat) (t : Nat) (m : Nat) (o : Nat) (An : Nat → Nat) (Ak : Nat → Nat) (At : Nat → Nat) (Ad : Nat → Nat) (kk : Int32) (tp : Nat) (rw : Nat) (rc : Nat) (sh : Nat) (sf : Nat) (de : Nat) (la : Nat → Int32) (ns : Nat) (sd : Nat) (to : Nat → Int32) (he : Nat → Int32) (sw : Nat → Int32) (nh : Nat) (ki : Nat → Int32) (te : Nat → Int32) (mi : Nat → Int32) (ar : Nat → Int32) (z : Int32) (t_la : Nat → Int32) (t_ns : Nat) (t_sd : Nat) (t_to : Nat → Int32) (t_he : Nat → Int32) (t_sw : Nat → Int32) (t_nh : Nat) (t_ki : Nat → Int32) (t_te : Nat → Int32) (t_mi : Nat → Int32) (t_ar : Nat → Int32) (t_z : Int32) (s : Nat) (so : Int32) (im : Nat) (it : Nat → Int64) (hnh : nh ≤ 8) (hns : ns ≤ 12) (hsd : sd ≤ ns) (hh : h < nh) (ht : t ≤ 99) (hm : m ≤ 40) : CtP l G yX5_mightBeSo cX5_mightBeSo 10 (some (FieldType.boolean)) 3 [.ref o, .ref s, .int (nI h), .int (nI t)] (wF [wMe o (An 0) (Ak 0) (At 0) (Ad 0) kk tp rw rc sh sf de, wCt G An la ns sd to he sw nh ki te mi ar z, wCt G At t_la t_ns t_sd t_to t_he t_sw t_nh t_ki t_te t_mi t_ar t_z, wSh s so (nI m) im, wJ G im 40 it]) (some (.int (bI (∀ i_, i_ < min m (ns - sd) → fOkS it la (ki h) (mi h) to he sw sd (nI t, ar h) i_)))) (fun w_ => ∃ (j_2_te : Nat → Int32) (j_2_ar : Nat → Int32) (j_2_sd : Nat), w_ = (wF [wMe o (An 0) (Ak 0) (At 0) (Ad 0) kk tp rw rc sh sf de, wCt G An la ns sd to he sw nh ki te mi ar z, wCt G At la ns j_2_sd to he sw nh ki j_2_te mi j_2_ar z, wSh s so (nI m) im, wJ G im 40 it])) := by
  refine CtP.of "GooseArms" [some (.ref o), some (.ref s), some (.int (nI h)), some (.int (nI t)), none, none, none, none, none, none] (by decide +kernel) rfl (Nat.le_of_ble_eq_true rfl) rfl ?_
  have cut_31_ : ∀ (n_31_ : Nat) (i : Nat) (te1 : Nat → Int32) (ar1 : Nat → Int32) (sd1 : Nat), (min m (ns - sd) - i < n_31_) → (hi : i ≤ min m (ns - sd)) → (hte : te1 = fTe (fun h_ => h_ < nh ∧ hasP (onlyI (nI h)) (nI h_)) la ki mi (upd te h (nI t)) ar to he sw sd i) → (har : ar1 = fAr (fun h_ => h_ < nh ∧ hasP (onlyI (nI h)) (nI h_)) la ki mi (upd te h (nI t)) ar to he sw sd i) → (hs1 : sd1 = sd + i) → (hok : ∀ j, j < i → fOkS it la (ki h) (mi h) to he sw sd (nI t, ar h) j) → J l G (bdP G 3 (some (FieldType.boolean)) (some (.int (bI (∀ i_, i_ < min m (ns - sd) → fOkS it la (ki h) (mi h) to he sw sd (nI t, ar h) i_)))) (fun w_ => ∃ (j_2_te : Nat → Int32) (j_2_ar : Nat → Int32) (j_2_sd : Nat), w_ = (wF [wMe o (An 0) (Ak 0) (At 0) (Ad 0) kk tp rw rc sh sf de, wCt G An la ns sd to he sw nh ki te mi ar z, wCt G At la ns j_2_sd to he sw nh ki j_2_te mi j_2_ar z, wSh s so (nI m) im, wJ G im 40 it]))) cX5_mightBeSo 10 "GooseArms" 31 [some (.ref o), some (.ref s), some (.int (nI h)), some (.int (nI t)), some (.ref (At 0)), some (.int (nI (min m (ns - sd)))), some (.int (nI i)), none, none, none] [] (wF [wMe o (An 0) (Ak 0) (At 0) (Ad 0) kk tp rw rc sh sf de, wCt G An la ns sd to he sw nh ki te mi ar z, wCt G At la ns sd1 to he sw nh ki te1 mi ar1 z, wSh s so (nI m) im, wJ G im 40 it]) := by
    intro n_31_
    induction n_31_ with
    | zero => intro i te1 ar1 sd1 m_31_; exact absurd m_31_ (Nat.not_lt_zero _)
    | succ n_31_ ih_31_ =>
      intro i te1 ar1 sd1 m_31_ hi hte har hs1 hok
      refine J_iload 31 dX5_mightBeSo_31 rfl ?_
      refine J_iload 33 dX5_mightBeSo_33 rfl ?_
      refine J_icmp_ge (tgt := 103) 35 dX5_mightBeSo_35 (by decide) (fun c_1_ => ?_) (fun c_1_ => ?_)
      · skip
        have c_1_ : (min m (ns - sd)) ≤ i := (nI_leI (a := (min m (ns - sd))) (b := i) (by omega) (by omega)).mp c_1_
        refine J_iconst (v := 1) 103 dX5_mightBeSo_103 rfl ?_
        exact J_zretP 104 rfl dX5_mightBeSo_104 (congrArg (fun x_ => some (Value.int x_)) (bI_t (fun j_ hj_ => hok j_ (by omega))).symm) ⟨te1, ar1, sd1, rfl⟩
      · skip
        have c_1_ : ¬ (min m (ns - sd)) ≤ i := fun z_ => c_1_ ((nI_leI (a := (min m (ns - sd))) (b := i) (by omega) (by omega)).mpr z_)
        refine J_aload 38 dX5_mightBeSo_38 rfl ?_
        refine J_iload_n 40 2 dX5_mightBeSo_40 rfl rfl ?_
        refine kb_RX5_196 (bs' := [wMe o (An 0) (Ak 0) (At 0) (Ad 0) kk tp rw rc sh sf de, wCt G An la ns sd to he sw nh ki te mi ar z, wCt G At la ns sd1 to he sw nh ki te1 mi ar1 z, wSh s so (nI m) im, wJ G im 40 it]) (rest := [.ref (At 0)]) (st' := [.int (onlyI (nI h)), .ref (At 0)]) 41 (c_X5_only l G (nI h) ) [] rfl rfl [] rfl rfl rfl rfl rfl rfl (Nat.le_of_ble_eq_true rfl) rfl dX5_mightBeSo_41 ?_
        refine kb_RX5_170 (bs' := [wMe o (An 0) (Ak 0) (At 0) (Ad 0) kk tp rw rc sh sf de, wCt G An la ns sd to he sw nh ki te mi ar z, wCt G At la ns sd1 to he sw nh ki te1 mi ar1 z, wSh s so (nI m) im, wJ G im 40 it]) (rest := []) (st' := [.int (fMask (fun h_ => hasP (onlyI (nI h)) (nI h_) ∧ fUp la ki mi te1 to he sw sd1 h_) nh)]) 44 (c_X0_raisedNext l G (onlyI (nI h)) At la ns sd1 to he sw nh ki te1 mi ar1 z (by omega) (by omega) (by omega)) [2] 10 rfl rfl rfl [[At 0, At 1, At 2, At 3, At 4, At 5, At 6, At 7, At 8]] rfl rfl rfl rfl rfl rfl (Nat.le_of_ble_eq_true rfl) rfl dX5_mightBeSo_44 ?_
        refine J_istore (lv' := [some (.ref o), some (.ref s), some (.int (nI h)), some (.int (nI t)), some (.ref (At 0)), some (.int (nI (min m (ns - sd)))), some (.int (nI i)), some (.int (fMask (fun h_ => hasP (onlyI (nI h)) (nI h_) ∧ fUp la ki mi te1 to he sw sd1 h_) nh)), none, none]) 47 dX5_mightBeSo_47 (by decide) rfl ?_
        refine J_aload 49 dX5_mightBeSo_49 rfl ?_
        refine J_iload 51 dX5_mightBeSo_51 rfl ?_
        refine kb_RX5_176 (bs' := [wMe o (An 0) (Ak 0) (At 0) (Ad 0) kk tp rw rc sh sf de, wCt G An la ns sd to he sw nh ki te mi ar z, wCt G At la ns (sd1 + 1) to he sw nh ki (fSel (fun h_ => h_ < nh ∧ hasP (fMask (fun h_ => hasP (onlyI (nI h)) (nI h_) ∧ fUp la ki mi te1 to he sw sd1 h_) nh) (nI h_)) (fun h_ => heldI (te1 h_ - fWears (ki h_) (la 2))) te1) mi (fSel (fun h_ => h_ < nh ∧ hasP (fMask (fun h_ => hasP (onlyI (nI h)) (nI h_) ∧ fUp la ki mi te1 to he sw sd1 h_) nh) (nI h_)) (fun h_ => ar1 h_ ||| onlyI (nI sd1)) ar1) z, wSh s so (nI m) im, wJ G im 40 it]) (rest := []) (st' := []) 53 (c_X0_sayNext l G (fMask (fun h_ => hasP (onlyI (nI h)) (nI h_) ∧ fUp la ki mi te1 to he sw sd1 h_) nh) At la ns sd1 to he sw nh ki te1 mi ar1 z (by omega)) [2] 10 rfl rfl rfl [[At 0, At 1, At 2, At 3, At 4, At 5, At 6, At 7, At 8]] rfl rfl rfl rfl rfl rfl (Nat.le_of_ble_eq_true rfl) rfl dX5_mightBeSo_53 ?_
        refine J_iload 56 dX5_mightBeSo_56 rfl ?_
        refine J_if_ne (tgt := 65) 58 dX5_mightBeSo_58 (by decide) (fun c_2_ => ?_) (fun c_2_ => ?_)
        · skip
          refine J_lconst (v := 1) 65 dX5_mightBeSo_65 rfl ?_
          refine J_lstore (lv' := [some (.ref o), some (.ref s), some (.int (nI h)), some (.int (nI t)), some (.ref (At 0)), some (.int (nI (min m (ns - sd)))), some (.int (nI i)), some (.int (fMask (fun h_ => hasP (onlyI (nI h)) (nI h_) ∧ fUp la ki mi te1 to he sw sd1 h_) nh)), some (.long 1), none]) 66 dX5_mightBeSo_66 (by decide) rfl ?_
          refine J_aload_n 68 1 dX5_mightBeSo_68 rfl rfl ?_
          refine g_135 (v := .ref im) 69 19 rfl rfl dX5_mightBeSo_69 ?_
          refine J_iload 72 dX5_mightBeSo_72 rfl ?_
          refine J_lald 74 20 i rfl rfl (by omega) (by decide) dX5_mightBeSo_74 ?_
          refine J_ldc2 (v := (-1)) 75 w_631 dX5_mightBeSo_75 ?_
          refine J_lcmp 78 dX5_mightBeSo_78 ?_
          refine J_if_eq (tgt := 97) 79 dX5_mightBeSo_79 (by decide) (fun c_3_ => ?_) (fun c_3_ => ?_)
          · skip
            refine J_iinc (v := nI (i + 1)) (lv' := [some (.ref o), some (.ref s), some (.int (nI h)), some (.int (nI t)), some (.ref (At 0)), some (.int (nI (min m (ns - sd)))), some (.int (nI (i + 1))), some (.int (fMask (fun h_ => hasP (onlyI (nI h)) (nI h_) ∧ fUp la ki mi te1 to he sw sd1 h_) nh)), some (.long 1), none]) 97 dX5_mightBeSo_97 rfl (nI_add _ 1) (by decide) rfl ?_
            refine J_goto (tgt := 31) 100 dX5_mightBeSo_100 (by decide) ?_
            refine J_mask (lv' := [some (.ref o), some (.ref s), some (.int (nI h)), some (.int (nI t)), some (.ref (At 0)), some (.int (nI (min m (ns - sd)))), some (.int (nI (i + 1))), none, none, none]) 31 [true, true, true, true, true, true, true, false, false, true] rfl ?_
            exact ih_31_ (i + 1) (fSel (fun h_ => h_ < nh ∧ hasP (fMask (fun h_ => hasP (onlyI (nI h)) (nI h_) ∧ fUp la ki mi te1 to he sw sd1 h_) nh) (nI h_)) (fun h_ => heldI (te1 h_ - fWears (ki h_) (la 2))) te1) (fSel (fun h_ => h_ < nh ∧ hasP (fMask (fun h_ => hasP (onlyI (nI h)) (nI h_) ∧ fUp la ki mi te1 to he sw sd1 h_) nh) (nI h_)) (fun h_ => ar1 h_ ||| onlyI (nI sd1)) ar1) (sd1 + 1) (by omega) (by first | assumption | omega | rfl) (by first | exact fTe_0 | exact (fTA_s hte har hs1 (fun h_ => by rw [fMask_has8 hnh]; exact and_assoc.symm)).1) (by first | exact fAr_0 | exact (fTA_s hte har hs1 (fun h_ => by rw [fMask_has8 hnh]; exact and_assoc.symm)).2) (by first | assumption | omega | rfl) (by first | exact (fun j hj => absurd hj (Nat.not_lt_zero _)) | exact lt_s hok (mb_ok hh hnh (mb_up hte hs1 hh hnh) (by first | exact Or.inl ⟨by assumption, rfl⟩ | exact Or.inr ⟨Classical.byContradiction (by assumption), rfl⟩ | exact Or.inr ⟨by assumption, rfl⟩) (by assumption)) | exact lt_s hok (mb_ok1 (by assumption)))
          · skip
            refine J_aload_n 82 1 dX5_mightBeSo_82 rfl rfl ?_
            refine g_135 (v := .ref im) 83 19 rfl rfl dX5_mightBeSo_83 ?_
            refine J_iload 86 dX5_mightBeSo_86 rfl ?_
            refine J_lald 88 20 i rfl rfl (by omega) (by decide) dX5_mightBeSo_88 ?_
            refine J_lload 89 dX5_mightBeSo_89 rfl ?_
            refine J_lcmp 91 dX5_mightBeSo_91 ?_
            refine J_if_eq (tgt := 97) 92 dX5_mightBeSo_92 (by decide) (fun c_4_ => ?_) (fun c_4_ => ?_)
            · skip
              refine J_iinc (v := nI (i + 1)) (lv' := [some (.ref o), some (.ref s), some (.int (nI h)), some (.int (nI t)), some (.ref (At 0)), some (.int (nI (min m (ns - sd)))), some (.int (nI (i + 1))), some (.int (fMask (fun h_ => hasP (onlyI (nI h)) (nI h_) ∧ fUp la ki mi te1 to he sw sd1 h_) nh)), some (.long 1), none]) 97 dX5_mightBeSo_97 rfl (nI_add _ 1) (by decide) rfl ?_
              refine J_goto (tgt := 31) 100 dX5_mightBeSo_100 (by decide) ?_
              refine J_mask (lv' := [some (.ref o), some (.ref s), some (.int (nI h)), some (.int (nI t)), some (.ref (At 0)), some (.int (nI (min m (ns - sd)))), some (.int (nI (i + 1))), none, none, none]) 31 [true, true, true, true, true, true, true, false, false, true] rfl ?_
              exact ih_31_ (i + 1) (fSel (fun h_ => h_ < nh ∧ hasP (fMask (fun h_ => hasP (onlyI (nI h)) (nI h_) ∧ fUp la ki mi te1 to he sw sd1 h_) nh) (nI h_)) (fun h_ => heldI (te1 h_ - fWears (ki h_) (la 2))) te1) (fSel (fun h_ => h_ < nh ∧ hasP (fMask (fun h_ => hasP (onlyI (nI h)) (nI h_) ∧ fUp la ki mi te1 to he sw sd1 h_) nh) (nI h_)) (fun h_ => ar1 h_ ||| onlyI (nI sd1)) ar1) (sd1 + 1) (by omega) (by first | assumption | omega | rfl) (by first | exact fTe_0 | exact (fTA_s hte har hs1 (fun h_ => by rw [fMask_has8 hnh]; exact and_assoc.symm)).1) (by first | exact fAr_0 | exact (fTA_s hte har hs1 (fun h_ => by rw [fMask_has8 hnh]; exact and_assoc.symm)).2) (by first | assumption | omega | rfl) (by first | exact (fun j hj => absurd hj (Nat.not_lt_zero _)) | exact lt_s hok (mb_ok hh hnh (mb_up hte hs1 hh hnh) (by first | exact Or.inl ⟨by assumption, rfl⟩ | exact Or.inr ⟨Classical.byContradiction (by assumption), rfl⟩ | exact Or.inr ⟨by assumption, rfl⟩) (by assumption)) | exact lt_s hok (mb_ok1 (by assumption)))
            · skip
              refine J_iconst (v := 0) 95 dX5_mightBeSo_95 rfl ?_
              exact J_zretP 96 rfl dX5_mightBeSo_96 (congrArg (fun x_ => some (Value.int x_)) (bI_f (fun z_ => mb_no hh hnh (mb_up hte hs1 hh hnh) (by first | exact Or.inl ⟨by assumption, rfl⟩ | exact Or.inr ⟨by assumption, rfl⟩) (by assumption) (by assumption) (z_ i (by omega)))).symm) ⟨(fSel (fun h_ => h_ < nh ∧ hasP (fMask (fun h_ => hasP (onlyI (nI h)) (nI h_) ∧ fUp la ki mi te1 to he sw sd1 h_) nh) (nI h_)) (fun h_ => heldI (te1 h_ - fWears (ki h_) (la 2))) te1), (fSel (fun h_ => h_ < nh ∧ hasP (fMask (fun h_ => hasP (onlyI (nI h)) (nI h_) ∧ fUp la ki mi te1 to he sw sd1 h_) nh) (nI h_)) (fun h_ => ar1 h_ ||| onlyI (nI sd1)) ar1), (sd1 + 1), rfl⟩
        · skip
          refine J_lconst (v := 0) 61 dX5_mightBeSo_61 rfl ?_
          refine J_goto (tgt := 66) 62 dX5_mightBeSo_62 (by decide) ?_
          refine J_lstore (lv' := [some (.ref o), some (.ref s), some (.int (nI h)), some (.int (nI t)), some (.ref (At 0)), some (.int (nI (min m (ns - sd)))), some (.int (nI i)), some (.int (fMask (fun h_ => hasP (onlyI (nI h)) (nI h_) ∧ fUp la ki mi te1 to he sw sd1 h_) nh)), some (.long 0), none]) 66 dX5_mightBeSo_66 (by decide) rfl ?_
          refine J_aload_n 68 1 dX5_mightBeSo_68 rfl rfl ?_
          refine g_135 (v := .ref im) 69 19 rfl rfl dX5_mightBeSo_69 ?_
          refine J_iload 72 dX5_mightBeSo_72 rfl ?_
          refine J_lald 74 20 i rfl rfl (by omega) (by decide) dX5_mightBeSo_74 ?_
          refine J_ldc2 (v := (-1)) 75 w_631 dX5_mightBeSo_75 ?_
          refine J_lcmp 78 dX5_mightBeSo_78 ?_
          refine J_if_eq (tgt := 97) 79 dX5_mightBeSo_79 (by decide) (fun c_5_ => ?_) (fun c_5_ => ?_)
          · skip
            refine J_iinc (v := nI (i + 1)) (lv' := [some (.ref o), some (.ref s), some (.int (nI h)), some (.int (nI t)), some (.ref (At 0)), some (.int (nI (min m (ns - sd)))), some (.int (nI (i + 1))), some (.int (fMask (fun h_ => hasP (onlyI (nI h)) (nI h_) ∧ fUp la ki mi te1 to he sw sd1 h_) nh)), some (.long 0), none]) 97 dX5_mightBeSo_97 rfl (nI_add _ 1) (by decide) rfl ?_
            refine J_goto (tgt := 31) 100 dX5_mightBeSo_100 (by decide) ?_
            refine J_mask (lv' := [some (.ref o), some (.ref s), some (.int (nI h)), some (.int (nI t)), some (.ref (At 0)), some (.int (nI (min m (ns - sd)))), some (.int (nI (i + 1))), none, none, none]) 31 [true, true, true, true, true, true, true, false, false, true] rfl ?_
            exact ih_31_ (i + 1) (fSel (fun h_ => h_ < nh ∧ hasP (fMask (fun h_ => hasP (onlyI (nI h)) (nI h_) ∧ fUp la ki mi te1 to he sw sd1 h_) nh) (nI h_)) (fun h_ => heldI (te1 h_ - fWears (ki h_) (la 2))) te1) (fSel (fun h_ => h_ < nh ∧ hasP (fMask (fun h_ => hasP (onlyI (nI h)) (nI h_) ∧ fUp la ki mi te1 to he sw sd1 h_) nh) (nI h_)) (fun h_ => ar1 h_ ||| onlyI (nI sd1)) ar1) (sd1 + 1) (by omega) (by first | assumption | omega | rfl) (by first | exact fTe_0 | exact (fTA_s hte har hs1 (fun h_ => by rw [fMask_has8 hnh]; exact and_assoc.symm)).1) (by first | exact fAr_0 | exact (fTA_s hte har hs1 (fun h_ => by rw [fMask_has8 hnh]; exact and_assoc.symm)).2) (by first | assumption | omega | rfl) (by first | exact (fun j hj => absurd hj (Nat.not_lt_zero _)) | exact lt_s hok (mb_ok hh hnh (mb_up hte hs1 hh hnh) (by first | exact Or.inl ⟨by assumption, rfl⟩ | exact Or.inr ⟨Classical.byContradiction (by assumption), rfl⟩ | exact Or.inr ⟨by assumption, rfl⟩) (by assumption)) | exact lt_s hok (mb_ok1 (by assumption)))
          · skip
            refine J_aload_n 82 1 dX5_mightBeSo_82 rfl rfl ?_
            refine g_135 (v := .ref im) 83 19 rfl rfl dX5_mightBeSo_83 ?_
            refine J_iload 86 dX5_mightBeSo_86 rfl ?_
            refine J_lald 88 20 i rfl rfl (by omega) (by decide) dX5_mightBeSo_88 ?_
            refine J_lload 89 dX5_mightBeSo_89 rfl ?_
            refine J_lcmp 91 dX5_mightBeSo_91 ?_
            refine J_if_eq (tgt := 97) 92 dX5_mightBeSo_92 (by decide) (fun c_6_ => ?_) (fun c_6_ => ?_)
            · skip
              refine J_iinc (v := nI (i + 1)) (lv' := [some (.ref o), some (.ref s), some (.int (nI h)), some (.int (nI t)), some (.ref (At 0)), some (.int (nI (min m (ns - sd)))), some (.int (nI (i + 1))), some (.int (fMask (fun h_ => hasP (onlyI (nI h)) (nI h_) ∧ fUp la ki mi te1 to he sw sd1 h_) nh)), some (.long 0), none]) 97 dX5_mightBeSo_97 rfl (nI_add _ 1) (by decide) rfl ?_
              refine J_goto (tgt := 31) 100 dX5_mightBeSo_100 (by decide) ?_
              refine J_mask (lv' := [some (.ref o), some (.ref s), some (.int (nI h)), some (.int (nI t)), some (.ref (At 0)), some (.int (nI (min m (ns - sd)))), some (.int (nI (i + 1))), none, none, none]) 31 [true, true, true, true, true, true, true, false, false, true] rfl ?_
              exact ih_31_ (i + 1) (fSel (fun h_ => h_ < nh ∧ hasP (fMask (fun h_ => hasP (onlyI (nI h)) (nI h_) ∧ fUp la ki mi te1 to he sw sd1 h_) nh) (nI h_)) (fun h_ => heldI (te1 h_ - fWears (ki h_) (la 2))) te1) (fSel (fun h_ => h_ < nh ∧ hasP (fMask (fun h_ => hasP (onlyI (nI h)) (nI h_) ∧ fUp la ki mi te1 to he sw sd1 h_) nh) (nI h_)) (fun h_ => ar1 h_ ||| onlyI (nI sd1)) ar1) (sd1 + 1) (by omega) (by first | assumption | omega | rfl) (by first | exact fTe_0 | exact (fTA_s hte har hs1 (fun h_ => by rw [fMask_has8 hnh]; exact and_assoc.symm)).1) (by first | exact fAr_0 | exact (fTA_s hte har hs1 (fun h_ => by rw [fMask_has8 hnh]; exact and_assoc.symm)).2) (by first | assumption | omega | rfl) (by first | exact (fun j hj => absurd hj (Nat.not_lt_zero _)) | exact lt_s hok (mb_ok hh hnh (mb_up hte hs1 hh hnh) (by first | exact Or.inl ⟨by assumption, rfl⟩ | exact Or.inr ⟨Classical.byContradiction (by assumption), rfl⟩ | exact Or.inr ⟨by assumption, rfl⟩) (by assumption)) | exact lt_s hok (mb_ok1 (by assumption)))
            · skip
              refine J_iconst (v := 0) 95 dX5_mightBeSo_95 rfl ?_
              exact J_zretP 96 rfl dX5_mightBeSo_96 (congrArg (fun x_ => some (Value.int x_)) (bI_f (fun z_ => mb_no hh hnh (mb_up hte hs1 hh hnh) (by first | exact Or.inl ⟨by assumption, rfl⟩ | exact Or.inr ⟨by assumption, rfl⟩) (by assumption) (by assumption) (z_ i (by omega)))).symm) ⟨(fSel (fun h_ => h_ < nh ∧ hasP (fMask (fun h_ => hasP (onlyI (nI h)) (nI h_) ∧ fUp la ki mi te1 to he sw sd1 h_) nh) (nI h_)) (fun h_ => heldI (te1 h_ - fWears (ki h_) (la 2))) te1), (fSel (fun h_ => h_ < nh ∧ hasP (fMask (fun h_ => hasP (onlyI (nI h)) (nI h_) ∧ fUp la ki mi te1 to he sw sd1 h_) nh) (nI h_)) (fun h_ => ar1 h_ ||| onlyI (nI sd1)) ar1), (sd1 + 1), rfl⟩
  refine J_aload_n 0 0 dX5_mightBeSo_0 rfl rfl ?_
  refine kb_RX5_180 (bs' := [wMe o (An 0) (Ak 0) (At 0) (Ad 0) kk tp rw rc sh sf de, wCt G An la ns sd to he sw nh ki te mi ar z, wCt G At la ns sd to he sw nh ki te mi ar z, wSh s so (nI m) im, wJ G im 40 it]) (rest := []) (st' := [.ref (At 0)]) 1 (c_X5_tried l G o An Ak At Ad kk tp rw rc sh sf de la ns sd to he sw nh ki te mi ar z t_la t_ns t_sd t_to t_he t_sw t_nh t_ki t_te t_mi t_ar t_z ) [0, 1, 2] 0 rfl rfl rfl [[o], [An 0, An 1, An 2, An 3, An 4, An 5, An 6, An 7, An 8], [At 0, At 1, At 2, At 3, At 4, At 5, At 6, At 7, At 8]] rfl rfl rfl rfl rfl rfl (Nat.le_of_ble_eq_true rfl) rfl dX5_mightBeSo_1 ?_
  refine J_astore (lv' := [some (.ref o), some (.ref s), some (.int (nI h)), some (.int (nI t)), some (.ref (At 0)), none, none, none, none, none]) 4 dX5_mightBeSo_4 (by decide) rfl ?_
  refine J_aload 6 dX5_mightBeSo_6 rfl ?_
  refine g_58 (v := .ref (At 6)) 8 10 rfl rfl dX5_mightBeSo_8 ?_
  refine J_iload_n 11 2 dX5_mightBeSo_11 rfl rfl ?_
  refine J_iload_n 12 3 dX5_mightBeSo_12 rfl rfl ?_
  refine J_iast (ws' := (wF [wMe o (An 0) (Ak 0) (At 0) (Ad 0) kk tp rw rc sh sf de, wCt G An la ns sd to he sw nh ki te mi ar z, wCt G At la ns sd to he sw nh ki (upd te h (nI t)) mi ar z, wSh s so (nI m) im, wJ G im 40 it])) 13 16 h rfl rfl (by omega) (by decide) rfl dX5_mightBeSo_13 ?_
  refine J_aload_n 14 1 dX5_mightBeSo_14 rfl rfl ?_
  refine g_133 (v := .int (nI m)) 15 19 rfl rfl dX5_mightBeSo_15 ?_
  refine J_aload 18 dX5_mightBeSo_18 rfl ?_
  refine kb_RX5_150 (bs' := [wMe o (An 0) (Ak 0) (At 0) (Ad 0) kk tp rw rc sh sf de, wCt G An la ns sd to he sw nh ki te mi ar z, wCt G At la ns sd to he sw nh ki (upd te h (nI t)) mi ar z, wSh s so (nI m) im, wJ G im 40 it]) (rest := [.int (nI m)]) (st' := [.int (nI (ns - sd)), .int (nI m)]) 20 (c_X0_left l G At la ns sd to he sw nh ki (upd te h (nI t)) mi ar z (by omega)) [2] 10 rfl rfl rfl [[At 0, At 1, At 2, At 3, At 4, At 5, At 6, At 7, At 8]] rfl rfl rfl rfl rfl rfl (Nat.le_of_ble_eq_true rfl) rfl dX5_mightBeSo_20 ?_
  refine J_min 23 w_495 w_479 w_13 w_480 rfl (Nat.le_of_ble_eq_true rfl) dX5_mightBeSo_23 ?_
  refine J_topi (y := nI (min m (ns - sd))) 26 (min_nI (by omega) (by omega)) ?_
  refine J_istore (lv' := [some (.ref o), some (.ref s), some (.int (nI h)), some (.int (nI t)), some (.ref (At 0)), some (.int (nI (min m (ns - sd)))), none, none, none, none]) 26 dX5_mightBeSo_26 (by decide) rfl ?_
  refine J_iconst (v := 0) 28 dX5_mightBeSo_28 rfl ?_
  refine J_istore (lv' := [some (.ref o), some (.ref s), some (.int (nI h)), some (.int (nI t)), some (.ref (At 0)), some (.int (nI (min m (ns - sd)))), some (.int 0), none, none, none]) 29 dX5_mightBeSo_29 (by decide) rfl ?_
  exact cut_31_ ((min m (ns - sd) - 0) + 1) 0 (upd te h (nI t)) ar sd (Nat.lt_succ_self _) (by first | assumption | omega | rfl) (by first | exact fTe_0 | exact (fTA_s hte har hs1 (fun h_ => by rw [fMask_has8 hnh]; exact and_assoc.symm)).1) (by first | exact fAr_0 | exact (fTA_s hte har hs1 (fun h_ => by rw [fMask_has8 hnh]; exact and_assoc.symm)).2) (by first | assumption | omega | rfl) (by first | exact (fun j hj => absurd hj (Nat.not_lt_zero _)) | exact lt_s hok (mb_ok hh hnh (mb_up hte hs1 hh hnh) (by first | exact Or.inl ⟨by assumption, rfl⟩ | exact Or.inr ⟨Classical.byContradiction (by assumption), rfl⟩ | exact Or.inr ⟨by assumption, rfl⟩) (by assumption)) | exact lt_s hok (mb_ok1 (by assumption)))
