def mByte (e : Int64) (k : Nat) : Int32 := ((e >>> ((nI (8 * k)).toInt64 &&& 63)) &&& 255).toInt32
def mPutB (f : Nat → Int32) (ln : Nat) (e : Int64) (n : Nat) : Nat → Int32 := fun j => if ln ≤ j ∧ j < ln + n then mByte e (j - ln) else f j
theorem mPutB_s {f f1 : Nat → Int32} {ln k : Nat} {e : Int64} (h_ : f1 = mPutB f ln e k) : upd f1 (ln + k) (mByte e k) = mPutB f ln e (k + 1) := by
  funext j_
  by_cases e_ : j_ = ln + k
  · subst e_; rw [pk_us]; unfold mPutB; rw [if_pos ⟨by omega, by omega⟩, show ln + k - ln = k by omega]
  · rw [pk_un e_, h_]; unfold mPutB
    by_cases q_ : ln ≤ j_ ∧ j_ < ln + k
    · rw [if_pos q_, if_pos ⟨q_.1, by omega⟩]
    · rw [if_neg q_, if_neg (fun z_ => q_ ⟨z_.1, by omega⟩)]
theorem bt1_ : ∀ i, i < 32 → bt (1 : Int32) i = decide (i = 0) := by decide +kernel
theorem bt_only {n i : Nat} (hn_ : n < 32) (hi_ : i < 32) : bt (onlyI (nI n)) i = decide (i = n) := by
  unfold onlyI
  rw [b_shl n hn_ 1 hi_]
  by_cases q_ : n ≤ i
  · rw [bt1_ (i - n) (by omega)]
    by_cases e_ : i = n
    · subst e_; simp
    · simp [q_, e_, show ¬ i - n = 0 by omega]
  · simp [q_, show ¬ i = n by omega]
def loB (b : Nat) (x : Int32) : Prop := ∀ i, b ≤ i → i < 32 → bt x i = false
theorem lo_up {b c : Nat} {x : Int32} (h_ : loB b x) (hb_ : b ≤ c) : loB c x := fun i h1_ h2_ => h_ i (by omega) h2_
theorem lo_or {b : Nat} {x y : Int32} (hx_ : loB b x) (hy_ : loB b y) : loB b (x ||| y) := fun i h1_ h2_ => by rw [b_or, hx_ i h1_ h2_, hy_ i h1_ h2_]; rfl
theorem lo_xor {b : Nat} {x y : Int32} (hx_ : loB b x) (hy_ : loB b y) : loB b (x ^^^ y) := fun i h1_ h2_ => by rw [b_xor, hx_ i h1_ h2_, hy_ i h1_ h2_]; rfl
theorem lo_0 {b : Nat} : loB b 0 := fun i _ _ => b_0 i
theorem lo_only {b n : Nat} (hn_ : n < b) (hb_ : b ≤ 32) : loB b (onlyI (nI n)) := fun i h1_ h2_ => by rw [bt_only (by omega) h2_]; simp; omega
theorem lo_mask' {P : Nat → Prop} {b : Nat} (hb_ : b ≤ 32) : ∀ n, n ≤ b → loB b (fMask P n) := by
  intro n
  induction n with
  | zero => intro _; exact lo_0
  | succ n ih_ =>
    intro hn_
    by_cases q_ : P n
    · rw [← fMask_st rfl q_]; exact lo_or (ih_ (by omega)) (lo_only (by omega) hb_)
    · rw [← fMask_sf rfl q_]; exact ih_ (by omega)
theorem lo_mask {P : Nat → Prop} {n : Nat} (hn_ : n ≤ 12) : loB 12 (fMask P n) := lo_mask' (by decide) n hn_
theorem lo_ex {x : Int32} (h_ : loB 12 x) : ∃ n_ : Nat, n_ < 4096 ∧ x = nI n_ := by
  refine ⟨x.toBitVec.toNat, ?_, ?_⟩
  · refine Nat.lt_pow_two_of_testBit (n := 12) _ (fun i hi_ => ?_)
    by_cases q_ : i < 32
    · exact h_ i hi_ q_
    · exact Nat.testBit_lt_two_pow (Nat.lt_of_lt_of_le x.toBitVec.isLt (Nat.pow_le_pow_right (by decide) (by omega)))
  · exact Int32.toBitVec_inj.mp (by
      show x.toBitVec = BitVec.ofNat 32 x.toBitVec.toNat
      rw [BitVec.ofNat_toNat, BitVec.setWidth_eq])
set_option maxRecDepth 100000 in
set_option maxHeartbeats 4000000 in
theorem c_X6_feed_bad (l : Launch) (G : Gd) (e : Int64) (n : Int32) (o : Nat) (rw : Nat) (fr : Nat) (kp : Nat) (tr : Nat) (ik : Int32) (tp : Nat) (tm : Nat) (mso : Int32) (bg : Nat) (en : Nat) (wd : Int64) (va : Int32) (gd : Int32) (rs : Nat) (mu : Nat) (rm : Nat) (ss : Nat) (msz : Nat) (msh : Nat) (mho : Nat) (mhn : Nat) (mhz : Nat) (kd : Int32) (nb : Int32) (tn : Int32) (tc : Nat) (bo : Nat) (ip : Int32) (hw : ¬ (1 ≤ n ∧ n ≤ 8)) : Ct l G yX6_feed cX6_feed 5 (some (FieldType.int)) 1 [.ref o, .long e, .int n] (wF [wMo o rw fr kp tr ik tp tm mso bg en wd va gd rs mu rm ss msz msh mho mhn mhz kd nb tn tc bo ip]) (some (.int (-1))) (wF [wMo o rw fr kp tr ik tp tm mso bg en wd va gd rs mu rm ss msz msh mho mhn mhz kd nb tn tc bo ip]) := by
  refine Ct.of "GooseArmsModel" [some (.ref o), some (.long e), none, some (.int n), none] (by decide +kernel) rfl (Nat.le_of_ble_eq_true rfl) rfl ?_
  refine J_iload_n 0 3 dX6_feed_0 rfl rfl ?_
  refine J_iconst (v := 1) 1 dX6_feed_1 rfl ?_
  refine J_bipush (v := 8) 2 dX6_feed_2 rfl ?_
  refine kb_RX6_57 (bs' := [wMo o rw fr kp tr ik tp tm mso bg en wd va gd rs mu rm ss msz msh mho mhn mhz kd nb tn tc bo ip]) (rest := []) (st' := [.int 0]) 4 (c_X6_in_f l G n 1 8 hw) [] rfl rfl [] rfl rfl rfl rfl rfl rfl (Nat.le_of_ble_eq_true rfl) rfl dX6_feed_4 ?_
  refine J_if_ne (tgt := 12) 7 dX6_feed_7 (by decide) (fun c_1_ => absurd c_1_ (by decide)) (fun _ => ?_)
  refine J_iconst (v := (-1)) 10 dX6_feed_10 rfl ?_
  exact J_iret 11 dX6_feed_11 rfl rfl
set_option maxRecDepth 100000 in
set_option maxHeartbeats 4000000 in
theorem c_X6_feed_full (l : Launch) (G : Gd) (e : Int64) (n : Nat) (o : Nat) (rw : Nat) (fr : Nat) (kp : Nat) (tr : Nat) (ik : Int32) (tp : Nat) (tm : Nat) (mso : Int32) (bg : Nat) (en : Nat) (wd : Int64) (va : Int32) (gd : Int32) (rs : Nat) (mu : Nat) (rm : Nat) (ss : Nat) (msz : Nat) (msh : Nat) (mho : Nat) (mhn : Nat) (mhz : Nat) (kd : Int32) (nb : Int32) (tn : Int32) (tc : Nat) (bo : Nat) (ip : Int32) (h1 : 1 ≤ n) (h8 : n ≤ 8) (hn : 200 < tm + n) (hl : tm ≤ 200) : Ct l G yX6_feed cX6_feed 5 (some (FieldType.int)) 1 [.ref o, .long e, .int (nI n)] (wF [wMo o rw fr kp tr ik tp tm mso bg en wd va gd rs mu rm ss msz msh mho mhn mhz kd nb tn tc bo ip]) (some (.int (-2))) (wF [wMo o rw fr kp tr ik tp tm mso bg en wd va gd rs mu rm ss msz msh mho mhn mhz kd nb tn tc bo ip]) := by
  refine Ct.of "GooseArmsModel" [some (.ref o), some (.long e), none, some (.int (nI n)), none] (by decide +kernel) rfl (Nat.le_of_ble_eq_true rfl) rfl ?_
  refine J_iload_n 0 3 dX6_feed_0 rfl rfl ?_
  refine J_iconst (v := 1) 1 dX6_feed_1 rfl ?_
  refine J_bipush (v := 8) 2 dX6_feed_2 rfl ?_
  refine kb_RX6_57 (bs' := [wMo o rw fr kp tr ik tp tm mso bg en wd va gd rs mu rm ss msz msh mho mhn mhz kd nb tn tc bo ip]) (rest := []) (st' := [.int 1]) 4 (c_X6_in_t l G (nI n) 1 8 (inM_t (a := 1) (m := 8) h1 h8 (by decide))) [] rfl rfl [] rfl rfl rfl rfl rfl rfl (Nat.le_of_ble_eq_true rfl) rfl dX6_feed_4 ?_
  refine J_if_ne (tgt := 12) 7 dX6_feed_7 (by decide) (fun _ => ?_) (fun c_1_ => absurd c_1_ (by decide))
  refine J_aload_n 12 0 dX6_feed_12 rfl rfl ?_
  refine g_795 (v := .int (nI tm)) 13 0 rfl rfl dX6_feed_13 ?_
  refine J_iload_n 16 3 dX6_feed_16 rfl rfl ?_
  refine J_iadd 17 dX6_feed_17 ?_
  refine J_topi (y := nI (tm + n)) 18 (nI_add tm n) ?_
  refine J_sipush (v := 200) 18 dX6_feed_18 rfl ?_
  refine J_icmp_le (tgt := 27) 21 dX6_feed_21 (by decide) (fun c_2_ => ?_) (fun c_2_ => ?_)
  · skip
    have c_2_ : (tm + n) ≤ 200 := (nI_leI (a := (tm + n)) (b := 200) (by omega) (by omega)).mp c_2_
    omega
  · skip
    have c_2_ : ¬ (tm + n) ≤ 200 := fun z_ => c_2_ ((nI_leI (a := (tm + n)) (b := 200) (by omega) (by omega)).mpr z_)
    refine J_bipush (v := (-2)) 24 dX6_feed_24 rfl ?_
    exact J_iret 26 dX6_feed_26 rfl rfl
set_option maxRecDepth 100000 in
set_option maxHeartbeats 4000000 in
theorem c_X6_feed_ok (l : Launch) (G : Gd) (e : Int64) (n : Nat) (o : Nat) (rw : Nat) (fr : Nat) (kp : Nat) (tr : Nat) (ik : Int32) (tp : Nat) (tm : Nat) (mso : Int32) (bg : Nat) (en : Nat) (wd : Int64) (va : Int32) (gd : Int32) (rs : Nat) (mu : Nat) (rm : Nat) (ss : Nat) (msz : Nat) (msh : Nat) (mho : Nat) (mhn : Nat) (mhz : Nat) (kd : Int32) (nb : Int32) (tn : Int32) (tc : Nat) (bo : Nat) (ip : Int32) (tf : Nat → Int32) (h1 : 1 ≤ n) (h8 : n ≤ 8) (hn : tm + n ≤ 200) : Ct l G yX6_feed cX6_feed 5 (some (FieldType.int)) 1 [.ref o, .long e, .int (nI n)] (wF [wMo o rw fr kp tr ik tp tm mso bg en wd va gd rs mu rm ss msz msh mho mhn mhz kd nb tn tc bo ip, wI G tp 200 tf]) (some (.int (nI (tm + n)))) (wF [wMo o rw fr kp tr ik tp (tm + n) mso bg en wd va gd rs mu rm ss msz msh mho mhn mhz kd nb tn tc bo ip, wI G tp 200 (mPutB tf tm e n)]) := by
  refine Ct.of "GooseArmsModel" [some (.ref o), some (.long e), none, some (.int (nI n)), none] (by decide +kernel) rfl (Nat.le_of_ble_eq_true rfl) rfl ?_
  have cut_30_ : ∀ (n_30_ : Nat) (k : Nat) (tm1 : Nat) (f1 : Nat → Int32), (n - k < n_30_) → (hk : k ≤ n) → (hl : tm1 = tm + k) → (hf : f1 = mPutB tf tm e k) → J l G (bd G 1 (some (FieldType.int)) (some (.int (nI (tm + n)))) (wF [wMo o rw fr kp tr ik tp (tm + n) mso bg en wd va gd rs mu rm ss msz msh mho mhn mhz kd nb tn tc bo ip, wI G tp 200 (mPutB tf tm e n)])) cX6_feed 5 "GooseArmsModel" 30 [some (.ref o), some (.long e), none, some (.int (nI n)), some (.int (nI k))] [] (wF [wMo o rw fr kp tr ik tp tm1 mso bg en wd va gd rs mu rm ss msz msh mho mhn mhz kd nb tn tc bo ip, wI G tp 200 f1]) := by
    intro n_30_
    induction n_30_ with
    | zero => intro k tm1 f1 m_30_; exact absurd m_30_ (Nat.not_lt_zero _)
    | succ n_30_ ih_30_ =>
      intro k tm1 f1 m_30_ hk hl hf
      refine J_iload 30 dX6_feed_30 rfl ?_
      refine J_iload_n 32 3 dX6_feed_32 rfl rfl ?_
      refine J_icmp_ge (tgt := 73) 33 dX6_feed_33 (by decide) (fun c_1_ => ?_) (fun c_1_ => ?_)
      · skip
        have c_1_ : n ≤ k := (nI_leI (a := n) (b := k) (by omega) (by omega)).mp c_1_
        refine J_aload_n 73 0 dX6_feed_73 rfl rfl ?_
        refine g_795 (v := .int (nI tm1)) 74 0 rfl rfl dX6_feed_74 ?_
        exact J_iret 77 dX6_feed_77 (congrArg (fun x_ => some (Value.int x_)) (by rw [show tm1 = tm + n by omega])) (cg2 (fun (x0_ : Nat) (x1_ : Nat → Int32) => (wF [wMo o rw fr kp tr ik tp x0_ mso bg en wd va gd rs mu rm ss msz msh mho mhn mhz kd nb tn tc bo ip, wI G tp 200 x1_])) tm1 (tm + n) f1 (mPutB tf tm e n) (by omega) (by rw [hf, show k = n by omega]))
      · skip
        have c_1_ : ¬ n ≤ k := fun z_ => c_1_ ((nI_leI (a := n) (b := k) (by omega) (by omega)).mpr z_)
        refine J_aload_n 36 0 dX6_feed_36 rfl rfl ?_
        refine g_794 (v := .ref tp) 37 0 rfl rfl dX6_feed_37 ?_
        refine J_aload_n 40 0 dX6_feed_40 rfl rfl ?_
        refine g_795 (v := .int (nI tm1)) 41 0 rfl rfl dX6_feed_41 ?_
        refine J_lload_n 44 1 dX6_feed_44 rfl rfl ?_
        refine J_bipush (v := 8) 45 dX6_feed_45 rfl ?_
        refine J_iload 47 dX6_feed_47 rfl ?_
        refine J_imul 49 dX6_feed_49 ?_
        refine J_topi (y := nI (8 * k)) 50 (pk_mul 8 k) ?_
        refine J_lshr 50 dX6_feed_50 ?_
        refine J_ldc2 (v := 255) 51 w_881 dX6_feed_51 ?_
        refine J_land 54 dX6_feed_54 ?_
        refine J_l2i 55 dX6_feed_55 ?_
        refine J_topi (y := mByte e k) 56 rfl ?_
        refine J_iast (ws' := (wF [wMo o rw fr kp tr ik tp tm1 mso bg en wd va gd rs mu rm ss msz msh mho mhn mhz kd nb tn tc bo ip, wI G tp 200 (upd f1 tm1 (mByte e k))])) 56 1 tm1 rfl rfl (by omega) (by decide) rfl dX6_feed_56 ?_
        refine J_aload_n 57 0 dX6_feed_57 rfl rfl ?_
        refine J_dup 58 dX6_feed_58 rfl ?_
        refine g_795 (v := .int (nI tm1)) 59 0 rfl rfl dX6_feed_59 ?_
        refine J_iconst (v := 1) 62 dX6_feed_62 rfl ?_
        refine J_iadd 63 dX6_feed_63 ?_
        refine J_topi (y := nI (tm1 + 1)) 64 (nI_add tm1 1) ?_
        refine p_795 (ws' := (wF [wMo o rw fr kp tr ik tp (tm1 + 1) mso bg en wd va gd rs mu rm ss msz msh mho mhn mhz kd nb tn tc bo ip, wI G tp 200 (upd f1 tm1 (mByte e k))])) 64 0 rfl rfl rfl (Nat.le_of_ble_eq_true rfl) rfl dX6_feed_64 ?_
        refine J_iinc (v := nI (k + 1)) (lv' := [some (.ref o), some (.long e), none, some (.int (nI n)), some (.int (nI (k + 1)))]) 67 dX6_feed_67 rfl (nI_add _ 1) (by decide) rfl ?_
        refine J_goto (tgt := 30) 70 dX6_feed_70 (by decide) ?_
        exact ih_30_ (k + 1) (tm1 + 1) (upd f1 tm1 (mByte e k)) (by omega) (by first | assumption | omega | rfl) (by first | assumption | omega | rfl) (by first | exact (funext fun j_ => (if_neg (fun z_ => by omega)).symm) | (subst hl; exact mPutB_s hf))
  refine J_iload_n 0 3 dX6_feed_0 rfl rfl ?_
  refine J_iconst (v := 1) 1 dX6_feed_1 rfl ?_
  refine J_bipush (v := 8) 2 dX6_feed_2 rfl ?_
  refine kb_RX6_57 (bs' := [wMo o rw fr kp tr ik tp tm mso bg en wd va gd rs mu rm ss msz msh mho mhn mhz kd nb tn tc bo ip, wI G tp 200 tf]) (rest := []) (st' := [.int 1]) 4 (c_X6_in_t l G (nI n) 1 8 (inM_t (a := 1) (m := 8) h1 h8 (by decide))) [] rfl rfl [] rfl rfl rfl rfl rfl rfl (Nat.le_of_ble_eq_true rfl) rfl dX6_feed_4 ?_
  refine J_if_ne (tgt := 12) 7 dX6_feed_7 (by decide) (fun _ => ?_) (fun c_2_ => absurd c_2_ (by decide))
  refine J_aload_n 12 0 dX6_feed_12 rfl rfl ?_
  refine g_795 (v := .int (nI tm)) 13 0 rfl rfl dX6_feed_13 ?_
  refine J_iload_n 16 3 dX6_feed_16 rfl rfl ?_
  refine J_iadd 17 dX6_feed_17 ?_
  refine J_topi (y := nI (tm + n)) 18 (nI_add tm n) ?_
  refine J_sipush (v := 200) 18 dX6_feed_18 rfl ?_
  refine J_icmp_le (tgt := 27) 21 dX6_feed_21 (by decide) (fun c_3_ => ?_) (fun c_3_ => ?_)
  · skip
    have c_3_ : (tm + n) ≤ 200 := (nI_leI (a := (tm + n)) (b := 200) (by omega) (by omega)).mp c_3_
    refine J_iconst (v := 0) 27 dX6_feed_27 rfl ?_
    refine J_istore (lv' := [some (.ref o), some (.long e), none, some (.int (nI n)), some (.int 0)]) 28 dX6_feed_28 (by decide) rfl ?_
    exact cut_30_ ((n - 0) + 1) 0 tm tf (Nat.lt_succ_self _) (by first | assumption | omega | rfl) (by first | assumption | omega | rfl) (by first | exact (funext fun j_ => (if_neg (fun z_ => by omega)).symm) | (subst hl; exact mPutB_s hf))
  · skip
    have c_3_ : ¬ (tm + n) ≤ 200 := fun z_ => c_3_ ((nI_leI (a := (tm + n)) (b := 200) (by omega) (by omega)).mpr z_)
    omega
set_option maxRecDepth 100000 in
set_option maxHeartbeats 4000000 in
theorem c_X6_set_ok (l : Launch) (G : Gd) (j : Nat) (v : Int32) (o : Nat) (rw : Nat) (fr : Nat) (kp : Nat) (tr : Nat) (ik : Int32) (tp : Nat) (tm : Nat) (mso : Int32) (bg : Nat) (en : Nat) (wd : Int64) (va : Int32) (gd : Int32) (rs : Nat) (mu : Nat) (rm : Nat) (ss : Nat) (msz : Nat) (msh : Nat) (mho : Nat) (mhn : Nat) (mhz : Nat) (kd : Int32) (nb : Int32) (tn : Int32) (tc : Nat) (bo : Nat) (ip : Int32) (la : Nat → Int32) (ns : Nat) (sd : Nat) (to : Nat → Int32) (he : Nat → Int32) (sw : Nat → Int32) (nh : Nat) (ki : Nat → Int32) (te : Nat → Int32) (mi : Nat → Int32) (ar : Nat → Int32) (z : Int32) (hj : j ≤ 3) (hw : 0 ≤ v ∧ v ≤ ([9, 9, 9, 99] : List Int32).getD j 0) : Ct l G yX6_set cX6_set 3 (some (FieldType.int)) 1 [.ref o, .int (nI j), .int v] (wF [wMo o rw fr kp tr ik tp tm mso bg en wd va gd rs mu rm ss msz msh mho mhn mhz kd nb tn tc bo ip, wMr G rw la ns sd to he sw nh ki te mi ar z]) (some (.int (la j))) (wF [wMo o rw fr kp tr ik tp tm mso bg en wd va gd rs mu rm ss msz msh mho mhn mhz kd nb tn tc bo ip, wMr G rw (upd la j v) ns sd to he sw nh ki te mi ar z]) := by
  refine Ct.of "GooseArmsModel" [some (.ref o), some (.int (nI j)), some (.int v)] (by decide +kernel) rfl (Nat.le_of_ble_eq_true rfl) rfl ?_
  refine J_iload_n 0 1 dX6_set_0 rfl rfl ?_
  refine J_iconst (v := 0) 1 dX6_set_1 rfl ?_
  refine J_iconst (v := 3) 2 dX6_set_2 rfl ?_
  refine kb_RX6_57 (bs' := [wMo o rw fr kp tr ik tp tm mso bg en wd va gd rs mu rm ss msz msh mho mhn mhz kd nb tn tc bo ip, wMr G rw la ns sd to he sw nh ki te mi ar z]) (rest := []) (st' := [.int 1]) 3 (c_X6_in_t l G (nI j) 0 3 (inL_t (m := 3) hj (by decide))) [] rfl rfl [] rfl rfl rfl rfl rfl rfl (Nat.le_of_ble_eq_true rfl) rfl dX6_set_3 ?_
  refine J_if_eq (tgt := 30) 6 dX6_set_6 (by decide) (fun c_1_ => absurd c_1_ (by decide)) (fun _ => ?_)
  refine J_iload_n 9 2 dX6_set_9 rfl rfl ?_
  refine J_iconst (v := 0) 10 dX6_set_10 rfl ?_
  refine J_iload_n 11 1 dX6_set_11 rfl rfl ?_
  refine kb_RX6_162 (bs' := [wMo o rw fr kp tr ik tp tm mso bg en wd va gd rs mu rm ss msz msh mho mhn mhz kd nb tn tc bo ip, wMr G rw la ns sd to he sw nh ki te mi ar z]) (rest := [.int 0, .int v]) (st' := [.int (([9, 9, 9, 99] : List Int32).getD j 0), .int 0, .int v]) 12 (c_X6_mostOf l G j (by first | omega | assumption)) [] rfl rfl [] rfl rfl rfl rfl rfl rfl (Nat.le_of_ble_eq_true rfl) rfl dX6_set_12 ?_
  refine kb_RX6_57 (bs' := [wMo o rw fr kp tr ik tp tm mso bg en wd va gd rs mu rm ss msz msh mho mhn mhz kd nb tn tc bo ip, wMr G rw la ns sd to he sw nh ki te mi ar z]) (rest := []) (st' := [.int 1]) 15 (c_X6_in_t l G v 0 (([9, 9, 9, 99] : List Int32).getD j 0) hw) [] rfl rfl [] rfl rfl rfl rfl rfl rfl (Nat.le_of_ble_eq_true rfl) rfl dX6_set_15 ?_
  refine J_if_eq (tgt := 30) 18 dX6_set_18 (by decide) (fun c_2_ => absurd c_2_ (by decide)) (fun _ => ?_)
  refine J_aload_n 21 0 dX6_set_21 rfl rfl ?_
  refine J_iload_n 22 1 dX6_set_22 rfl rfl ?_
  refine J_iload_n 23 2 dX6_set_23 rfl rfl ?_
  refine kb_RX6_180 (bs' := [wMo o rw fr kp tr ik tp tm mso bg en wd va gd rs mu rm ss msz msh mho mhn mhz kd nb tn tc bo ip, wMr G rw (upd la j v) ns sd to he sw nh ki te mi ar z]) (rest := []) (st' := [.int (la j)]) 24 (c_X6_becomes_la l G j v o rw fr kp tr ik tp tm mso bg en wd va gd rs mu rm ss msz msh mho mhn mhz kd nb tn tc bo ip la ns sd to he sw nh ki te mi ar z (by first | omega | assumption)) [0, 1] 0 rfl rfl rfl [[o], [rw]] rfl rfl rfl rfl rfl rfl (Nat.le_of_ble_eq_true rfl) rfl dX6_set_24 ?_
  refine J_goto (tgt := 31) 27 dX6_set_27 (by decide) ?_
  exact J_iret 31 dX6_set_31 rfl rfl
set_option maxRecDepth 100000 in
set_option maxHeartbeats 4000000 in
theorem c_X6_set_badv (l : Launch) (G : Gd) (j : Nat) (v : Int32) (o : Nat) (rw : Nat) (fr : Nat) (kp : Nat) (tr : Nat) (ik : Int32) (tp : Nat) (tm : Nat) (mso : Int32) (bg : Nat) (en : Nat) (wd : Int64) (va : Int32) (gd : Int32) (rs : Nat) (mu : Nat) (rm : Nat) (ss : Nat) (msz : Nat) (msh : Nat) (mho : Nat) (mhn : Nat) (mhz : Nat) (kd : Int32) (nb : Int32) (tn : Int32) (tc : Nat) (bo : Nat) (ip : Int32) (la : Nat → Int32) (ns : Nat) (sd : Nat) (to : Nat → Int32) (he : Nat → Int32) (sw : Nat → Int32) (nh : Nat) (ki : Nat → Int32) (te : Nat → Int32) (mi : Nat → Int32) (ar : Nat → Int32) (z : Int32) (hj : j ≤ 3) (hw : ¬ (0 ≤ v ∧ v ≤ ([9, 9, 9, 99] : List Int32).getD j 0)) : Ct l G yX6_set cX6_set 3 (some (FieldType.int)) 1 [.ref o, .int (nI j), .int v] (wF [wMo o rw fr kp tr ik tp tm mso bg en wd va gd rs mu rm ss msz msh mho mhn mhz kd nb tn tc bo ip, wMr G rw la ns sd to he sw nh ki te mi ar z]) (some (.int (-1))) (wF [wMo o rw fr kp tr ik tp tm mso bg en wd va gd rs mu rm ss msz msh mho mhn mhz kd nb tn tc bo ip, wMr G rw la ns sd to he sw nh ki te mi ar z]) := by
  refine Ct.of "GooseArmsModel" [some (.ref o), some (.int (nI j)), some (.int v)] (by decide +kernel) rfl (Nat.le_of_ble_eq_true rfl) rfl ?_
  refine J_iload_n 0 1 dX6_set_0 rfl rfl ?_
  refine J_iconst (v := 0) 1 dX6_set_1 rfl ?_
  refine J_iconst (v := 3) 2 dX6_set_2 rfl ?_
  refine kb_RX6_57 (bs' := [wMo o rw fr kp tr ik tp tm mso bg en wd va gd rs mu rm ss msz msh mho mhn mhz kd nb tn tc bo ip, wMr G rw la ns sd to he sw nh ki te mi ar z]) (rest := []) (st' := [.int 1]) 3 (c_X6_in_t l G (nI j) 0 3 (inL_t (m := 3) hj (by decide))) [] rfl rfl [] rfl rfl rfl rfl rfl rfl (Nat.le_of_ble_eq_true rfl) rfl dX6_set_3 ?_
  refine J_if_eq (tgt := 30) 6 dX6_set_6 (by decide) (fun c_1_ => absurd c_1_ (by decide)) (fun _ => ?_)
  refine J_iload_n 9 2 dX6_set_9 rfl rfl ?_
  refine J_iconst (v := 0) 10 dX6_set_10 rfl ?_
  refine J_iload_n 11 1 dX6_set_11 rfl rfl ?_
  refine kb_RX6_162 (bs' := [wMo o rw fr kp tr ik tp tm mso bg en wd va gd rs mu rm ss msz msh mho mhn mhz kd nb tn tc bo ip, wMr G rw la ns sd to he sw nh ki te mi ar z]) (rest := [.int 0, .int v]) (st' := [.int (([9, 9, 9, 99] : List Int32).getD j 0), .int 0, .int v]) 12 (c_X6_mostOf l G j (by first | omega | assumption)) [] rfl rfl [] rfl rfl rfl rfl rfl rfl (Nat.le_of_ble_eq_true rfl) rfl dX6_set_12 ?_
  refine kb_RX6_57 (bs' := [wMo o rw fr kp tr ik tp tm mso bg en wd va gd rs mu rm ss msz msh mho mhn mhz kd nb tn tc bo ip, wMr G rw la ns sd to he sw nh ki te mi ar z]) (rest := []) (st' := [.int 0]) 15 (c_X6_in_f l G v 0 (([9, 9, 9, 99] : List Int32).getD j 0) hw) [] rfl rfl [] rfl rfl rfl rfl rfl rfl (Nat.le_of_ble_eq_true rfl) rfl dX6_set_15 ?_
  refine J_if_eq (tgt := 30) 18 dX6_set_18 (by decide) (fun _ => ?_) (fun c_2_ => absurd c_2_ (by decide))
  refine J_iconst (v := (-1)) 30 dX6_set_30 rfl ?_
  exact J_iret 31 dX6_set_31 rfl rfl
set_option maxRecDepth 100000 in
set_option maxHeartbeats 4000000 in
theorem c_X6_set_bad (l : Launch) (G : Gd) (j : Int32) (v : Int32) (o : Nat) (rw : Nat) (fr : Nat) (kp : Nat) (tr : Nat) (ik : Int32) (tp : Nat) (tm : Nat) (mso : Int32) (bg : Nat) (en : Nat) (wd : Int64) (va : Int32) (gd : Int32) (rs : Nat) (mu : Nat) (rm : Nat) (ss : Nat) (msz : Nat) (msh : Nat) (mho : Nat) (mhn : Nat) (mhz : Nat) (kd : Int32) (nb : Int32) (tn : Int32) (tc : Nat) (bo : Nat) (ip : Int32) (la : Nat → Int32) (ns : Nat) (sd : Nat) (to : Nat → Int32) (he : Nat → Int32) (sw : Nat → Int32) (nh : Nat) (ki : Nat → Int32) (te : Nat → Int32) (mi : Nat → Int32) (ar : Nat → Int32) (z : Int32) (hw : ¬ (0 ≤ j ∧ j ≤ 3)) : Ct l G yX6_set cX6_set 3 (some (FieldType.int)) 1 [.ref o, .int j, .int v] (wF [wMo o rw fr kp tr ik tp tm mso bg en wd va gd rs mu rm ss msz msh mho mhn mhz kd nb tn tc bo ip, wMr G rw la ns sd to he sw nh ki te mi ar z]) (some (.int (-1))) (wF [wMo o rw fr kp tr ik tp tm mso bg en wd va gd rs mu rm ss msz msh mho mhn mhz kd nb tn tc bo ip, wMr G rw la ns sd to he sw nh ki te mi ar z]) := by
  refine Ct.of "GooseArmsModel" [some (.ref o), some (.int j), some (.int v)] (by decide +kernel) rfl (Nat.le_of_ble_eq_true rfl) rfl ?_
  refine J_iload_n 0 1 dX6_set_0 rfl rfl ?_
  refine J_iconst (v := 0) 1 dX6_set_1 rfl ?_
  refine J_iconst (v := 3) 2 dX6_set_2 rfl ?_
  refine kb_RX6_57 (bs' := [wMo o rw fr kp tr ik tp tm mso bg en wd va gd rs mu rm ss msz msh mho mhn mhz kd nb tn tc bo ip, wMr G rw la ns sd to he sw nh ki te mi ar z]) (rest := []) (st' := [.int 0]) 3 (c_X6_in_f l G j 0 3 hw) [] rfl rfl [] rfl rfl rfl rfl rfl rfl (Nat.le_of_ble_eq_true rfl) rfl dX6_set_3 ?_
  refine J_if_eq (tgt := 30) 6 dX6_set_6 (by decide) (fun _ => ?_) (fun c_1_ => absurd c_1_ (by decide))
  refine J_iconst (v := (-1)) 30 dX6_set_30 rfl ?_
  exact J_iret 31 dX6_set_31 rfl rfl
set_option maxRecDepth 100000 in
set_option maxHeartbeats 4000000 in
theorem c_X6_lawOf_ok (l : Launch) (G : Gd) (j : Nat) (o : Nat) (rw : Nat) (fr : Nat) (kp : Nat) (tr : Nat) (ik : Int32) (tp : Nat) (tm : Nat) (mso : Int32) (bg : Nat) (en : Nat) (wd : Int64) (va : Int32) (gd : Int32) (rs : Nat) (mu : Nat) (rm : Nat) (ss : Nat) (msz : Nat) (msh : Nat) (mho : Nat) (mhn : Nat) (mhz : Nat) (kd : Int32) (nb : Int32) (tn : Int32) (tc : Nat) (bo : Nat) (ip : Int32) (la : Nat → Int32) (ns : Nat) (sd : Nat) (to : Nat → Int32) (he : Nat → Int32) (sw : Nat → Int32) (nh : Nat) (ki : Nat → Int32) (te : Nat → Int32) (mi : Nat → Int32) (ar : Nat → Int32) (z : Int32) (hj : j ≤ 3) : Ct l G yX6_lawOf cX6_lawOf 2 (some (FieldType.int)) 1 [.ref o, .int (nI j)] (wF [wMo o rw fr kp tr ik tp tm mso bg en wd va gd rs mu rm ss msz msh mho mhn mhz kd nb tn tc bo ip, wMr G rw la ns sd to he sw nh ki te mi ar z]) (some (.int (la j))) (wF [wMo o rw fr kp tr ik tp tm mso bg en wd va gd rs mu rm ss msz msh mho mhn mhz kd nb tn tc bo ip, wMr G rw la ns sd to he sw nh ki te mi ar z]) := by
  refine Ct.of "GooseArmsModel" [some (.ref o), some (.int (nI j))] (by decide +kernel) rfl (Nat.le_of_ble_eq_true rfl) rfl ?_
  refine J_iload_n 0 1 dX6_lawOf_0 rfl rfl ?_
  refine J_iconst (v := 0) 1 dX6_lawOf_1 rfl ?_
  refine J_iconst (v := 3) 2 dX6_lawOf_2 rfl ?_
  refine kb_RX6_57 (bs' := [wMo o rw fr kp tr ik tp tm mso bg en wd va gd rs mu rm ss msz msh mho mhn mhz kd nb tn tc bo ip, wMr G rw la ns sd to he sw nh ki te mi ar z]) (rest := []) (st' := [.int 1]) 3 (c_X6_in_t l G (nI j) 0 3 (inL_t (m := 3) hj (by decide))) [] rfl rfl [] rfl rfl rfl rfl rfl rfl (Nat.le_of_ble_eq_true rfl) rfl dX6_lawOf_3 ?_
  refine J_if_eq (tgt := 18) 6 dX6_lawOf_6 (by decide) (fun c_1_ => absurd c_1_ (by decide)) (fun _ => ?_)
  refine J_aload_n 9 0 dX6_lawOf_9 rfl rfl ?_
  refine g_789 (v := .ref rw) 10 0 rfl rfl dX6_lawOf_10 ?_
  refine J_iload_n 13 1 dX6_lawOf_13 rfl rfl ?_
  refine J_iald 14 1 j rfl rfl (by omega) (by decide) dX6_lawOf_14 ?_
  refine J_topi (y := la j) 15 (fR_la (j := j) (by first | rfl | omega) (by omega)) ?_
  refine J_goto (tgt := 19) 15 dX6_lawOf_15 (by decide) ?_
  exact J_iret 19 dX6_lawOf_19 rfl rfl
set_option maxRecDepth 100000 in
set_option maxHeartbeats 4000000 in
theorem c_X6_lawOf_bad (l : Launch) (G : Gd) (j : Int32) (o : Nat) (rw : Nat) (fr : Nat) (kp : Nat) (tr : Nat) (ik : Int32) (tp : Nat) (tm : Nat) (mso : Int32) (bg : Nat) (en : Nat) (wd : Int64) (va : Int32) (gd : Int32) (rs : Nat) (mu : Nat) (rm : Nat) (ss : Nat) (msz : Nat) (msh : Nat) (mho : Nat) (mhn : Nat) (mhz : Nat) (kd : Int32) (nb : Int32) (tn : Int32) (tc : Nat) (bo : Nat) (ip : Int32) (la : Nat → Int32) (ns : Nat) (sd : Nat) (to : Nat → Int32) (he : Nat → Int32) (sw : Nat → Int32) (nh : Nat) (ki : Nat → Int32) (te : Nat → Int32) (mi : Nat → Int32) (ar : Nat → Int32) (z : Int32) (hw : ¬ (0 ≤ j ∧ j ≤ 3)) : Ct l G yX6_lawOf cX6_lawOf 2 (some (FieldType.int)) 1 [.ref o, .int j] (wF [wMo o rw fr kp tr ik tp tm mso bg en wd va gd rs mu rm ss msz msh mho mhn mhz kd nb tn tc bo ip, wMr G rw la ns sd to he sw nh ki te mi ar z]) (some (.int (-1))) (wF [wMo o rw fr kp tr ik tp tm mso bg en wd va gd rs mu rm ss msz msh mho mhn mhz kd nb tn tc bo ip, wMr G rw la ns sd to he sw nh ki te mi ar z]) := by
  refine Ct.of "GooseArmsModel" [some (.ref o), some (.int j)] (by decide +kernel) rfl (Nat.le_of_ble_eq_true rfl) rfl ?_
  refine J_iload_n 0 1 dX6_lawOf_0 rfl rfl ?_
  refine J_iconst (v := 0) 1 dX6_lawOf_1 rfl ?_
  refine J_iconst (v := 3) 2 dX6_lawOf_2 rfl ?_
  refine kb_RX6_57 (bs' := [wMo o rw fr kp tr ik tp tm mso bg en wd va gd rs mu rm ss msz msh mho mhn mhz kd nb tn tc bo ip, wMr G rw la ns sd to he sw nh ki te mi ar z]) (rest := []) (st' := [.int 0]) 3 (c_X6_in_f l G j 0 3 hw) [] rfl rfl [] rfl rfl rfl rfl rfl rfl (Nat.le_of_ble_eq_true rfl) rfl dX6_lawOf_3 ?_
  refine J_if_eq (tgt := 18) 6 dX6_lawOf_6 (by decide) (fun _ => ?_) (fun c_1_ => absurd c_1_ (by decide))
  refine J_iconst (v := (-1)) 18 dX6_lawOf_18 rfl ?_
  exact J_iret 19 dX6_lawOf_19 rfl rfl
set_option maxRecDepth 100000 in
set_option maxHeartbeats 4000000 in
theorem c_X6_saying_bad (l : Launch) (G : Gd) (x : Int32) (y : Int32) (w : Int32) (o : Nat) (rw : Nat) (fr : Nat) (kp : Nat) (tr : Nat) (ik : Int32) (tp : Nat) (tm : Nat) (mso : Int32) (bg : Nat) (en : Nat) (wd : Int64) (va : Int32) (gd : Int32) (rs : Nat) (mu : Nat) (rm : Nat) (ss : Nat) (msz : Nat) (msh : Nat) (mho : Nat) (mhn : Nat) (mhz : Nat) (kd : Int32) (nb : Int32) (tn : Int32) (tc : Nat) (bo : Nat) (ip : Int32) (la : Nat → Int32) (ns : Nat) (sd : Nat) (to : Nat → Int32) (he : Nat → Int32) (sw : Nat → Int32) (nh : Nat) (ki : Nat → Int32) (te : Nat → Int32) (mi : Nat → Int32) (ar : Nat → Int32) (z : Int32) (hw : ¬ ((0 ≤ x ∧ x ≤ 7) ∧ (0 ≤ y ∧ y ≤ 9) ∧ (0 ≤ w ∧ w ≤ 1))) : Ct l G yX6_saying cX6_saying 5 (some (FieldType.int)) 2 [.ref o, .int x, .int y, .int w] (wF [wMo o rw fr kp tr ik tp tm mso bg en wd va gd rs mu rm ss msz msh mho mhn mhz kd nb tn tc bo ip, wMr G rw la ns sd to he sw nh ki te mi ar z]) (some (.int (-1))) (wF [wMo o rw fr kp tr ik tp tm mso bg en wd va gd rs mu rm ss msz msh mho mhn mhz kd nb tn tc bo ip, wMr G rw la ns sd to he sw nh ki te mi ar z]) := by
  refine Ct.of "GooseArmsModel" [some (.ref o), some (.int x), some (.int y), some (.int w), none] (by decide +kernel) rfl (Nat.le_of_ble_eq_true rfl) rfl ?_
  refine J_iconst (v := 0) 0 dX6_saying_0 rfl ?_
  refine J_iload_n 1 1 dX6_saying_1 rfl rfl ?_
  refine kb_RX6_183 (bs' := [wMo o rw fr kp tr ik tp tm mso bg en wd va gd rs mu rm ss msz msh mho mhn mhz kd nb tn tc bo ip, wMr G rw la ns sd to he sw nh ki te mi ar z]) (rest := []) (st' := [.int (bI (0 ≤ x ∧ x ≤ 7))]) 2 (c_X6_isWords_0 l G x ) [] rfl rfl [] rfl rfl rfl rfl rfl rfl (Nat.le_of_ble_eq_true rfl) rfl dX6_saying_2 ?_
  refine J_ifB_eq (tgt := 24) 5 dX6_saying_5 (by decide) (fun c_1_ => ?_) (fun c_1_ => ?_)
  · skip
    refine J_iconst (v := (-1)) 24 dX6_saying_24 rfl ?_
    exact J_iret 25 dX6_saying_25 rfl rfl
  · skip
    refine J_iconst (v := 1) 8 dX6_saying_8 rfl ?_
    refine J_iload_n 9 2 dX6_saying_9 rfl rfl ?_
    refine kb_RX6_183 (bs' := [wMo o rw fr kp tr ik tp tm mso bg en wd va gd rs mu rm ss msz msh mho mhn mhz kd nb tn tc bo ip, wMr G rw la ns sd to he sw nh ki te mi ar z]) (rest := []) (st' := [.int (bI (0 ≤ y ∧ y ≤ 9))]) 10 (c_X6_isWords_1 l G y ) [] rfl rfl [] rfl rfl rfl rfl rfl rfl (Nat.le_of_ble_eq_true rfl) rfl dX6_saying_10 ?_
    refine J_ifB_eq (tgt := 24) 13 dX6_saying_13 (by decide) (fun c_2_ => ?_) (fun c_2_ => ?_)
    · skip
      refine J_iconst (v := (-1)) 24 dX6_saying_24 rfl ?_
      exact J_iret 25 dX6_saying_25 rfl rfl
    · skip
      refine J_iconst (v := 2) 16 dX6_saying_16 rfl ?_
      refine J_iload_n 17 3 dX6_saying_17 rfl rfl ?_
      refine kb_RX6_183 (bs' := [wMo o rw fr kp tr ik tp tm mso bg en wd va gd rs mu rm ss msz msh mho mhn mhz kd nb tn tc bo ip, wMr G rw la ns sd to he sw nh ki te mi ar z]) (rest := []) (st' := [.int (bI (0 ≤ w ∧ w ≤ 1))]) 18 (c_X6_isWords_2 l G w ) [] rfl rfl [] rfl rfl rfl rfl rfl rfl (Nat.le_of_ble_eq_true rfl) rfl dX6_saying_18 ?_
      refine J_ifB_ne (tgt := 26) 21 dX6_saying_21 (by decide) (fun c_3_ => ?_) (fun c_3_ => ?_)
      · skip
        exact absurd ⟨by assumption, by assumption, by assumption⟩ hw
      · skip
        refine J_iconst (v := (-1)) 24 dX6_saying_24 rfl ?_
        exact J_iret 25 dX6_saying_25 rfl rfl
set_option maxRecDepth 100000 in
set_option maxHeartbeats 4000000 in
theorem c_X6_saying_full (l : Launch) (G : Gd) (x : Int32) (y : Int32) (w : Int32) (o : Nat) (rw : Nat) (fr : Nat) (kp : Nat) (tr : Nat) (ik : Int32) (tp : Nat) (tm : Nat) (mso : Int32) (bg : Nat) (en : Nat) (wd : Int64) (va : Int32) (gd : Int32) (rs : Nat) (mu : Nat) (rm : Nat) (ss : Nat) (msz : Nat) (msh : Nat) (mho : Nat) (mhn : Nat) (mhz : Nat) (kd : Int32) (nb : Int32) (tn : Int32) (tc : Nat) (bo : Nat) (ip : Int32) (la : Nat → Int32) (ns : Nat) (sd : Nat) (to : Nat → Int32) (he : Nat → Int32) (sw : Nat → Int32) (nh : Nat) (ki : Nat → Int32) (te : Nat → Int32) (mi : Nat → Int32) (ar : Nat → Int32) (z : Int32) (hw : (0 ≤ x ∧ x ≤ 7) ∧ (0 ≤ y ∧ y ≤ 9) ∧ (0 ≤ w ∧ w ≤ 1)) (hns : ns = 12) : Ct l G yX6_saying cX6_saying 5 (some (FieldType.int)) 2 [.ref o, .int x, .int y, .int w] (wF [wMo o rw fr kp tr ik tp tm mso bg en wd va gd rs mu rm ss msz msh mho mhn mhz kd nb tn tc bo ip, wMr G rw la ns sd to he sw nh ki te mi ar z]) (some (.int (-2))) (wF [wMo o rw fr kp tr ik tp tm mso bg en wd va gd rs mu rm ss msz msh mho mhn mhz kd nb tn tc bo ip, wMr G rw la ns sd to he sw nh ki te mi ar z]) := by
  refine Ct.of "GooseArmsModel" [some (.ref o), some (.int x), some (.int y), some (.int w), none] (by decide +kernel) rfl (Nat.le_of_ble_eq_true rfl) rfl ?_
  refine J_iconst (v := 0) 0 dX6_saying_0 rfl ?_
  refine J_iload_n 1 1 dX6_saying_1 rfl rfl ?_
  refine kb_RX6_183 (bs' := [wMo o rw fr kp tr ik tp tm mso bg en wd va gd rs mu rm ss msz msh mho mhn mhz kd nb tn tc bo ip, wMr G rw la ns sd to he sw nh ki te mi ar z]) (rest := []) (st' := [.int (bI (0 ≤ x ∧ x ≤ 7))]) 2 (c_X6_isWords_0 l G x ) [] rfl rfl [] rfl rfl rfl rfl rfl rfl (Nat.le_of_ble_eq_true rfl) rfl dX6_saying_2 ?_
  refine J_ifB_eq (tgt := 24) 5 dX6_saying_5 (by decide) (fun c_1_ => ?_) (fun c_1_ => ?_)
  · skip
    exact absurd hw.1 c_1_
  · skip
    refine J_iconst (v := 1) 8 dX6_saying_8 rfl ?_
    refine J_iload_n 9 2 dX6_saying_9 rfl rfl ?_
    refine kb_RX6_183 (bs' := [wMo o rw fr kp tr ik tp tm mso bg en wd va gd rs mu rm ss msz msh mho mhn mhz kd nb tn tc bo ip, wMr G rw la ns sd to he sw nh ki te mi ar z]) (rest := []) (st' := [.int (bI (0 ≤ y ∧ y ≤ 9))]) 10 (c_X6_isWords_1 l G y ) [] rfl rfl [] rfl rfl rfl rfl rfl rfl (Nat.le_of_ble_eq_true rfl) rfl dX6_saying_10 ?_
    refine J_ifB_eq (tgt := 24) 13 dX6_saying_13 (by decide) (fun c_2_ => ?_) (fun c_2_ => ?_)
    · skip
      exact absurd hw.2.1 c_2_
    · skip
      refine J_iconst (v := 2) 16 dX6_saying_16 rfl ?_
      refine J_iload_n 17 3 dX6_saying_17 rfl rfl ?_
      refine kb_RX6_183 (bs' := [wMo o rw fr kp tr ik tp tm mso bg en wd va gd rs mu rm ss msz msh mho mhn mhz kd nb tn tc bo ip, wMr G rw la ns sd to he sw nh ki te mi ar z]) (rest := []) (st' := [.int (bI (0 ≤ w ∧ w ≤ 1))]) 18 (c_X6_isWords_2 l G w ) [] rfl rfl [] rfl rfl rfl rfl rfl rfl (Nat.le_of_ble_eq_true rfl) rfl dX6_saying_18 ?_
      refine J_ifB_ne (tgt := 26) 21 dX6_saying_21 (by decide) (fun c_3_ => ?_) (fun c_3_ => ?_)
      · skip
        refine J_aload_n 26 0 dX6_saying_26 rfl rfl ?_
        refine g_789 (v := .ref rw) 27 0 rfl rfl dX6_saying_27 ?_
        refine J_iconst (v := 5) 30 dX6_saying_30 rfl ?_
        refine J_iald 31 1 5 rfl rfl (by omega) (by decide) dX6_saying_31 ?_
        refine J_topi (y := nI ns) 32 (fR_ns rfl) ?_
        refine J_bipush (v := 12) 32 dX6_saying_32 rfl ?_
        refine J_icmp_ne (tgt := 40) 34 dX6_saying_34 (by decide) (fun c_4_ => ?_) (fun c_4_ => ?_)
        · skip
          have c_4_ : ¬ ns = 12 := fun z_ => c_4_ ((nI_eq (a := ns) (b := 12) (by omega) (by omega)).mpr z_)
          omega
        · skip
          have c_4_ : ns = 12 := (nI_eq (a := ns) (b := 12) (by omega) (by omega)).mp c_4_
          refine J_bipush (v := (-2)) 37 dX6_saying_37 rfl ?_
          exact J_iret 39 dX6_saying_39 rfl rfl
      · skip
        exact absurd hw.2.2 c_3_
set_option maxRecDepth 100000 in
set_option maxHeartbeats 4000000 in
theorem c_X6_saying_ok (l : Launch) (G : Gd) (x : Int32) (y : Int32) (w : Int32) (o : Nat) (rw : Nat) (fr : Nat) (kp : Nat) (tr : Nat) (ik : Int32) (tp : Nat) (tm : Nat) (mso : Int32) (bg : Nat) (en : Nat) (wd : Int64) (va : Int32) (gd : Int32) (rs : Nat) (mu : Nat) (rm : Nat) (ss : Nat) (msz : Nat) (msh : Nat) (mho : Nat) (mhn : Nat) (mhz : Nat) (kd : Int32) (nb : Int32) (tn : Int32) (tc : Nat) (bo : Nat) (ip : Int32) (la : Nat → Int32) (ns : Nat) (sd : Nat) (to : Nat → Int32) (he : Nat → Int32) (sw : Nat → Int32) (nh : Nat) (ki : Nat → Int32) (te : Nat → Int32) (mi : Nat → Int32) (ar : Nat → Int32) (z : Int32) (hw : (0 ≤ x ∧ x ≤ 7) ∧ (0 ≤ y ∧ y ≤ 9) ∧ (0 ≤ w ∧ w ≤ 1)) (hns : ns < 12) : Ct l G yX6_saying cX6_saying 5 (some (FieldType.int)) 2 [.ref o, .int x, .int y, .int w] (wF [wMo o rw fr kp tr ik tp tm mso bg en wd va gd rs mu rm ss msz msh mho mhn mhz kd nb tn tc bo ip, wMr G rw la ns sd to he sw nh ki te mi ar z]) (some (.int (nI ns))) (wF [wMo o rw fr kp tr ik tp tm mso bg en wd va gd rs mu rm ss msz msh mho mhn mhz kd nb tn tc bo ip, wMr G rw la (ns + 1) sd (upd to ns x) (upd he ns y) (upd sw ns w) nh ki te mi ar z]) := by
  refine Ct.of "GooseArmsModel" [some (.ref o), some (.int x), some (.int y), some (.int w), none] (by decide +kernel) rfl (Nat.le_of_ble_eq_true rfl) rfl ?_
  refine J_iconst (v := 0) 0 dX6_saying_0 rfl ?_
  refine J_iload_n 1 1 dX6_saying_1 rfl rfl ?_
  refine kb_RX6_183 (bs' := [wMo o rw fr kp tr ik tp tm mso bg en wd va gd rs mu rm ss msz msh mho mhn mhz kd nb tn tc bo ip, wMr G rw la ns sd to he sw nh ki te mi ar z]) (rest := []) (st' := [.int (bI (0 ≤ x ∧ x ≤ 7))]) 2 (c_X6_isWords_0 l G x ) [] rfl rfl [] rfl rfl rfl rfl rfl rfl (Nat.le_of_ble_eq_true rfl) rfl dX6_saying_2 ?_
  refine J_ifB_eq (tgt := 24) 5 dX6_saying_5 (by decide) (fun c_1_ => ?_) (fun c_1_ => ?_)
  · skip
    exact absurd hw.1 c_1_
  · skip
    refine J_iconst (v := 1) 8 dX6_saying_8 rfl ?_
    refine J_iload_n 9 2 dX6_saying_9 rfl rfl ?_
    refine kb_RX6_183 (bs' := [wMo o rw fr kp tr ik tp tm mso bg en wd va gd rs mu rm ss msz msh mho mhn mhz kd nb tn tc bo ip, wMr G rw la ns sd to he sw nh ki te mi ar z]) (rest := []) (st' := [.int (bI (0 ≤ y ∧ y ≤ 9))]) 10 (c_X6_isWords_1 l G y ) [] rfl rfl [] rfl rfl rfl rfl rfl rfl (Nat.le_of_ble_eq_true rfl) rfl dX6_saying_10 ?_
    refine J_ifB_eq (tgt := 24) 13 dX6_saying_13 (by decide) (fun c_2_ => ?_) (fun c_2_ => ?_)
    · skip
      exact absurd hw.2.1 c_2_
    · skip
      refine J_iconst (v := 2) 16 dX6_saying_16 rfl ?_
      refine J_iload_n 17 3 dX6_saying_17 rfl rfl ?_
      refine kb_RX6_183 (bs' := [wMo o rw fr kp tr ik tp tm mso bg en wd va gd rs mu rm ss msz msh mho mhn mhz kd nb tn tc bo ip, wMr G rw la ns sd to he sw nh ki te mi ar z]) (rest := []) (st' := [.int (bI (0 ≤ w ∧ w ≤ 1))]) 18 (c_X6_isWords_2 l G w ) [] rfl rfl [] rfl rfl rfl rfl rfl rfl (Nat.le_of_ble_eq_true rfl) rfl dX6_saying_18 ?_
      refine J_ifB_ne (tgt := 26) 21 dX6_saying_21 (by decide) (fun c_3_ => ?_) (fun c_3_ => ?_)
      · skip
        refine J_aload_n 26 0 dX6_saying_26 rfl rfl ?_
        refine g_789 (v := .ref rw) 27 0 rfl rfl dX6_saying_27 ?_
        refine J_iconst (v := 5) 30 dX6_saying_30 rfl ?_
        refine J_iald 31 1 5 rfl rfl (by omega) (by decide) dX6_saying_31 ?_
        refine J_topi (y := nI ns) 32 (fR_ns rfl) ?_
        refine J_bipush (v := 12) 32 dX6_saying_32 rfl ?_
        refine J_icmp_ne (tgt := 40) 34 dX6_saying_34 (by decide) (fun c_4_ => ?_) (fun c_4_ => ?_)
        · skip
          have c_4_ : ¬ ns = 12 := fun z_ => c_4_ ((nI_eq (a := ns) (b := 12) (by omega) (by omega)).mpr z_)
          refine J_aload_n 40 0 dX6_saying_40 rfl rfl ?_
          refine g_789 (v := .ref rw) 41 0 rfl rfl dX6_saying_41 ?_
          refine J_iconst (v := 5) 44 dX6_saying_44 rfl ?_
          refine J_iald 45 1 5 rfl rfl (by omega) (by decide) dX6_saying_45 ?_
          refine J_topi (y := nI ns) 46 (fR_ns rfl) ?_
          refine J_istore (lv' := [some (.ref o), some (.int x), some (.int y), some (.int w), some (.int (nI ns))]) 46 dX6_saying_46 (by decide) rfl ?_
          refine J_aload_n 48 0 dX6_saying_48 rfl rfl ?_
          refine g_789 (v := .ref rw) 49 0 rfl rfl dX6_saying_49 ?_
          refine J_bipush (v := 8) 52 dX6_saying_52 rfl ?_
          refine J_iconst (v := 3) 54 dX6_saying_54 rfl ?_
          refine J_iload 55 dX6_saying_55 rfl ?_
          refine J_imul 57 dX6_saying_57 ?_
          refine J_topi (y := nI (3 * ns)) 58 (pk_mul 3 ns) ?_
          refine J_iadd 58 dX6_saying_58 ?_
          refine J_topi (y := nI (8 + (3 * ns))) 59 (nI_add 8 (3 * ns)) ?_
          refine J_iload_n 59 1 dX6_saying_59 rfl rfl ?_
          refine J_iast (ws' := (wF [wMo o rw fr kp tr ik tp tm mso bg en wd va gd rs mu rm ss msz msh mho mhn mhz kd nb tn tc bo ip, wI G rw 76 (upd (fRow la ns sd to he sw nh ki te mi ar z) (8 + (3 * ns)) x)])) 60 1 (8 + (3 * ns)) rfl rfl (by omega) (by decide) rfl dX6_saying_60 ?_
          refine J_ws (ws' := (wF [wMo o rw fr kp tr ik tp tm mso bg en wd va gd rs mu rm ss msz msh mho mhn mhz kd nb tn tc bo ip, wMr G rw la ns sd (upd to ns x) he sw nh ki te mi ar z])) 61 (congrArg (fun x_ => (wF [wMo o rw fr kp tr ik tp tm mso bg en wd va gd rs mu rm ss msz msh mho mhn mhz kd nb tn tc bo ip, wI G rw 76 x_])) (fU_to (i := ns) (by omega) (by omega))) ?_
          refine J_aload_n 61 0 dX6_saying_61 rfl rfl ?_
          refine g_789 (v := .ref rw) 62 0 rfl rfl dX6_saying_62 ?_
          refine J_bipush (v := 8) 65 dX6_saying_65 rfl ?_
          refine J_iconst (v := 3) 67 dX6_saying_67 rfl ?_
          refine J_iload 68 dX6_saying_68 rfl ?_
          refine J_imul 70 dX6_saying_70 ?_
          refine J_topi (y := nI (3 * ns)) 71 (pk_mul 3 ns) ?_
          refine J_iadd 71 dX6_saying_71 ?_
          refine J_topi (y := nI (8 + (3 * ns))) 72 (nI_add 8 (3 * ns)) ?_
          refine J_iconst (v := 1) 72 dX6_saying_72 rfl ?_
          refine J_iadd 73 dX6_saying_73 ?_
          refine J_topi (y := nI ((8 + (3 * ns)) + 1)) 74 (nI_add (8 + (3 * ns)) 1) ?_
          refine J_iload_n 74 2 dX6_saying_74 rfl rfl ?_
          refine J_iast (ws' := (wF [wMo o rw fr kp tr ik tp tm mso bg en wd va gd rs mu rm ss msz msh mho mhn mhz kd nb tn tc bo ip, wI G rw 76 (upd (fRow la ns sd (upd to ns x) he sw nh ki te mi ar z) ((8 + (3 * ns)) + 1) y)])) 75 1 ((8 + (3 * ns)) + 1) rfl rfl (by omega) (by decide) rfl dX6_saying_75 ?_
          refine J_ws (ws' := (wF [wMo o rw fr kp tr ik tp tm mso bg en wd va gd rs mu rm ss msz msh mho mhn mhz kd nb tn tc bo ip, wMr G rw la ns sd (upd to ns x) (upd he ns y) sw nh ki te mi ar z])) 76 (congrArg (fun x_ => (wF [wMo o rw fr kp tr ik tp tm mso bg en wd va gd rs mu rm ss msz msh mho mhn mhz kd nb tn tc bo ip, wI G rw 76 x_])) (fU_he (i := ns) (by omega) (by omega))) ?_
          refine J_aload_n 76 0 dX6_saying_76 rfl rfl ?_
          refine g_789 (v := .ref rw) 77 0 rfl rfl dX6_saying_77 ?_
          refine J_bipush (v := 8) 80 dX6_saying_80 rfl ?_
          refine J_iconst (v := 3) 82 dX6_saying_82 rfl ?_
          refine J_iload 83 dX6_saying_83 rfl ?_
          refine J_imul 85 dX6_saying_85 ?_
          refine J_topi (y := nI (3 * ns)) 86 (pk_mul 3 ns) ?_
          refine J_iadd 86 dX6_saying_86 ?_
          refine J_topi (y := nI (8 + (3 * ns))) 87 (nI_add 8 (3 * ns)) ?_
          refine J_iconst (v := 2) 87 dX6_saying_87 rfl ?_
          refine J_iadd 88 dX6_saying_88 ?_
          refine J_topi (y := nI ((8 + (3 * ns)) + 2)) 89 (nI_add (8 + (3 * ns)) 2) ?_
          refine J_iload_n 89 3 dX6_saying_89 rfl rfl ?_
          refine J_iast (ws' := (wF [wMo o rw fr kp tr ik tp tm mso bg en wd va gd rs mu rm ss msz msh mho mhn mhz kd nb tn tc bo ip, wI G rw 76 (upd (fRow la ns sd (upd to ns x) (upd he ns y) sw nh ki te mi ar z) ((8 + (3 * ns)) + 2) w)])) 90 1 ((8 + (3 * ns)) + 2) rfl rfl (by omega) (by decide) rfl dX6_saying_90 ?_
          refine J_ws (ws' := (wF [wMo o rw fr kp tr ik tp tm mso bg en wd va gd rs mu rm ss msz msh mho mhn mhz kd nb tn tc bo ip, wMr G rw la ns sd (upd to ns x) (upd he ns y) (upd sw ns w) nh ki te mi ar z])) 91 (congrArg (fun x_ => (wF [wMo o rw fr kp tr ik tp tm mso bg en wd va gd rs mu rm ss msz msh mho mhn mhz kd nb tn tc bo ip, wI G rw 76 x_])) (fU_sw (i := ns) (by omega) (by omega))) ?_
          refine J_aload_n 91 0 dX6_saying_91 rfl rfl ?_
          refine g_789 (v := .ref rw) 92 0 rfl rfl dX6_saying_92 ?_
          refine J_iconst (v := 5) 95 dX6_saying_95 rfl ?_
          refine J_dup2 96 dX6_saying_96 rfl rfl ?_
          refine J_iald 97 1 5 rfl rfl (by omega) (by decide) dX6_saying_97 ?_
          refine J_topi (y := nI ns) 98 (fR_ns rfl) ?_
          refine J_iconst (v := 1) 98 dX6_saying_98 rfl ?_
          refine J_iadd 99 dX6_saying_99 ?_
          refine J_topi (y := nI (ns + 1)) 100 (nI_add ns 1) ?_
          refine J_iast (ws' := (wF [wMo o rw fr kp tr ik tp tm mso bg en wd va gd rs mu rm ss msz msh mho mhn mhz kd nb tn tc bo ip, wI G rw 76 (upd (fRow la ns sd (upd to ns x) (upd he ns y) (upd sw ns w) nh ki te mi ar z) 5 (nI (ns + 1)))])) 100 1 5 rfl rfl (by omega) (by decide) rfl dX6_saying_100 ?_
          refine J_ws (ws' := (wF [wMo o rw fr kp tr ik tp tm mso bg en wd va gd rs mu rm ss msz msh mho mhn mhz kd nb tn tc bo ip, wMr G rw la (ns + 1) sd (upd to ns x) (upd he ns y) (upd sw ns w) nh ki te mi ar z])) 101 (congrArg (fun x_ => (wF [wMo o rw fr kp tr ik tp tm mso bg en wd va gd rs mu rm ss msz msh mho mhn mhz kd nb tn tc bo ip, wI G rw 76 x_])) (fU_ns rfl)) ?_
          refine J_iload 101 dX6_saying_101 rfl ?_
          exact J_iret 103 dX6_saying_103 rfl rfl
        · skip
          have c_4_ : ns = 12 := (nI_eq (a := ns) (b := 12) (by omega) (by omega)).mp c_4_
          omega
      · skip
        exact absurd hw.2.2 c_3_
set_option maxRecDepth 100000 in
set_option maxHeartbeats 4000000 in
theorem c_X6_sayingOf_0 (l : Launch) (G : Gd) (i : Nat) (o : Nat) (rw : Nat) (fr : Nat) (kp : Nat) (tr : Nat) (ik : Int32) (tp : Nat) (tm : Nat) (mso : Int32) (bg : Nat) (en : Nat) (wd : Int64) (va : Int32) (gd : Int32) (rs : Nat) (mu : Nat) (rm : Nat) (ss : Nat) (msz : Nat) (msh : Nat) (mho : Nat) (mhn : Nat) (mhz : Nat) (kd : Int32) (nb : Int32) (tn : Int32) (tc : Nat) (bo : Nat) (ip : Int32) (la : Nat → Int32) (ns : Nat) (sd : Nat) (to : Nat → Int32) (he : Nat → Int32) (sw : Nat → Int32) (nh : Nat) (ki : Nat → Int32) (te : Nat → Int32) (mi : Nat → Int32) (ar : Nat → Int32) (z : Int32) (hi : i < ns) (hns : ns ≤ 12) : Ct l G yX6_sayingOf cX6_sayingOf 3 (some (FieldType.int)) 2 [.ref o, .int (nI i), .int 0] (wF [wMo o rw fr kp tr ik tp tm mso bg en wd va gd rs mu rm ss msz msh mho mhn mhz kd nb tn tc bo ip, wMr G rw la ns sd to he sw nh ki te mi ar z]) (some (.int (to i))) (wF [wMo o rw fr kp tr ik tp tm mso bg en wd va gd rs mu rm ss msz msh mho mhn mhz kd nb tn tc bo ip, wMr G rw la ns sd to he sw nh ki te mi ar z]) := by
  refine Ct.of "GooseArmsModel" [some (.ref o), some (.int (nI i)), some (.int 0)] (by decide +kernel) rfl (Nat.le_of_ble_eq_true rfl) rfl ?_
  refine J_aload_n 0 0 dX6_sayingOf_0 rfl rfl ?_
  refine J_iload_n 1 1 dX6_sayingOf_1 rfl rfl ?_
  refine kb_RX6_190 (bs' := [wMo o rw fr kp tr ik tp tm mso bg en wd va gd rs mu rm ss msz msh mho mhn mhz kd nb tn tc bo ip, wMr G rw la ns sd to he sw nh ki te mi ar z]) (rest := []) (st' := [.int 1]) 2 (c_X6_isSaying_t l G i o rw fr kp tr ik tp tm mso bg en wd va gd rs mu rm ss msz msh mho mhn mhz kd nb tn tc bo ip la ns sd to he sw nh ki te mi ar z (by assumption) (by omega)) [0, 1] 0 rfl rfl rfl [[o], [rw]] rfl rfl rfl rfl rfl rfl (Nat.le_of_ble_eq_true rfl) rfl dX6_sayingOf_2 ?_
  refine J_if_eq (tgt := 17) 5 dX6_sayingOf_5 (by decide) (fun c_1_ => absurd c_1_ (by decide)) (fun _ => ?_)
  refine J_iload_n 8 2 dX6_sayingOf_8 rfl rfl ?_
  refine J_iconst (v := 0) 9 dX6_sayingOf_9 rfl ?_
  refine J_iconst (v := 3) 10 dX6_sayingOf_10 rfl ?_
  refine kb_RX6_57 (bs' := [wMo o rw fr kp tr ik tp tm mso bg en wd va gd rs mu rm ss msz msh mho mhn mhz kd nb tn tc bo ip, wMr G rw la ns sd to he sw nh ki te mi ar z]) (rest := []) (st' := [.int 1]) 11 (c_X6_in_t l G 0 0 3 (by decide)) [] rfl rfl [] rfl rfl rfl rfl rfl rfl (Nat.le_of_ble_eq_true rfl) rfl dX6_sayingOf_11 ?_
  refine J_if_ne (tgt := 19) 14 dX6_sayingOf_14 (by decide) (fun _ => ?_) (fun c_2_ => absurd c_2_ (by decide))
  refine J_iload_n 19 2 dX6_sayingOf_19 rfl rfl ?_
  refine J_iconst (v := 3) 20 dX6_sayingOf_20 rfl ?_
  refine J_icmp_ge (tgt := 33) 21 dX6_sayingOf_21 (by decide) (fun c_3_ => absurd c_3_ (by decide)) (fun _ => ?_)
  refine J_aload_n 24 0 dX6_sayingOf_24 rfl rfl ?_
  refine J_iload_n 25 1 dX6_sayingOf_25 rfl rfl ?_
  refine J_iload_n 26 2 dX6_sayingOf_26 rfl rfl ?_
  refine kb_RX6_193 (bs' := [wMo o rw fr kp tr ik tp tm mso bg en wd va gd rs mu rm ss msz msh mho mhn mhz kd nb tn tc bo ip, wMr G rw la ns sd to he sw nh ki te mi ar z]) (rest := []) (st' := [.int (to i)]) 27 (c_X6_words_0 l G i o rw fr kp tr ik tp tm mso bg en wd va gd rs mu rm ss msz msh mho mhn mhz kd nb tn tc bo ip la ns sd to he sw nh ki te mi ar z (by first | omega | assumption)) [0, 1] 0 rfl rfl rfl [[o], [rw]] rfl rfl rfl rfl rfl rfl (Nat.le_of_ble_eq_true rfl) rfl dX6_sayingOf_27 ?_
  refine J_goto (tgt := 38) 30 dX6_sayingOf_30 (by decide) ?_
  exact J_iret 38 dX6_sayingOf_38 rfl rfl
set_option maxRecDepth 100000 in
set_option maxHeartbeats 4000000 in
theorem c_X6_sayingOf_1 (l : Launch) (G : Gd) (i : Nat) (o : Nat) (rw : Nat) (fr : Nat) (kp : Nat) (tr : Nat) (ik : Int32) (tp : Nat) (tm : Nat) (mso : Int32) (bg : Nat) (en : Nat) (wd : Int64) (va : Int32) (gd : Int32) (rs : Nat) (mu : Nat) (rm : Nat) (ss : Nat) (msz : Nat) (msh : Nat) (mho : Nat) (mhn : Nat) (mhz : Nat) (kd : Int32) (nb : Int32) (tn : Int32) (tc : Nat) (bo : Nat) (ip : Int32) (la : Nat → Int32) (ns : Nat) (sd : Nat) (to : Nat → Int32) (he : Nat → Int32) (sw : Nat → Int32) (nh : Nat) (ki : Nat → Int32) (te : Nat → Int32) (mi : Nat → Int32) (ar : Nat → Int32) (z : Int32) (hi : i < ns) (hns : ns ≤ 12) : Ct l G yX6_sayingOf cX6_sayingOf 3 (some (FieldType.int)) 2 [.ref o, .int (nI i), .int 1] (wF [wMo o rw fr kp tr ik tp tm mso bg en wd va gd rs mu rm ss msz msh mho mhn mhz kd nb tn tc bo ip, wMr G rw la ns sd to he sw nh ki te mi ar z]) (some (.int (he i))) (wF [wMo o rw fr kp tr ik tp tm mso bg en wd va gd rs mu rm ss msz msh mho mhn mhz kd nb tn tc bo ip, wMr G rw la ns sd to he sw nh ki te mi ar z]) := by
  refine Ct.of "GooseArmsModel" [some (.ref o), some (.int (nI i)), some (.int 1)] (by decide +kernel) rfl (Nat.le_of_ble_eq_true rfl) rfl ?_
  refine J_aload_n 0 0 dX6_sayingOf_0 rfl rfl ?_
  refine J_iload_n 1 1 dX6_sayingOf_1 rfl rfl ?_
  refine kb_RX6_190 (bs' := [wMo o rw fr kp tr ik tp tm mso bg en wd va gd rs mu rm ss msz msh mho mhn mhz kd nb tn tc bo ip, wMr G rw la ns sd to he sw nh ki te mi ar z]) (rest := []) (st' := [.int 1]) 2 (c_X6_isSaying_t l G i o rw fr kp tr ik tp tm mso bg en wd va gd rs mu rm ss msz msh mho mhn mhz kd nb tn tc bo ip la ns sd to he sw nh ki te mi ar z (by assumption) (by omega)) [0, 1] 0 rfl rfl rfl [[o], [rw]] rfl rfl rfl rfl rfl rfl (Nat.le_of_ble_eq_true rfl) rfl dX6_sayingOf_2 ?_
  refine J_if_eq (tgt := 17) 5 dX6_sayingOf_5 (by decide) (fun c_1_ => absurd c_1_ (by decide)) (fun _ => ?_)
  refine J_iload_n 8 2 dX6_sayingOf_8 rfl rfl ?_
  refine J_iconst (v := 0) 9 dX6_sayingOf_9 rfl ?_
  refine J_iconst (v := 3) 10 dX6_sayingOf_10 rfl ?_
  refine kb_RX6_57 (bs' := [wMo o rw fr kp tr ik tp tm mso bg en wd va gd rs mu rm ss msz msh mho mhn mhz kd nb tn tc bo ip, wMr G rw la ns sd to he sw nh ki te mi ar z]) (rest := []) (st' := [.int 1]) 11 (c_X6_in_t l G 1 0 3 (by decide)) [] rfl rfl [] rfl rfl rfl rfl rfl rfl (Nat.le_of_ble_eq_true rfl) rfl dX6_sayingOf_11 ?_
  refine J_if_ne (tgt := 19) 14 dX6_sayingOf_14 (by decide) (fun _ => ?_) (fun c_2_ => absurd c_2_ (by decide))
  refine J_iload_n 19 2 dX6_sayingOf_19 rfl rfl ?_
  refine J_iconst (v := 3) 20 dX6_sayingOf_20 rfl ?_
  refine J_icmp_ge (tgt := 33) 21 dX6_sayingOf_21 (by decide) (fun c_3_ => absurd c_3_ (by decide)) (fun _ => ?_)
  refine J_aload_n 24 0 dX6_sayingOf_24 rfl rfl ?_
  refine J_iload_n 25 1 dX6_sayingOf_25 rfl rfl ?_
  refine J_iload_n 26 2 dX6_sayingOf_26 rfl rfl ?_
  refine kb_RX6_193 (bs' := [wMo o rw fr kp tr ik tp tm mso bg en wd va gd rs mu rm ss msz msh mho mhn mhz kd nb tn tc bo ip, wMr G rw la ns sd to he sw nh ki te mi ar z]) (rest := []) (st' := [.int (he i)]) 27 (c_X6_words_1 l G i o rw fr kp tr ik tp tm mso bg en wd va gd rs mu rm ss msz msh mho mhn mhz kd nb tn tc bo ip la ns sd to he sw nh ki te mi ar z (by first | omega | assumption)) [0, 1] 0 rfl rfl rfl [[o], [rw]] rfl rfl rfl rfl rfl rfl (Nat.le_of_ble_eq_true rfl) rfl dX6_sayingOf_27 ?_
  refine J_goto (tgt := 38) 30 dX6_sayingOf_30 (by decide) ?_
  exact J_iret 38 dX6_sayingOf_38 rfl rfl
set_option maxRecDepth 100000 in
set_option maxHeartbeats 4000000 in
theorem c_X6_sayingOf_2 (l : Launch) (G : Gd) (i : Nat) (o : Nat) (rw : Nat) (fr : Nat) (kp : Nat) (tr : Nat) (ik : Int32) (tp : Nat) (tm : Nat) (mso : Int32) (bg : Nat) (en : Nat) (wd : Int64) (va : Int32) (gd : Int32) (rs : Nat) (mu : Nat) (rm : Nat) (ss : Nat) (msz : Nat) (msh : Nat) (mho : Nat) (mhn : Nat) (mhz : Nat) (kd : Int32) (nb : Int32) (tn : Int32) (tc : Nat) (bo : Nat) (ip : Int32) (la : Nat → Int32) (ns : Nat) (sd : Nat) (to : Nat → Int32) (he : Nat → Int32) (sw : Nat → Int32) (nh : Nat) (ki : Nat → Int32) (te : Nat → Int32) (mi : Nat → Int32) (ar : Nat → Int32) (z : Int32) (hi : i < ns) (hns : ns ≤ 12) : Ct l G yX6_sayingOf cX6_sayingOf 3 (some (FieldType.int)) 2 [.ref o, .int (nI i), .int 2] (wF [wMo o rw fr kp tr ik tp tm mso bg en wd va gd rs mu rm ss msz msh mho mhn mhz kd nb tn tc bo ip, wMr G rw la ns sd to he sw nh ki te mi ar z]) (some (.int (sw i))) (wF [wMo o rw fr kp tr ik tp tm mso bg en wd va gd rs mu rm ss msz msh mho mhn mhz kd nb tn tc bo ip, wMr G rw la ns sd to he sw nh ki te mi ar z]) := by
  refine Ct.of "GooseArmsModel" [some (.ref o), some (.int (nI i)), some (.int 2)] (by decide +kernel) rfl (Nat.le_of_ble_eq_true rfl) rfl ?_
  refine J_aload_n 0 0 dX6_sayingOf_0 rfl rfl ?_
  refine J_iload_n 1 1 dX6_sayingOf_1 rfl rfl ?_
  refine kb_RX6_190 (bs' := [wMo o rw fr kp tr ik tp tm mso bg en wd va gd rs mu rm ss msz msh mho mhn mhz kd nb tn tc bo ip, wMr G rw la ns sd to he sw nh ki te mi ar z]) (rest := []) (st' := [.int 1]) 2 (c_X6_isSaying_t l G i o rw fr kp tr ik tp tm mso bg en wd va gd rs mu rm ss msz msh mho mhn mhz kd nb tn tc bo ip la ns sd to he sw nh ki te mi ar z (by assumption) (by omega)) [0, 1] 0 rfl rfl rfl [[o], [rw]] rfl rfl rfl rfl rfl rfl (Nat.le_of_ble_eq_true rfl) rfl dX6_sayingOf_2 ?_
  refine J_if_eq (tgt := 17) 5 dX6_sayingOf_5 (by decide) (fun c_1_ => absurd c_1_ (by decide)) (fun _ => ?_)
  refine J_iload_n 8 2 dX6_sayingOf_8 rfl rfl ?_
  refine J_iconst (v := 0) 9 dX6_sayingOf_9 rfl ?_
  refine J_iconst (v := 3) 10 dX6_sayingOf_10 rfl ?_
  refine kb_RX6_57 (bs' := [wMo o rw fr kp tr ik tp tm mso bg en wd va gd rs mu rm ss msz msh mho mhn mhz kd nb tn tc bo ip, wMr G rw la ns sd to he sw nh ki te mi ar z]) (rest := []) (st' := [.int 1]) 11 (c_X6_in_t l G 2 0 3 (by decide)) [] rfl rfl [] rfl rfl rfl rfl rfl rfl (Nat.le_of_ble_eq_true rfl) rfl dX6_sayingOf_11 ?_
  refine J_if_ne (tgt := 19) 14 dX6_sayingOf_14 (by decide) (fun _ => ?_) (fun c_2_ => absurd c_2_ (by decide))
  refine J_iload_n 19 2 dX6_sayingOf_19 rfl rfl ?_
  refine J_iconst (v := 3) 20 dX6_sayingOf_20 rfl ?_
  refine J_icmp_ge (tgt := 33) 21 dX6_sayingOf_21 (by decide) (fun c_3_ => absurd c_3_ (by decide)) (fun _ => ?_)
  refine J_aload_n 24 0 dX6_sayingOf_24 rfl rfl ?_
  refine J_iload_n 25 1 dX6_sayingOf_25 rfl rfl ?_
  refine J_iload_n 26 2 dX6_sayingOf_26 rfl rfl ?_
  refine kb_RX6_193 (bs' := [wMo o rw fr kp tr ik tp tm mso bg en wd va gd rs mu rm ss msz msh mho mhn mhz kd nb tn tc bo ip, wMr G rw la ns sd to he sw nh ki te mi ar z]) (rest := []) (st' := [.int (sw i)]) 27 (c_X6_words_2 l G i o rw fr kp tr ik tp tm mso bg en wd va gd rs mu rm ss msz msh mho mhn mhz kd nb tn tc bo ip la ns sd to he sw nh ki te mi ar z (by first | omega | assumption)) [0, 1] 0 rfl rfl rfl [[o], [rw]] rfl rfl rfl rfl rfl rfl (Nat.le_of_ble_eq_true rfl) rfl dX6_sayingOf_27 ?_
  refine J_goto (tgt := 38) 30 dX6_sayingOf_30 (by decide) ?_
  exact J_iret 38 dX6_sayingOf_38 rfl rfl
set_option maxRecDepth 100000 in
set_option maxHeartbeats 4000000 in
theorem c_X6_sayingOf_3 (l : Launch) (G : Gd) (i : Nat) (o : Nat) (rw : Nat) (fr : Nat) (kp : Nat) (tr : Nat) (ik : Int32) (tp : Nat) (tm : Nat) (mso : Int32) (bg : Nat) (en : Nat) (wd : Int64) (va : Int32) (gd : Int32) (rs : Nat) (mu : Nat) (rm : Nat) (ss : Nat) (msz : Nat) (msh : Nat) (mho : Nat) (mhn : Nat) (mhz : Nat) (kd : Int32) (nb : Int32) (tn : Int32) (tc : Nat) (bo : Nat) (ip : Int32) (la : Nat → Int32) (ns : Nat) (sd : Nat) (to : Nat → Int32) (he : Nat → Int32) (sw : Nat → Int32) (nh : Nat) (ki : Nat → Int32) (te : Nat → Int32) (mi : Nat → Int32) (ar : Nat → Int32) (z : Int32) (hi : i < ns) (hns : ns ≤ 12) (hnh : nh ≤ 8) : Ct l G yX6_sayingOf cX6_sayingOf 3 (some (FieldType.int)) 2 [.ref o, .int (nI i), .int 3] (wF [wMo o rw fr kp tr ik tp tm mso bg en wd va gd rs mu rm ss msz msh mho mhn mhz kd nb tn tc bo ip, wMr G rw la ns sd to he sw nh ki te mi ar z]) (some (.int (fMask (fun h_ => hasP (ar h_) (nI i)) nh))) (wF [wMo o rw fr kp tr ik tp tm mso bg en wd va gd rs mu rm ss msz msh mho mhn mhz kd nb tn tc bo ip, wMr G rw la ns sd to he sw nh ki te mi ar z]) := by
  refine Ct.of "GooseArmsModel" [some (.ref o), some (.int (nI i)), some (.int 3)] (by decide +kernel) rfl (Nat.le_of_ble_eq_true rfl) rfl ?_
  refine J_aload_n 0 0 dX6_sayingOf_0 rfl rfl ?_
  refine J_iload_n 1 1 dX6_sayingOf_1 rfl rfl ?_
  refine kb_RX6_190 (bs' := [wMo o rw fr kp tr ik tp tm mso bg en wd va gd rs mu rm ss msz msh mho mhn mhz kd nb tn tc bo ip, wMr G rw la ns sd to he sw nh ki te mi ar z]) (rest := []) (st' := [.int 1]) 2 (c_X6_isSaying_t l G i o rw fr kp tr ik tp tm mso bg en wd va gd rs mu rm ss msz msh mho mhn mhz kd nb tn tc bo ip la ns sd to he sw nh ki te mi ar z (by assumption) (by omega)) [0, 1] 0 rfl rfl rfl [[o], [rw]] rfl rfl rfl rfl rfl rfl (Nat.le_of_ble_eq_true rfl) rfl dX6_sayingOf_2 ?_
  refine J_if_eq (tgt := 17) 5 dX6_sayingOf_5 (by decide) (fun c_1_ => absurd c_1_ (by decide)) (fun _ => ?_)
  refine J_iload_n 8 2 dX6_sayingOf_8 rfl rfl ?_
  refine J_iconst (v := 0) 9 dX6_sayingOf_9 rfl ?_
  refine J_iconst (v := 3) 10 dX6_sayingOf_10 rfl ?_
  refine kb_RX6_57 (bs' := [wMo o rw fr kp tr ik tp tm mso bg en wd va gd rs mu rm ss msz msh mho mhn mhz kd nb tn tc bo ip, wMr G rw la ns sd to he sw nh ki te mi ar z]) (rest := []) (st' := [.int 1]) 11 (c_X6_in_t l G 3 0 3 (by decide)) [] rfl rfl [] rfl rfl rfl rfl rfl rfl (Nat.le_of_ble_eq_true rfl) rfl dX6_sayingOf_11 ?_
  refine J_if_ne (tgt := 19) 14 dX6_sayingOf_14 (by decide) (fun _ => ?_) (fun c_2_ => absurd c_2_ (by decide))
  refine J_iload_n 19 2 dX6_sayingOf_19 rfl rfl ?_
  refine J_iconst (v := 3) 20 dX6_sayingOf_20 rfl ?_
  refine J_icmp_ge (tgt := 33) 21 dX6_sayingOf_21 (by decide) (fun _ => ?_) (fun c_3_ => absurd c_3_ (by decide))
  refine J_aload_n 33 0 dX6_sayingOf_33 rfl rfl ?_
  refine J_iload_n 34 1 dX6_sayingOf_34 rfl rfl ?_
  refine kb_RX6_196 (bs' := [wMo o rw fr kp tr ik tp tm mso bg en wd va gd rs mu rm ss msz msh mho mhn mhz kd nb tn tc bo ip, wMr G rw la ns sd to he sw nh ki te mi ar z]) (rest := []) (st' := [.int (fMask (fun h_ => hasP (ar h_) (nI i)) nh)]) 35 (c_X6_raisedBy l G i o rw fr kp tr ik tp tm mso bg en wd va gd rs mu rm ss msz msh mho mhn mhz kd nb tn tc bo ip la ns sd to he sw nh ki te mi ar z (by first | omega | assumption)) [0, 1] 0 rfl rfl rfl [[o], [rw]] rfl rfl rfl rfl rfl rfl (Nat.le_of_ble_eq_true rfl) rfl dX6_sayingOf_35 ?_
  exact J_iret 38 dX6_sayingOf_38 rfl rfl
set_option maxRecDepth 100000 in
set_option maxHeartbeats 4000000 in
theorem c_X6_sayingOf_badw (l : Launch) (G : Gd) (i : Nat) (w : Int32) (o : Nat) (rw : Nat) (fr : Nat) (kp : Nat) (tr : Nat) (ik : Int32) (tp : Nat) (tm : Nat) (mso : Int32) (bg : Nat) (en : Nat) (wd : Int64) (va : Int32) (gd : Int32) (rs : Nat) (mu : Nat) (rm : Nat) (ss : Nat) (msz : Nat) (msh : Nat) (mho : Nat) (mhn : Nat) (mhz : Nat) (kd : Int32) (nb : Int32) (tn : Int32) (tc : Nat) (bo : Nat) (ip : Int32) (la : Nat → Int32) (ns : Nat) (sd : Nat) (to : Nat → Int32) (he : Nat → Int32) (sw : Nat → Int32) (nh : Nat) (ki : Nat → Int32) (te : Nat → Int32) (mi : Nat → Int32) (ar : Nat → Int32) (z : Int32) (hi : i < ns) (hns : ns ≤ 12) (hw : ¬ (0 ≤ w ∧ w ≤ 3)) : Ct l G yX6_sayingOf cX6_sayingOf 3 (some (FieldType.int)) 2 [.ref o, .int (nI i), .int w] (wF [wMo o rw fr kp tr ik tp tm mso bg en wd va gd rs mu rm ss msz msh mho mhn mhz kd nb tn tc bo ip, wMr G rw la ns sd to he sw nh ki te mi ar z]) (some (.int (-1))) (wF [wMo o rw fr kp tr ik tp tm mso bg en wd va gd rs mu rm ss msz msh mho mhn mhz kd nb tn tc bo ip, wMr G rw la ns sd to he sw nh ki te mi ar z]) := by
  refine Ct.of "GooseArmsModel" [some (.ref o), some (.int (nI i)), some (.int w)] (by decide +kernel) rfl (Nat.le_of_ble_eq_true rfl) rfl ?_
  refine J_aload_n 0 0 dX6_sayingOf_0 rfl rfl ?_
  refine J_iload_n 1 1 dX6_sayingOf_1 rfl rfl ?_
  refine kb_RX6_190 (bs' := [wMo o rw fr kp tr ik tp tm mso bg en wd va gd rs mu rm ss msz msh mho mhn mhz kd nb tn tc bo ip, wMr G rw la ns sd to he sw nh ki te mi ar z]) (rest := []) (st' := [.int 1]) 2 (c_X6_isSaying_t l G i o rw fr kp tr ik tp tm mso bg en wd va gd rs mu rm ss msz msh mho mhn mhz kd nb tn tc bo ip la ns sd to he sw nh ki te mi ar z (by assumption) (by omega)) [0, 1] 0 rfl rfl rfl [[o], [rw]] rfl rfl rfl rfl rfl rfl (Nat.le_of_ble_eq_true rfl) rfl dX6_sayingOf_2 ?_
  refine J_if_eq (tgt := 17) 5 dX6_sayingOf_5 (by decide) (fun c_1_ => absurd c_1_ (by decide)) (fun _ => ?_)
  refine J_iload_n 8 2 dX6_sayingOf_8 rfl rfl ?_
  refine J_iconst (v := 0) 9 dX6_sayingOf_9 rfl ?_
  refine J_iconst (v := 3) 10 dX6_sayingOf_10 rfl ?_
  refine kb_RX6_57 (bs' := [wMo o rw fr kp tr ik tp tm mso bg en wd va gd rs mu rm ss msz msh mho mhn mhz kd nb tn tc bo ip, wMr G rw la ns sd to he sw nh ki te mi ar z]) (rest := []) (st' := [.int 0]) 11 (c_X6_in_f l G w 0 3 hw) [] rfl rfl [] rfl rfl rfl rfl rfl rfl (Nat.le_of_ble_eq_true rfl) rfl dX6_sayingOf_11 ?_
  refine J_if_ne (tgt := 19) 14 dX6_sayingOf_14 (by decide) (fun c_2_ => absurd c_2_ (by decide)) (fun _ => ?_)
  refine J_iconst (v := (-1)) 17 dX6_sayingOf_17 rfl ?_
  exact J_iret 18 dX6_sayingOf_18 rfl rfl
set_option maxRecDepth 100000 in
set_option maxHeartbeats 4000000 in
theorem c_X6_sayingOf_bad (l : Launch) (G : Gd) (i : Int32) (w : Int32) (o : Nat) (rw : Nat) (fr : Nat) (kp : Nat) (tr : Nat) (ik : Int32) (tp : Nat) (tm : Nat) (mso : Int32) (bg : Nat) (en : Nat) (wd : Int64) (va : Int32) (gd : Int32) (rs : Nat) (mu : Nat) (rm : Nat) (ss : Nat) (msz : Nat) (msh : Nat) (mho : Nat) (mhn : Nat) (mhz : Nat) (kd : Int32) (nb : Int32) (tn : Int32) (tc : Nat) (bo : Nat) (ip : Int32) (la : Nat → Int32) (ns : Nat) (sd : Nat) (to : Nat → Int32) (he : Nat → Int32) (sw : Nat → Int32) (nh : Nat) (ki : Nat → Int32) (te : Nat → Int32) (mi : Nat → Int32) (ar : Nat → Int32) (z : Int32) (hw : ¬ (0 ≤ i ∧ i ≤ nI ns - 1)) : Ct l G yX6_sayingOf cX6_sayingOf 3 (some (FieldType.int)) 2 [.ref o, .int i, .int w] (wF [wMo o rw fr kp tr ik tp tm mso bg en wd va gd rs mu rm ss msz msh mho mhn mhz kd nb tn tc bo ip, wMr G rw la ns sd to he sw nh ki te mi ar z]) (some (.int (-1))) (wF [wMo o rw fr kp tr ik tp tm mso bg en wd va gd rs mu rm ss msz msh mho mhn mhz kd nb tn tc bo ip, wMr G rw la ns sd to he sw nh ki te mi ar z]) := by
  refine Ct.of "GooseArmsModel" [some (.ref o), some (.int i), some (.int w)] (by decide +kernel) rfl (Nat.le_of_ble_eq_true rfl) rfl ?_
  refine J_aload_n 0 0 dX6_sayingOf_0 rfl rfl ?_
  refine J_iload_n 1 1 dX6_sayingOf_1 rfl rfl ?_
  refine kb_RX6_190 (bs' := [wMo o rw fr kp tr ik tp tm mso bg en wd va gd rs mu rm ss msz msh mho mhn mhz kd nb tn tc bo ip, wMr G rw la ns sd to he sw nh ki te mi ar z]) (rest := []) (st' := [.int 0]) 2 (c_X6_isSaying_f l G i o rw fr kp tr ik tp tm mso bg en wd va gd rs mu rm ss msz msh mho mhn mhz kd nb tn tc bo ip la ns sd to he sw nh ki te mi ar z (by first | omega | assumption)) [0, 1] 0 rfl rfl rfl [[o], [rw]] rfl rfl rfl rfl rfl rfl (Nat.le_of_ble_eq_true rfl) rfl dX6_sayingOf_2 ?_
  refine J_if_eq (tgt := 17) 5 dX6_sayingOf_5 (by decide) (fun _ => ?_) (fun c_1_ => absurd c_1_ (by decide))
  refine J_iconst (v := (-1)) 17 dX6_sayingOf_17 rfl ?_
  exact J_iret 18 dX6_sayingOf_18 rfl rfl
set_option maxRecDepth 100000 in
set_option maxHeartbeats 4000000 in
theorem c_X6_alter_0 (l : Launch) (G : Gd) (i : Nat) (v : Int32) (o : Nat) (rw : Nat) (fr : Nat) (kp : Nat) (tr : Nat) (ik : Int32) (tp : Nat) (tm : Nat) (mso : Int32) (bg : Nat) (en : Nat) (wd : Int64) (va : Int32) (gd : Int32) (rs : Nat) (mu : Nat) (rm : Nat) (ss : Nat) (msz : Nat) (msh : Nat) (mho : Nat) (mhn : Nat) (mhz : Nat) (kd : Int32) (nb : Int32) (tn : Int32) (tc : Nat) (bo : Nat) (ip : Int32) (la : Nat → Int32) (ns : Nat) (sd : Nat) (to : Nat → Int32) (he : Nat → Int32) (sw : Nat → Int32) (nh : Nat) (ki : Nat → Int32) (te : Nat → Int32) (mi : Nat → Int32) (ar : Nat → Int32) (z : Int32) (hi : i < ns) (hns : ns ≤ 12) (hw : 0 ≤ v ∧ v ≤ 7) : Ct l G yX6_alter cX6_alter 4 (some (FieldType.int)) 2 [.ref o, .int (nI i), .int 0, .int v] (wF [wMo o rw fr kp tr ik tp tm mso bg en wd va gd rs mu rm ss msz msh mho mhn mhz kd nb tn tc bo ip, wMr G rw la ns sd to he sw nh ki te mi ar z]) (some (.int (to i))) (wF [wMo o rw fr kp tr ik tp tm mso bg en wd va gd rs mu rm ss msz msh mho mhn mhz kd nb tn tc bo ip, wMr G rw la ns sd (upd to i v) he sw nh ki te mi ar z]) := by
  refine Ct.of "GooseArmsModel" [some (.ref o), some (.int (nI i)), some (.int 0), some (.int v)] (by decide +kernel) rfl (Nat.le_of_ble_eq_true rfl) rfl ?_
  refine J_aload_n 0 0 dX6_alter_0 rfl rfl ?_
  refine J_iload_n 1 1 dX6_alter_1 rfl rfl ?_
  refine kb_RX6_190 (bs' := [wMo o rw fr kp tr ik tp tm mso bg en wd va gd rs mu rm ss msz msh mho mhn mhz kd nb tn tc bo ip, wMr G rw la ns sd to he sw nh ki te mi ar z]) (rest := []) (st' := [.int 1]) 2 (c_X6_isSaying_t l G i o rw fr kp tr ik tp tm mso bg en wd va gd rs mu rm ss msz msh mho mhn mhz kd nb tn tc bo ip la ns sd to he sw nh ki te mi ar z (by assumption) (by omega)) [0, 1] 0 rfl rfl rfl [[o], [rw]] rfl rfl rfl rfl rfl rfl (Nat.le_of_ble_eq_true rfl) rfl dX6_alter_2 ?_
  refine J_if_eq (tgt := 32) 5 dX6_alter_5 (by decide) (fun c_1_ => absurd c_1_ (by decide)) (fun _ => ?_)
  refine J_iload_n 8 2 dX6_alter_8 rfl rfl ?_
  refine J_iload_n 9 3 dX6_alter_9 rfl rfl ?_
  refine kb_RX6_183 (bs' := [wMo o rw fr kp tr ik tp tm mso bg en wd va gd rs mu rm ss msz msh mho mhn mhz kd nb tn tc bo ip, wMr G rw la ns sd to he sw nh ki te mi ar z]) (rest := []) (st' := [.int (bI (0 ≤ v ∧ v ≤ 7))]) 10 (c_X6_isWords_0 l G v ) [] rfl rfl [] rfl rfl rfl rfl rfl rfl (Nat.le_of_ble_eq_true rfl) rfl dX6_alter_10 ?_
  refine J_ifB_eq (tgt := 32) 13 dX6_alter_13 (by decide) (fun c_2_ => ?_) (fun c_2_ => ?_)
  · skip
    exact absurd hw c_2_
  · skip
    refine J_aload_n 16 0 dX6_alter_16 rfl rfl ?_
    refine J_bipush (v := 8) 17 dX6_alter_17 rfl ?_
    refine J_iconst (v := 3) 19 dX6_alter_19 rfl ?_
    refine J_iload_n 20 1 dX6_alter_20 rfl rfl ?_
    refine J_imul 21 dX6_alter_21 ?_
    refine J_topi (y := nI (3 * i)) 22 (pk_mul 3 i) ?_
    refine J_iadd 22 dX6_alter_22 ?_
    refine J_topi (y := nI (8 + (3 * i))) 23 (nI_add 8 (3 * i)) ?_
    refine J_iload_n 23 2 dX6_alter_23 rfl rfl ?_
    refine J_iadd 24 dX6_alter_24 ?_
    refine J_topi (y := nI ((8 + (3 * i)) + 0)) 25 (nI_add (8 + (3 * i)) 0) ?_
    refine J_iload_n 25 3 dX6_alter_25 rfl rfl ?_
    refine kb_RX6_180 (bs' := [wMo o rw fr kp tr ik tp tm mso bg en wd va gd rs mu rm ss msz msh mho mhn mhz kd nb tn tc bo ip, wMr G rw la ns sd (upd to i v) he sw nh ki te mi ar z]) (rest := []) (st' := [.int (to i)]) 26 (c_X6_becomes_to l G i v o rw fr kp tr ik tp tm mso bg en wd va gd rs mu rm ss msz msh mho mhn mhz kd nb tn tc bo ip la ns sd to he sw nh ki te mi ar z (by first | omega | assumption)) [0, 1] 0 rfl rfl rfl [[o], [rw]] rfl rfl rfl rfl rfl rfl (Nat.le_of_ble_eq_true rfl) rfl dX6_alter_26 ?_
    refine J_goto (tgt := 33) 29 dX6_alter_29 (by decide) ?_
    exact J_iret 33 dX6_alter_33 rfl rfl
set_option maxRecDepth 100000 in
set_option maxHeartbeats 4000000 in
theorem c_X6_alter_0f (l : Launch) (G : Gd) (i : Nat) (v : Int32) (o : Nat) (rw : Nat) (fr : Nat) (kp : Nat) (tr : Nat) (ik : Int32) (tp : Nat) (tm : Nat) (mso : Int32) (bg : Nat) (en : Nat) (wd : Int64) (va : Int32) (gd : Int32) (rs : Nat) (mu : Nat) (rm : Nat) (ss : Nat) (msz : Nat) (msh : Nat) (mho : Nat) (mhn : Nat) (mhz : Nat) (kd : Int32) (nb : Int32) (tn : Int32) (tc : Nat) (bo : Nat) (ip : Int32) (la : Nat → Int32) (ns : Nat) (sd : Nat) (to : Nat → Int32) (he : Nat → Int32) (sw : Nat → Int32) (nh : Nat) (ki : Nat → Int32) (te : Nat → Int32) (mi : Nat → Int32) (ar : Nat → Int32) (z : Int32) (hi : i < ns) (hns : ns ≤ 12) (hw : ¬ (0 ≤ v ∧ v ≤ 7)) : Ct l G yX6_alter cX6_alter 4 (some (FieldType.int)) 2 [.ref o, .int (nI i), .int 0, .int v] (wF [wMo o rw fr kp tr ik tp tm mso bg en wd va gd rs mu rm ss msz msh mho mhn mhz kd nb tn tc bo ip, wMr G rw la ns sd to he sw nh ki te mi ar z]) (some (.int (-1))) (wF [wMo o rw fr kp tr ik tp tm mso bg en wd va gd rs mu rm ss msz msh mho mhn mhz kd nb tn tc bo ip, wMr G rw la ns sd to he sw nh ki te mi ar z]) := by
  refine Ct.of "GooseArmsModel" [some (.ref o), some (.int (nI i)), some (.int 0), some (.int v)] (by decide +kernel) rfl (Nat.le_of_ble_eq_true rfl) rfl ?_
  refine J_aload_n 0 0 dX6_alter_0 rfl rfl ?_
  refine J_iload_n 1 1 dX6_alter_1 rfl rfl ?_
  refine kb_RX6_190 (bs' := [wMo o rw fr kp tr ik tp tm mso bg en wd va gd rs mu rm ss msz msh mho mhn mhz kd nb tn tc bo ip, wMr G rw la ns sd to he sw nh ki te mi ar z]) (rest := []) (st' := [.int 1]) 2 (c_X6_isSaying_t l G i o rw fr kp tr ik tp tm mso bg en wd va gd rs mu rm ss msz msh mho mhn mhz kd nb tn tc bo ip la ns sd to he sw nh ki te mi ar z (by assumption) (by omega)) [0, 1] 0 rfl rfl rfl [[o], [rw]] rfl rfl rfl rfl rfl rfl (Nat.le_of_ble_eq_true rfl) rfl dX6_alter_2 ?_
  refine J_if_eq (tgt := 32) 5 dX6_alter_5 (by decide) (fun c_1_ => absurd c_1_ (by decide)) (fun _ => ?_)
  refine J_iload_n 8 2 dX6_alter_8 rfl rfl ?_
  refine J_iload_n 9 3 dX6_alter_9 rfl rfl ?_
  refine kb_RX6_183 (bs' := [wMo o rw fr kp tr ik tp tm mso bg en wd va gd rs mu rm ss msz msh mho mhn mhz kd nb tn tc bo ip, wMr G rw la ns sd to he sw nh ki te mi ar z]) (rest := []) (st' := [.int (bI (0 ≤ v ∧ v ≤ 7))]) 10 (c_X6_isWords_0 l G v ) [] rfl rfl [] rfl rfl rfl rfl rfl rfl (Nat.le_of_ble_eq_true rfl) rfl dX6_alter_10 ?_
  refine J_ifB_eq (tgt := 32) 13 dX6_alter_13 (by decide) (fun c_2_ => ?_) (fun c_2_ => ?_)
  · skip
    refine J_iconst (v := (-1)) 32 dX6_alter_32 rfl ?_
    exact J_iret 33 dX6_alter_33 rfl rfl
  · skip
    exact absurd c_2_ hw
set_option maxRecDepth 100000 in
set_option maxHeartbeats 4000000 in
theorem c_X6_alter_1 (l : Launch) (G : Gd) (i : Nat) (v : Int32) (o : Nat) (rw : Nat) (fr : Nat) (kp : Nat) (tr : Nat) (ik : Int32) (tp : Nat) (tm : Nat) (mso : Int32) (bg : Nat) (en : Nat) (wd : Int64) (va : Int32) (gd : Int32) (rs : Nat) (mu : Nat) (rm : Nat) (ss : Nat) (msz : Nat) (msh : Nat) (mho : Nat) (mhn : Nat) (mhz : Nat) (kd : Int32) (nb : Int32) (tn : Int32) (tc : Nat) (bo : Nat) (ip : Int32) (la : Nat → Int32) (ns : Nat) (sd : Nat) (to : Nat → Int32) (he : Nat → Int32) (sw : Nat → Int32) (nh : Nat) (ki : Nat → Int32) (te : Nat → Int32) (mi : Nat → Int32) (ar : Nat → Int32) (z : Int32) (hi : i < ns) (hns : ns ≤ 12) (hw : 0 ≤ v ∧ v ≤ 9) : Ct l G yX6_alter cX6_alter 4 (some (FieldType.int)) 2 [.ref o, .int (nI i), .int 1, .int v] (wF [wMo o rw fr kp tr ik tp tm mso bg en wd va gd rs mu rm ss msz msh mho mhn mhz kd nb tn tc bo ip, wMr G rw la ns sd to he sw nh ki te mi ar z]) (some (.int (he i))) (wF [wMo o rw fr kp tr ik tp tm mso bg en wd va gd rs mu rm ss msz msh mho mhn mhz kd nb tn tc bo ip, wMr G rw la ns sd to (upd he i v) sw nh ki te mi ar z]) := by
  refine Ct.of "GooseArmsModel" [some (.ref o), some (.int (nI i)), some (.int 1), some (.int v)] (by decide +kernel) rfl (Nat.le_of_ble_eq_true rfl) rfl ?_
  refine J_aload_n 0 0 dX6_alter_0 rfl rfl ?_
  refine J_iload_n 1 1 dX6_alter_1 rfl rfl ?_
  refine kb_RX6_190 (bs' := [wMo o rw fr kp tr ik tp tm mso bg en wd va gd rs mu rm ss msz msh mho mhn mhz kd nb tn tc bo ip, wMr G rw la ns sd to he sw nh ki te mi ar z]) (rest := []) (st' := [.int 1]) 2 (c_X6_isSaying_t l G i o rw fr kp tr ik tp tm mso bg en wd va gd rs mu rm ss msz msh mho mhn mhz kd nb tn tc bo ip la ns sd to he sw nh ki te mi ar z (by assumption) (by omega)) [0, 1] 0 rfl rfl rfl [[o], [rw]] rfl rfl rfl rfl rfl rfl (Nat.le_of_ble_eq_true rfl) rfl dX6_alter_2 ?_
  refine J_if_eq (tgt := 32) 5 dX6_alter_5 (by decide) (fun c_1_ => absurd c_1_ (by decide)) (fun _ => ?_)
  refine J_iload_n 8 2 dX6_alter_8 rfl rfl ?_
  refine J_iload_n 9 3 dX6_alter_9 rfl rfl ?_
  refine kb_RX6_183 (bs' := [wMo o rw fr kp tr ik tp tm mso bg en wd va gd rs mu rm ss msz msh mho mhn mhz kd nb tn tc bo ip, wMr G rw la ns sd to he sw nh ki te mi ar z]) (rest := []) (st' := [.int (bI (0 ≤ v ∧ v ≤ 9))]) 10 (c_X6_isWords_1 l G v ) [] rfl rfl [] rfl rfl rfl rfl rfl rfl (Nat.le_of_ble_eq_true rfl) rfl dX6_alter_10 ?_
  refine J_ifB_eq (tgt := 32) 13 dX6_alter_13 (by decide) (fun c_2_ => ?_) (fun c_2_ => ?_)
  · skip
    exact absurd hw c_2_
  · skip
    refine J_aload_n 16 0 dX6_alter_16 rfl rfl ?_
    refine J_bipush (v := 8) 17 dX6_alter_17 rfl ?_
    refine J_iconst (v := 3) 19 dX6_alter_19 rfl ?_
    refine J_iload_n 20 1 dX6_alter_20 rfl rfl ?_
    refine J_imul 21 dX6_alter_21 ?_
    refine J_topi (y := nI (3 * i)) 22 (pk_mul 3 i) ?_
    refine J_iadd 22 dX6_alter_22 ?_
    refine J_topi (y := nI (8 + (3 * i))) 23 (nI_add 8 (3 * i)) ?_
    refine J_iload_n 23 2 dX6_alter_23 rfl rfl ?_
    refine J_iadd 24 dX6_alter_24 ?_
    refine J_topi (y := nI ((8 + (3 * i)) + 1)) 25 (nI_add (8 + (3 * i)) 1) ?_
    refine J_iload_n 25 3 dX6_alter_25 rfl rfl ?_
    refine kb_RX6_180 (bs' := [wMo o rw fr kp tr ik tp tm mso bg en wd va gd rs mu rm ss msz msh mho mhn mhz kd nb tn tc bo ip, wMr G rw la ns sd to (upd he i v) sw nh ki te mi ar z]) (rest := []) (st' := [.int (he i)]) 26 (c_X6_becomes_he l G i v o rw fr kp tr ik tp tm mso bg en wd va gd rs mu rm ss msz msh mho mhn mhz kd nb tn tc bo ip la ns sd to he sw nh ki te mi ar z (by first | omega | assumption)) [0, 1] 0 rfl rfl rfl [[o], [rw]] rfl rfl rfl rfl rfl rfl (Nat.le_of_ble_eq_true rfl) rfl dX6_alter_26 ?_
    refine J_goto (tgt := 33) 29 dX6_alter_29 (by decide) ?_
    exact J_iret 33 dX6_alter_33 rfl rfl
set_option maxRecDepth 100000 in
set_option maxHeartbeats 4000000 in
theorem c_X6_alter_1f (l : Launch) (G : Gd) (i : Nat) (v : Int32) (o : Nat) (rw : Nat) (fr : Nat) (kp : Nat) (tr : Nat) (ik : Int32) (tp : Nat) (tm : Nat) (mso : Int32) (bg : Nat) (en : Nat) (wd : Int64) (va : Int32) (gd : Int32) (rs : Nat) (mu : Nat) (rm : Nat) (ss : Nat) (msz : Nat) (msh : Nat) (mho : Nat) (mhn : Nat) (mhz : Nat) (kd : Int32) (nb : Int32) (tn : Int32) (tc : Nat) (bo : Nat) (ip : Int32) (la : Nat → Int32) (ns : Nat) (sd : Nat) (to : Nat → Int32) (he : Nat → Int32) (sw : Nat → Int32) (nh : Nat) (ki : Nat → Int32) (te : Nat → Int32) (mi : Nat → Int32) (ar : Nat → Int32) (z : Int32) (hi : i < ns) (hns : ns ≤ 12) (hw : ¬ (0 ≤ v ∧ v ≤ 9)) : Ct l G yX6_alter cX6_alter 4 (some (FieldType.int)) 2 [.ref o, .int (nI i), .int 1, .int v] (wF [wMo o rw fr kp tr ik tp tm mso bg en wd va gd rs mu rm ss msz msh mho mhn mhz kd nb tn tc bo ip, wMr G rw la ns sd to he sw nh ki te mi ar z]) (some (.int (-1))) (wF [wMo o rw fr kp tr ik tp tm mso bg en wd va gd rs mu rm ss msz msh mho mhn mhz kd nb tn tc bo ip, wMr G rw la ns sd to he sw nh ki te mi ar z]) := by
  refine Ct.of "GooseArmsModel" [some (.ref o), some (.int (nI i)), some (.int 1), some (.int v)] (by decide +kernel) rfl (Nat.le_of_ble_eq_true rfl) rfl ?_
  refine J_aload_n 0 0 dX6_alter_0 rfl rfl ?_
  refine J_iload_n 1 1 dX6_alter_1 rfl rfl ?_
  refine kb_RX6_190 (bs' := [wMo o rw fr kp tr ik tp tm mso bg en wd va gd rs mu rm ss msz msh mho mhn mhz kd nb tn tc bo ip, wMr G rw la ns sd to he sw nh ki te mi ar z]) (rest := []) (st' := [.int 1]) 2 (c_X6_isSaying_t l G i o rw fr kp tr ik tp tm mso bg en wd va gd rs mu rm ss msz msh mho mhn mhz kd nb tn tc bo ip la ns sd to he sw nh ki te mi ar z (by assumption) (by omega)) [0, 1] 0 rfl rfl rfl [[o], [rw]] rfl rfl rfl rfl rfl rfl (Nat.le_of_ble_eq_true rfl) rfl dX6_alter_2 ?_
  refine J_if_eq (tgt := 32) 5 dX6_alter_5 (by decide) (fun c_1_ => absurd c_1_ (by decide)) (fun _ => ?_)
  refine J_iload_n 8 2 dX6_alter_8 rfl rfl ?_
  refine J_iload_n 9 3 dX6_alter_9 rfl rfl ?_
  refine kb_RX6_183 (bs' := [wMo o rw fr kp tr ik tp tm mso bg en wd va gd rs mu rm ss msz msh mho mhn mhz kd nb tn tc bo ip, wMr G rw la ns sd to he sw nh ki te mi ar z]) (rest := []) (st' := [.int (bI (0 ≤ v ∧ v ≤ 9))]) 10 (c_X6_isWords_1 l G v ) [] rfl rfl [] rfl rfl rfl rfl rfl rfl (Nat.le_of_ble_eq_true rfl) rfl dX6_alter_10 ?_
  refine J_ifB_eq (tgt := 32) 13 dX6_alter_13 (by decide) (fun c_2_ => ?_) (fun c_2_ => ?_)
  · skip
    refine J_iconst (v := (-1)) 32 dX6_alter_32 rfl ?_
    exact J_iret 33 dX6_alter_33 rfl rfl
  · skip
    exact absurd c_2_ hw
set_option maxRecDepth 100000 in
set_option maxHeartbeats 4000000 in
theorem c_X6_alter_2 (l : Launch) (G : Gd) (i : Nat) (v : Int32) (o : Nat) (rw : Nat) (fr : Nat) (kp : Nat) (tr : Nat) (ik : Int32) (tp : Nat) (tm : Nat) (mso : Int32) (bg : Nat) (en : Nat) (wd : Int64) (va : Int32) (gd : Int32) (rs : Nat) (mu : Nat) (rm : Nat) (ss : Nat) (msz : Nat) (msh : Nat) (mho : Nat) (mhn : Nat) (mhz : Nat) (kd : Int32) (nb : Int32) (tn : Int32) (tc : Nat) (bo : Nat) (ip : Int32) (la : Nat → Int32) (ns : Nat) (sd : Nat) (to : Nat → Int32) (he : Nat → Int32) (sw : Nat → Int32) (nh : Nat) (ki : Nat → Int32) (te : Nat → Int32) (mi : Nat → Int32) (ar : Nat → Int32) (z : Int32) (hi : i < ns) (hns : ns ≤ 12) (hw : 0 ≤ v ∧ v ≤ 1) : Ct l G yX6_alter cX6_alter 4 (some (FieldType.int)) 2 [.ref o, .int (nI i), .int 2, .int v] (wF [wMo o rw fr kp tr ik tp tm mso bg en wd va gd rs mu rm ss msz msh mho mhn mhz kd nb tn tc bo ip, wMr G rw la ns sd to he sw nh ki te mi ar z]) (some (.int (sw i))) (wF [wMo o rw fr kp tr ik tp tm mso bg en wd va gd rs mu rm ss msz msh mho mhn mhz kd nb tn tc bo ip, wMr G rw la ns sd to he (upd sw i v) nh ki te mi ar z]) := by
  refine Ct.of "GooseArmsModel" [some (.ref o), some (.int (nI i)), some (.int 2), some (.int v)] (by decide +kernel) rfl (Nat.le_of_ble_eq_true rfl) rfl ?_
  refine J_aload_n 0 0 dX6_alter_0 rfl rfl ?_
  refine J_iload_n 1 1 dX6_alter_1 rfl rfl ?_
  refine kb_RX6_190 (bs' := [wMo o rw fr kp tr ik tp tm mso bg en wd va gd rs mu rm ss msz msh mho mhn mhz kd nb tn tc bo ip, wMr G rw la ns sd to he sw nh ki te mi ar z]) (rest := []) (st' := [.int 1]) 2 (c_X6_isSaying_t l G i o rw fr kp tr ik tp tm mso bg en wd va gd rs mu rm ss msz msh mho mhn mhz kd nb tn tc bo ip la ns sd to he sw nh ki te mi ar z (by assumption) (by omega)) [0, 1] 0 rfl rfl rfl [[o], [rw]] rfl rfl rfl rfl rfl rfl (Nat.le_of_ble_eq_true rfl) rfl dX6_alter_2 ?_
  refine J_if_eq (tgt := 32) 5 dX6_alter_5 (by decide) (fun c_1_ => absurd c_1_ (by decide)) (fun _ => ?_)
  refine J_iload_n 8 2 dX6_alter_8 rfl rfl ?_
  refine J_iload_n 9 3 dX6_alter_9 rfl rfl ?_
  refine kb_RX6_183 (bs' := [wMo o rw fr kp tr ik tp tm mso bg en wd va gd rs mu rm ss msz msh mho mhn mhz kd nb tn tc bo ip, wMr G rw la ns sd to he sw nh ki te mi ar z]) (rest := []) (st' := [.int (bI (0 ≤ v ∧ v ≤ 1))]) 10 (c_X6_isWords_2 l G v ) [] rfl rfl [] rfl rfl rfl rfl rfl rfl (Nat.le_of_ble_eq_true rfl) rfl dX6_alter_10 ?_
  refine J_ifB_eq (tgt := 32) 13 dX6_alter_13 (by decide) (fun c_2_ => ?_) (fun c_2_ => ?_)
  · skip
    exact absurd hw c_2_
  · skip
    refine J_aload_n 16 0 dX6_alter_16 rfl rfl ?_
    refine J_bipush (v := 8) 17 dX6_alter_17 rfl ?_
    refine J_iconst (v := 3) 19 dX6_alter_19 rfl ?_
    refine J_iload_n 20 1 dX6_alter_20 rfl rfl ?_
    refine J_imul 21 dX6_alter_21 ?_
    refine J_topi (y := nI (3 * i)) 22 (pk_mul 3 i) ?_
    refine J_iadd 22 dX6_alter_22 ?_
    refine J_topi (y := nI (8 + (3 * i))) 23 (nI_add 8 (3 * i)) ?_
    refine J_iload_n 23 2 dX6_alter_23 rfl rfl ?_
    refine J_iadd 24 dX6_alter_24 ?_
    refine J_topi (y := nI ((8 + (3 * i)) + 2)) 25 (nI_add (8 + (3 * i)) 2) ?_
    refine J_iload_n 25 3 dX6_alter_25 rfl rfl ?_
    refine kb_RX6_180 (bs' := [wMo o rw fr kp tr ik tp tm mso bg en wd va gd rs mu rm ss msz msh mho mhn mhz kd nb tn tc bo ip, wMr G rw la ns sd to he (upd sw i v) nh ki te mi ar z]) (rest := []) (st' := [.int (sw i)]) 26 (c_X6_becomes_sw l G i v o rw fr kp tr ik tp tm mso bg en wd va gd rs mu rm ss msz msh mho mhn mhz kd nb tn tc bo ip la ns sd to he sw nh ki te mi ar z (by first | omega | assumption)) [0, 1] 0 rfl rfl rfl [[o], [rw]] rfl rfl rfl rfl rfl rfl (Nat.le_of_ble_eq_true rfl) rfl dX6_alter_26 ?_
    refine J_goto (tgt := 33) 29 dX6_alter_29 (by decide) ?_
    exact J_iret 33 dX6_alter_33 rfl rfl
set_option maxRecDepth 100000 in
set_option maxHeartbeats 4000000 in
theorem c_X6_alter_2f (l : Launch) (G : Gd) (i : Nat) (v : Int32) (o : Nat) (rw : Nat) (fr : Nat) (kp : Nat) (tr : Nat) (ik : Int32) (tp : Nat) (tm : Nat) (mso : Int32) (bg : Nat) (en : Nat) (wd : Int64) (va : Int32) (gd : Int32) (rs : Nat) (mu : Nat) (rm : Nat) (ss : Nat) (msz : Nat) (msh : Nat) (mho : Nat) (mhn : Nat) (mhz : Nat) (kd : Int32) (nb : Int32) (tn : Int32) (tc : Nat) (bo : Nat) (ip : Int32) (la : Nat → Int32) (ns : Nat) (sd : Nat) (to : Nat → Int32) (he : Nat → Int32) (sw : Nat → Int32) (nh : Nat) (ki : Nat → Int32) (te : Nat → Int32) (mi : Nat → Int32) (ar : Nat → Int32) (z : Int32) (hi : i < ns) (hns : ns ≤ 12) (hw : ¬ (0 ≤ v ∧ v ≤ 1)) : Ct l G yX6_alter cX6_alter 4 (some (FieldType.int)) 2 [.ref o, .int (nI i), .int 2, .int v] (wF [wMo o rw fr kp tr ik tp tm mso bg en wd va gd rs mu rm ss msz msh mho mhn mhz kd nb tn tc bo ip, wMr G rw la ns sd to he sw nh ki te mi ar z]) (some (.int (-1))) (wF [wMo o rw fr kp tr ik tp tm mso bg en wd va gd rs mu rm ss msz msh mho mhn mhz kd nb tn tc bo ip, wMr G rw la ns sd to he sw nh ki te mi ar z]) := by
  refine Ct.of "GooseArmsModel" [some (.ref o), some (.int (nI i)), some (.int 2), some (.int v)] (by decide +kernel) rfl (Nat.le_of_ble_eq_true rfl) rfl ?_
  refine J_aload_n 0 0 dX6_alter_0 rfl rfl ?_
  refine J_iload_n 1 1 dX6_alter_1 rfl rfl ?_
  refine kb_RX6_190 (bs' := [wMo o rw fr kp tr ik tp tm mso bg en wd va gd rs mu rm ss msz msh mho mhn mhz kd nb tn tc bo ip, wMr G rw la ns sd to he sw nh ki te mi ar z]) (rest := []) (st' := [.int 1]) 2 (c_X6_isSaying_t l G i o rw fr kp tr ik tp tm mso bg en wd va gd rs mu rm ss msz msh mho mhn mhz kd nb tn tc bo ip la ns sd to he sw nh ki te mi ar z (by assumption) (by omega)) [0, 1] 0 rfl rfl rfl [[o], [rw]] rfl rfl rfl rfl rfl rfl (Nat.le_of_ble_eq_true rfl) rfl dX6_alter_2 ?_
  refine J_if_eq (tgt := 32) 5 dX6_alter_5 (by decide) (fun c_1_ => absurd c_1_ (by decide)) (fun _ => ?_)
  refine J_iload_n 8 2 dX6_alter_8 rfl rfl ?_
  refine J_iload_n 9 3 dX6_alter_9 rfl rfl ?_
  refine kb_RX6_183 (bs' := [wMo o rw fr kp tr ik tp tm mso bg en wd va gd rs mu rm ss msz msh mho mhn mhz kd nb tn tc bo ip, wMr G rw la ns sd to he sw nh ki te mi ar z]) (rest := []) (st' := [.int (bI (0 ≤ v ∧ v ≤ 1))]) 10 (c_X6_isWords_2 l G v ) [] rfl rfl [] rfl rfl rfl rfl rfl rfl (Nat.le_of_ble_eq_true rfl) rfl dX6_alter_10 ?_
  refine J_ifB_eq (tgt := 32) 13 dX6_alter_13 (by decide) (fun c_2_ => ?_) (fun c_2_ => ?_)
  · skip
    refine J_iconst (v := (-1)) 32 dX6_alter_32 rfl ?_
    exact J_iret 33 dX6_alter_33 rfl rfl
  · skip
    exact absurd c_2_ hw
set_option maxRecDepth 100000 in
set_option maxHeartbeats 4000000 in
theorem c_X6_alter_badw (l : Launch) (G : Gd) (i : Nat) (w : Int32) (v : Int32) (o : Nat) (rw : Nat) (fr : Nat) (kp : Nat) (tr : Nat) (ik : Int32) (tp : Nat) (tm : Nat) (mso : Int32) (bg : Nat) (en : Nat) (wd : Int64) (va : Int32) (gd : Int32) (rs : Nat) (mu : Nat) (rm : Nat) (ss : Nat) (msz : Nat) (msh : Nat) (mho : Nat) (mhn : Nat) (mhz : Nat) (kd : Int32) (nb : Int32) (tn : Int32) (tc : Nat) (bo : Nat) (ip : Int32) (la : Nat → Int32) (ns : Nat) (sd : Nat) (to : Nat → Int32) (he : Nat → Int32) (sw : Nat → Int32) (nh : Nat) (ki : Nat → Int32) (te : Nat → Int32) (mi : Nat → Int32) (ar : Nat → Int32) (z : Int32) (hi : i < ns) (hns : ns ≤ 12) (hw : ¬ (0 ≤ w ∧ w ≤ 2)) : Ct l G yX6_alter cX6_alter 4 (some (FieldType.int)) 2 [.ref o, .int (nI i), .int w, .int v] (wF [wMo o rw fr kp tr ik tp tm mso bg en wd va gd rs mu rm ss msz msh mho mhn mhz kd nb tn tc bo ip, wMr G rw la ns sd to he sw nh ki te mi ar z]) (some (.int (-1))) (wF [wMo o rw fr kp tr ik tp tm mso bg en wd va gd rs mu rm ss msz msh mho mhn mhz kd nb tn tc bo ip, wMr G rw la ns sd to he sw nh ki te mi ar z]) := by
  refine Ct.of "GooseArmsModel" [some (.ref o), some (.int (nI i)), some (.int w), some (.int v)] (by decide +kernel) rfl (Nat.le_of_ble_eq_true rfl) rfl ?_
  refine J_aload_n 0 0 dX6_alter_0 rfl rfl ?_
  refine J_iload_n 1 1 dX6_alter_1 rfl rfl ?_
  refine kb_RX6_190 (bs' := [wMo o rw fr kp tr ik tp tm mso bg en wd va gd rs mu rm ss msz msh mho mhn mhz kd nb tn tc bo ip, wMr G rw la ns sd to he sw nh ki te mi ar z]) (rest := []) (st' := [.int 1]) 2 (c_X6_isSaying_t l G i o rw fr kp tr ik tp tm mso bg en wd va gd rs mu rm ss msz msh mho mhn mhz kd nb tn tc bo ip la ns sd to he sw nh ki te mi ar z (by assumption) (by omega)) [0, 1] 0 rfl rfl rfl [[o], [rw]] rfl rfl rfl rfl rfl rfl (Nat.le_of_ble_eq_true rfl) rfl dX6_alter_2 ?_
  refine J_if_eq (tgt := 32) 5 dX6_alter_5 (by decide) (fun c_1_ => absurd c_1_ (by decide)) (fun _ => ?_)
  refine J_iload_n 8 2 dX6_alter_8 rfl rfl ?_
  refine J_iload_n 9 3 dX6_alter_9 rfl rfl ?_
  refine kb_RX6_183 (bs' := [wMo o rw fr kp tr ik tp tm mso bg en wd va gd rs mu rm ss msz msh mho mhn mhz kd nb tn tc bo ip, wMr G rw la ns sd to he sw nh ki te mi ar z]) (rest := []) (st' := [.int 0]) 10 (c_X6_isWords_n l G w v (by first | omega | assumption)) [] rfl rfl [] rfl rfl rfl rfl rfl rfl (Nat.le_of_ble_eq_true rfl) rfl dX6_alter_10 ?_
  refine J_if_eq (tgt := 32) 13 dX6_alter_13 (by decide) (fun _ => ?_) (fun c_2_ => absurd c_2_ (by decide))
  refine J_iconst (v := (-1)) 32 dX6_alter_32 rfl ?_
  exact J_iret 33 dX6_alter_33 rfl rfl
set_option maxRecDepth 100000 in
set_option maxHeartbeats 4000000 in
theorem c_X6_alter_bad (l : Launch) (G : Gd) (i : Int32) (w : Int32) (v : Int32) (o : Nat) (rw : Nat) (fr : Nat) (kp : Nat) (tr : Nat) (ik : Int32) (tp : Nat) (tm : Nat) (mso : Int32) (bg : Nat) (en : Nat) (wd : Int64) (va : Int32) (gd : Int32) (rs : Nat) (mu : Nat) (rm : Nat) (ss : Nat) (msz : Nat) (msh : Nat) (mho : Nat) (mhn : Nat) (mhz : Nat) (kd : Int32) (nb : Int32) (tn : Int32) (tc : Nat) (bo : Nat) (ip : Int32) (la : Nat → Int32) (ns : Nat) (sd : Nat) (to : Nat → Int32) (he : Nat → Int32) (sw : Nat → Int32) (nh : Nat) (ki : Nat → Int32) (te : Nat → Int32) (mi : Nat → Int32) (ar : Nat → Int32) (z : Int32) (hw : ¬ (0 ≤ i ∧ i ≤ nI ns - 1)) : Ct l G yX6_alter cX6_alter 4 (some (FieldType.int)) 2 [.ref o, .int i, .int w, .int v] (wF [wMo o rw fr kp tr ik tp tm mso bg en wd va gd rs mu rm ss msz msh mho mhn mhz kd nb tn tc bo ip, wMr G rw la ns sd to he sw nh ki te mi ar z]) (some (.int (-1))) (wF [wMo o rw fr kp tr ik tp tm mso bg en wd va gd rs mu rm ss msz msh mho mhn mhz kd nb tn tc bo ip, wMr G rw la ns sd to he sw nh ki te mi ar z]) := by
  refine Ct.of "GooseArmsModel" [some (.ref o), some (.int i), some (.int w), some (.int v)] (by decide +kernel) rfl (Nat.le_of_ble_eq_true rfl) rfl ?_
  refine J_aload_n 0 0 dX6_alter_0 rfl rfl ?_
  refine J_iload_n 1 1 dX6_alter_1 rfl rfl ?_
  refine kb_RX6_190 (bs' := [wMo o rw fr kp tr ik tp tm mso bg en wd va gd rs mu rm ss msz msh mho mhn mhz kd nb tn tc bo ip, wMr G rw la ns sd to he sw nh ki te mi ar z]) (rest := []) (st' := [.int 0]) 2 (c_X6_isSaying_f l G i o rw fr kp tr ik tp tm mso bg en wd va gd rs mu rm ss msz msh mho mhn mhz kd nb tn tc bo ip la ns sd to he sw nh ki te mi ar z (by first | omega | assumption)) [0, 1] 0 rfl rfl rfl [[o], [rw]] rfl rfl rfl rfl rfl rfl (Nat.le_of_ble_eq_true rfl) rfl dX6_alter_2 ?_
  refine J_if_eq (tgt := 32) 5 dX6_alter_5 (by decide) (fun _ => ?_) (fun c_1_ => absurd c_1_ (by decide))
  refine J_iconst (v := (-1)) 32 dX6_alter_32 rfl ?_
  exact J_iret 33 dX6_alter_33 rfl rfl
set_option maxRecDepth 100000 in
set_option maxHeartbeats 4000000 in
theorem c_X6_hearer_bad (l : Launch) (G : Gd) (x : Int32) (y : Int32) (w : Int32) (o : Nat) (rw : Nat) (fr : Nat) (kp : Nat) (tr : Nat) (ik : Int32) (tp : Nat) (tm : Nat) (mso : Int32) (bg : Nat) (en : Nat) (wd : Int64) (va : Int32) (gd : Int32) (rs : Nat) (mu : Nat) (rm : Nat) (ss : Nat) (msz : Nat) (msh : Nat) (mho : Nat) (mhn : Nat) (mhz : Nat) (kd : Int32) (nb : Int32) (tn : Int32) (tc : Nat) (bo : Nat) (ip : Int32) (la : Nat → Int32) (ns : Nat) (sd : Nat) (to : Nat → Int32) (he : Nat → Int32) (sw : Nat → Int32) (nh : Nat) (ki : Nat → Int32) (te : Nat → Int32) (mi : Nat → Int32) (ar : Nat → Int32) (z : Int32) (hw : ¬ ((0 ≤ x ∧ x ≤ 5) ∧ (0 ≤ y ∧ y ≤ 99) ∧ (0 ≤ w ∧ w ≤ 255))) : Ct l G yX6_hearer cX6_hearer 5 (some (FieldType.int)) 2 [.ref o, .int x, .int y, .int w] (wF [wMo o rw fr kp tr ik tp tm mso bg en wd va gd rs mu rm ss msz msh mho mhn mhz kd nb tn tc bo ip, wMr G rw la ns sd to he sw nh ki te mi ar z]) (some (.int (-1))) (wF [wMo o rw fr kp tr ik tp tm mso bg en wd va gd rs mu rm ss msz msh mho mhn mhz kd nb tn tc bo ip, wMr G rw la ns sd to he sw nh ki te mi ar z]) := by
  refine Ct.of "GooseArmsModel" [some (.ref o), some (.int x), some (.int y), some (.int w), none] (by decide +kernel) rfl (Nat.le_of_ble_eq_true rfl) rfl ?_
  refine J_iload_n 0 1 dX6_hearer_0 rfl rfl ?_
  refine J_iload_n 1 3 dX6_hearer_1 rfl rfl ?_
  refine kb_RX6_199 (bs' := [wMo o rw fr kp tr ik tp tm mso bg en wd va gd rs mu rm ss msz msh mho mhn mhz kd nb tn tc bo ip, wMr G rw la ns sd to he sw nh ki te mi ar z]) (rest := []) (st' := [.int (bI ((0 ≤ x ∧ x ≤ 5) ∧ (0 ≤ w ∧ w ≤ 255)))]) 2 (c_X6_isKind l G x w ) [] rfl rfl [] rfl rfl rfl rfl rfl rfl (Nat.le_of_ble_eq_true rfl) rfl dX6_hearer_2 ?_
  refine J_ifB_eq (tgt := 18) 5 dX6_hearer_5 (by decide) (fun c_1_ => ?_) (fun c_1_ => ?_)
  · skip
    refine J_iconst (v := (-1)) 18 dX6_hearer_18 rfl ?_
    exact J_iret 19 dX6_hearer_19 rfl rfl
  · skip
    have hk_ := c_1_
    refine J_iload_n 8 2 dX6_hearer_8 rfl rfl ?_
    refine J_iconst (v := 0) 9 dX6_hearer_9 rfl ?_
    refine J_bipush (v := 99) 10 dX6_hearer_10 rfl ?_
    refine kb_RX6_57 (bs' := [wMo o rw fr kp tr ik tp tm mso bg en wd va gd rs mu rm ss msz msh mho mhn mhz kd nb tn tc bo ip, wMr G rw la ns sd to he sw nh ki te mi ar z]) (rest := []) (st' := [.int (bI (0 ≤ y ∧ y ≤ 99))]) 12 (c_X6_in l G y 0 99 ) [] rfl rfl [] rfl rfl rfl rfl rfl rfl (Nat.le_of_ble_eq_true rfl) rfl dX6_hearer_12 ?_
    refine J_ifB_ne (tgt := 20) 15 dX6_hearer_15 (by decide) (fun c_2_ => ?_) (fun c_2_ => ?_)
    · skip
      exact absurd ⟨hk_.1, c_2_, hk_.2⟩ hw
    · skip
      refine J_iconst (v := (-1)) 18 dX6_hearer_18 rfl ?_
      exact J_iret 19 dX6_hearer_19 rfl rfl
set_option maxRecDepth 100000 in
set_option maxHeartbeats 4000000 in
theorem c_X6_hearer_full (l : Launch) (G : Gd) (x : Int32) (y : Int32) (w : Int32) (o : Nat) (rw : Nat) (fr : Nat) (kp : Nat) (tr : Nat) (ik : Int32) (tp : Nat) (tm : Nat) (mso : Int32) (bg : Nat) (en : Nat) (wd : Int64) (va : Int32) (gd : Int32) (rs : Nat) (mu : Nat) (rm : Nat) (ss : Nat) (msz : Nat) (msh : Nat) (mho : Nat) (mhn : Nat) (mhz : Nat) (kd : Int32) (nb : Int32) (tn : Int32) (tc : Nat) (bo : Nat) (ip : Int32) (la : Nat → Int32) (ns : Nat) (sd : Nat) (to : Nat → Int32) (he : Nat → Int32) (sw : Nat → Int32) (nh : Nat) (ki : Nat → Int32) (te : Nat → Int32) (mi : Nat → Int32) (ar : Nat → Int32) (z : Int32) (hw : (0 ≤ x ∧ x ≤ 5) ∧ (0 ≤ y ∧ y ≤ 99) ∧ (0 ≤ w ∧ w ≤ 255)) (hnh : nh = 8) : Ct l G yX6_hearer cX6_hearer 5 (some (FieldType.int)) 2 [.ref o, .int x, .int y, .int w] (wF [wMo o rw fr kp tr ik tp tm mso bg en wd va gd rs mu rm ss msz msh mho mhn mhz kd nb tn tc bo ip, wMr G rw la ns sd to he sw nh ki te mi ar z]) (some (.int (-2))) (wF [wMo o rw fr kp tr ik tp tm mso bg en wd va gd rs mu rm ss msz msh mho mhn mhz kd nb tn tc bo ip, wMr G rw la ns sd to he sw nh ki te mi ar z]) := by
  refine Ct.of "GooseArmsModel" [some (.ref o), some (.int x), some (.int y), some (.int w), none] (by decide +kernel) rfl (Nat.le_of_ble_eq_true rfl) rfl ?_
  refine J_iload_n 0 1 dX6_hearer_0 rfl rfl ?_
  refine J_iload_n 1 3 dX6_hearer_1 rfl rfl ?_
  refine kb_RX6_199 (bs' := [wMo o rw fr kp tr ik tp tm mso bg en wd va gd rs mu rm ss msz msh mho mhn mhz kd nb tn tc bo ip, wMr G rw la ns sd to he sw nh ki te mi ar z]) (rest := []) (st' := [.int (bI ((0 ≤ x ∧ x ≤ 5) ∧ (0 ≤ w ∧ w ≤ 255)))]) 2 (c_X6_isKind l G x w ) [] rfl rfl [] rfl rfl rfl rfl rfl rfl (Nat.le_of_ble_eq_true rfl) rfl dX6_hearer_2 ?_
  refine J_ifB_eq (tgt := 18) 5 dX6_hearer_5 (by decide) (fun c_1_ => ?_) (fun c_1_ => ?_)
  · skip
    exact absurd ⟨hw.1, hw.2.2⟩ c_1_
  · skip
    refine J_iload_n 8 2 dX6_hearer_8 rfl rfl ?_
    refine J_iconst (v := 0) 9 dX6_hearer_9 rfl ?_
    refine J_bipush (v := 99) 10 dX6_hearer_10 rfl ?_
    refine kb_RX6_57 (bs' := [wMo o rw fr kp tr ik tp tm mso bg en wd va gd rs mu rm ss msz msh mho mhn mhz kd nb tn tc bo ip, wMr G rw la ns sd to he sw nh ki te mi ar z]) (rest := []) (st' := [.int (bI (0 ≤ y ∧ y ≤ 99))]) 12 (c_X6_in l G y 0 99 ) [] rfl rfl [] rfl rfl rfl rfl rfl rfl (Nat.le_of_ble_eq_true rfl) rfl dX6_hearer_12 ?_
    refine J_ifB_ne (tgt := 20) 15 dX6_hearer_15 (by decide) (fun c_2_ => ?_) (fun c_2_ => ?_)
    · skip
      refine J_aload_n 20 0 dX6_hearer_20 rfl rfl ?_
      refine g_789 (v := .ref rw) 21 0 rfl rfl dX6_hearer_21 ?_
      refine J_bipush (v := 6) 24 dX6_hearer_24 rfl ?_
      refine J_iald 26 1 6 rfl rfl (by omega) (by decide) dX6_hearer_26 ?_
      refine J_topi (y := nI nh) 27 (fR_nh rfl) ?_
      refine J_bipush (v := 8) 27 dX6_hearer_27 rfl ?_
      refine J_icmp_ne (tgt := 35) 29 dX6_hearer_29 (by decide) (fun c_3_ => ?_) (fun c_3_ => ?_)
      · skip
        have c_3_ : ¬ nh = 8 := fun z_ => c_3_ ((nI_eq (a := nh) (b := 8) (by omega) (by omega)).mpr z_)
        omega
      · skip
        have c_3_ : nh = 8 := (nI_eq (a := nh) (b := 8) (by omega) (by omega)).mp c_3_
        refine J_bipush (v := (-2)) 32 dX6_hearer_32 rfl ?_
        exact J_iret 34 dX6_hearer_34 rfl rfl
    · skip
      exact absurd hw.2.1 c_2_
set_option maxRecDepth 100000 in
set_option maxHeartbeats 4000000 in
theorem c_X6_hearer_ok (l : Launch) (G : Gd) (x : Int32) (y : Int32) (w : Int32) (o : Nat) (rw : Nat) (fr : Nat) (kp : Nat) (tr : Nat) (ik : Int32) (tp : Nat) (tm : Nat) (mso : Int32) (bg : Nat) (en : Nat) (wd : Int64) (va : Int32) (gd : Int32) (rs : Nat) (mu : Nat) (rm : Nat) (ss : Nat) (msz : Nat) (msh : Nat) (mho : Nat) (mhn : Nat) (mhz : Nat) (kd : Int32) (nb : Int32) (tn : Int32) (tc : Nat) (bo : Nat) (ip : Int32) (la : Nat → Int32) (ns : Nat) (sd : Nat) (to : Nat → Int32) (he : Nat → Int32) (sw : Nat → Int32) (nh : Nat) (ki : Nat → Int32) (te : Nat → Int32) (mi : Nat → Int32) (ar : Nat → Int32) (z : Int32) (hw : (0 ≤ x ∧ x ≤ 5) ∧ (0 ≤ y ∧ y ≤ 99) ∧ (0 ≤ w ∧ w ≤ 255)) (hnh : nh < 8) : Ct l G yX6_hearer cX6_hearer 5 (some (FieldType.int)) 2 [.ref o, .int x, .int y, .int w] (wF [wMo o rw fr kp tr ik tp tm mso bg en wd va gd rs mu rm ss msz msh mho mhn mhz kd nb tn tc bo ip, wMr G rw la ns sd to he sw nh ki te mi ar z]) (some (.int (nI nh))) (wF [wMo o rw fr kp tr ik tp tm mso bg en wd va gd rs mu rm ss msz msh mho mhn mhz kd nb tn tc bo ip, wMr G rw la ns sd to he sw (nh + 1) (upd ki nh x) (upd te nh y) (upd mi nh w) (upd ar nh 0) z]) := by
  refine Ct.of "GooseArmsModel" [some (.ref o), some (.int x), some (.int y), some (.int w), none] (by decide +kernel) rfl (Nat.le_of_ble_eq_true rfl) rfl ?_
  refine J_iload_n 0 1 dX6_hearer_0 rfl rfl ?_
  refine J_iload_n 1 3 dX6_hearer_1 rfl rfl ?_
  refine kb_RX6_199 (bs' := [wMo o rw fr kp tr ik tp tm mso bg en wd va gd rs mu rm ss msz msh mho mhn mhz kd nb tn tc bo ip, wMr G rw la ns sd to he sw nh ki te mi ar z]) (rest := []) (st' := [.int (bI ((0 ≤ x ∧ x ≤ 5) ∧ (0 ≤ w ∧ w ≤ 255)))]) 2 (c_X6_isKind l G x w ) [] rfl rfl [] rfl rfl rfl rfl rfl rfl (Nat.le_of_ble_eq_true rfl) rfl dX6_hearer_2 ?_
  refine J_ifB_eq (tgt := 18) 5 dX6_hearer_5 (by decide) (fun c_1_ => ?_) (fun c_1_ => ?_)
  · skip
    exact absurd ⟨hw.1, hw.2.2⟩ c_1_
  · skip
    refine J_iload_n 8 2 dX6_hearer_8 rfl rfl ?_
    refine J_iconst (v := 0) 9 dX6_hearer_9 rfl ?_
    refine J_bipush (v := 99) 10 dX6_hearer_10 rfl ?_
    refine kb_RX6_57 (bs' := [wMo o rw fr kp tr ik tp tm mso bg en wd va gd rs mu rm ss msz msh mho mhn mhz kd nb tn tc bo ip, wMr G rw la ns sd to he sw nh ki te mi ar z]) (rest := []) (st' := [.int (bI (0 ≤ y ∧ y ≤ 99))]) 12 (c_X6_in l G y 0 99 ) [] rfl rfl [] rfl rfl rfl rfl rfl rfl (Nat.le_of_ble_eq_true rfl) rfl dX6_hearer_12 ?_
    refine J_ifB_ne (tgt := 20) 15 dX6_hearer_15 (by decide) (fun c_2_ => ?_) (fun c_2_ => ?_)
    · skip
      refine J_aload_n 20 0 dX6_hearer_20 rfl rfl ?_
      refine g_789 (v := .ref rw) 21 0 rfl rfl dX6_hearer_21 ?_
      refine J_bipush (v := 6) 24 dX6_hearer_24 rfl ?_
      refine J_iald 26 1 6 rfl rfl (by omega) (by decide) dX6_hearer_26 ?_
      refine J_topi (y := nI nh) 27 (fR_nh rfl) ?_
      refine J_bipush (v := 8) 27 dX6_hearer_27 rfl ?_
      refine J_icmp_ne (tgt := 35) 29 dX6_hearer_29 (by decide) (fun c_3_ => ?_) (fun c_3_ => ?_)
      · skip
        have c_3_ : ¬ nh = 8 := fun z_ => c_3_ ((nI_eq (a := nh) (b := 8) (by omega) (by omega)).mpr z_)
        refine J_aload_n 35 0 dX6_hearer_35 rfl rfl ?_
        refine g_789 (v := .ref rw) 36 0 rfl rfl dX6_hearer_36 ?_
        refine J_bipush (v := 6) 39 dX6_hearer_39 rfl ?_
        refine J_iald 41 1 6 rfl rfl (by omega) (by decide) dX6_hearer_41 ?_
        refine J_topi (y := nI nh) 42 (fR_nh rfl) ?_
        refine J_istore (lv' := [some (.ref o), some (.int x), some (.int y), some (.int w), some (.int (nI nh))]) 42 dX6_hearer_42 (by decide) rfl ?_
        refine J_aload_n 44 0 dX6_hearer_44 rfl rfl ?_
        refine J_iload 45 dX6_hearer_45 rfl ?_
        refine J_iconst (v := 0) 47 dX6_hearer_47 rfl ?_
        refine J_iload_n 48 1 dX6_hearer_48 rfl rfl ?_
        refine kb_RX6_202 (bs' := [wMo o rw fr kp tr ik tp tm mso bg en wd va gd rs mu rm ss msz msh mho mhn mhz kd nb tn tc bo ip, wMr G rw la ns sd to he sw nh (upd ki nh x) te mi ar z]) (rest := []) (st' := []) 49 (c_X6_sets_0 l G nh x o rw fr kp tr ik tp tm mso bg en wd va gd rs mu rm ss msz msh mho mhn mhz kd nb tn tc bo ip la ns sd to he sw nh ki te mi ar z (by first | omega | assumption)) [0, 1] 0 rfl rfl rfl [[o], [rw]] rfl rfl rfl rfl rfl rfl (Nat.le_of_ble_eq_true rfl) rfl dX6_hearer_49 ?_
        refine J_aload_n 52 0 dX6_hearer_52 rfl rfl ?_
        refine J_iload 53 dX6_hearer_53 rfl ?_
        refine J_iconst (v := 1) 55 dX6_hearer_55 rfl ?_
        refine J_iload_n 56 2 dX6_hearer_56 rfl rfl ?_
        refine kb_RX6_202 (bs' := [wMo o rw fr kp tr ik tp tm mso bg en wd va gd rs mu rm ss msz msh mho mhn mhz kd nb tn tc bo ip, wMr G rw la ns sd to he sw nh (upd ki nh x) (upd te nh y) mi ar z]) (rest := []) (st' := []) 57 (c_X6_sets_1 l G nh y o rw fr kp tr ik tp tm mso bg en wd va gd rs mu rm ss msz msh mho mhn mhz kd nb tn tc bo ip la ns sd to he sw nh (upd ki nh x) te mi ar z (by first | omega | assumption)) [0, 1] 0 rfl rfl rfl [[o], [rw]] rfl rfl rfl rfl rfl rfl (Nat.le_of_ble_eq_true rfl) rfl dX6_hearer_57 ?_
        refine J_aload_n 60 0 dX6_hearer_60 rfl rfl ?_
        refine J_iload 61 dX6_hearer_61 rfl ?_
        refine J_iconst (v := 2) 63 dX6_hearer_63 rfl ?_
        refine J_iload_n 64 3 dX6_hearer_64 rfl rfl ?_
        refine kb_RX6_202 (bs' := [wMo o rw fr kp tr ik tp tm mso bg en wd va gd rs mu rm ss msz msh mho mhn mhz kd nb tn tc bo ip, wMr G rw la ns sd to he sw nh (upd ki nh x) (upd te nh y) (upd mi nh w) ar z]) (rest := []) (st' := []) 65 (c_X6_sets_2 l G nh w o rw fr kp tr ik tp tm mso bg en wd va gd rs mu rm ss msz msh mho mhn mhz kd nb tn tc bo ip la ns sd to he sw nh (upd ki nh x) (upd te nh y) mi ar z (by first | omega | assumption)) [0, 1] 0 rfl rfl rfl [[o], [rw]] rfl rfl rfl rfl rfl rfl (Nat.le_of_ble_eq_true rfl) rfl dX6_hearer_65 ?_
        refine J_aload_n 68 0 dX6_hearer_68 rfl rfl ?_
        refine J_iload 69 dX6_hearer_69 rfl ?_
        refine J_iconst (v := 3) 71 dX6_hearer_71 rfl ?_
        refine J_iconst (v := 0) 72 dX6_hearer_72 rfl ?_
        refine kb_RX6_202 (bs' := [wMo o rw fr kp tr ik tp tm mso bg en wd va gd rs mu rm ss msz msh mho mhn mhz kd nb tn tc bo ip, wMr G rw la ns sd to he sw nh (upd ki nh x) (upd te nh y) (upd mi nh w) (upd ar nh 0) z]) (rest := []) (st' := []) 73 (c_X6_sets_3 l G nh 0 o rw fr kp tr ik tp tm mso bg en wd va gd rs mu rm ss msz msh mho mhn mhz kd nb tn tc bo ip la ns sd to he sw nh (upd ki nh x) (upd te nh y) (upd mi nh w) ar z (by first | omega | assumption)) [0, 1] 0 rfl rfl rfl [[o], [rw]] rfl rfl rfl rfl rfl rfl (Nat.le_of_ble_eq_true rfl) rfl dX6_hearer_73 ?_
        refine J_aload_n 76 0 dX6_hearer_76 rfl rfl ?_
        refine g_789 (v := .ref rw) 77 0 rfl rfl dX6_hearer_77 ?_
        refine J_bipush (v := 6) 80 dX6_hearer_80 rfl ?_
        refine J_dup2 82 dX6_hearer_82 rfl rfl ?_
        refine J_iald 83 1 6 rfl rfl (by omega) (by decide) dX6_hearer_83 ?_
        refine J_topi (y := nI nh) 84 (fR_nh rfl) ?_
        refine J_iconst (v := 1) 84 dX6_hearer_84 rfl ?_
        refine J_iadd 85 dX6_hearer_85 ?_
        refine J_topi (y := nI (nh + 1)) 86 (nI_add nh 1) ?_
        refine J_iast (ws' := (wF [wMo o rw fr kp tr ik tp tm mso bg en wd va gd rs mu rm ss msz msh mho mhn mhz kd nb tn tc bo ip, wI G rw 76 (upd (fRow la ns sd to he sw nh (upd ki nh x) (upd te nh y) (upd mi nh w) (upd ar nh 0) z) 6 (nI (nh + 1)))])) 86 1 6 rfl rfl (by omega) (by decide) rfl dX6_hearer_86 ?_
        refine J_ws (ws' := (wF [wMo o rw fr kp tr ik tp tm mso bg en wd va gd rs mu rm ss msz msh mho mhn mhz kd nb tn tc bo ip, wMr G rw la ns sd to he sw (nh + 1) (upd ki nh x) (upd te nh y) (upd mi nh w) (upd ar nh 0) z])) 87 (congrArg (fun x_ => (wF [wMo o rw fr kp tr ik tp tm mso bg en wd va gd rs mu rm ss msz msh mho mhn mhz kd nb tn tc bo ip, wI G rw 76 x_])) (fU_nh rfl)) ?_
        refine J_iload 87 dX6_hearer_87 rfl ?_
        exact J_iret 89 dX6_hearer_89 rfl rfl
      · skip
        have c_3_ : nh = 8 := (nI_eq (a := nh) (b := 8) (by omega) (by omega)).mp c_3_
        omega
    · skip
      exact absurd hw.2.1 c_2_
set_option maxRecDepth 100000 in
set_option maxHeartbeats 4000000 in
theorem c_X6_of_0 (l : Launch) (G : Gd) (h : Nat) (o : Nat) (rw : Nat) (fr : Nat) (kp : Nat) (tr : Nat) (ik : Int32) (tp : Nat) (tm : Nat) (mso : Int32) (bg : Nat) (en : Nat) (wd : Int64) (va : Int32) (gd : Int32) (rs : Nat) (mu : Nat) (rm : Nat) (ss : Nat) (msz : Nat) (msh : Nat) (mho : Nat) (mhn : Nat) (mhz : Nat) (kd : Int32) (nb : Int32) (tn : Int32) (tc : Nat) (bo : Nat) (ip : Int32) (la : Nat → Int32) (ns : Nat) (sd : Nat) (to : Nat → Int32) (he : Nat → Int32) (sw : Nat → Int32) (nh : Nat) (ki : Nat → Int32) (te : Nat → Int32) (mi : Nat → Int32) (ar : Nat → Int32) (z : Int32) (hh : h < nh) (hnh : nh ≤ 8) : Ct l G yX6_of cX6_of 3 (some (FieldType.int)) 2 [.ref o, .int (nI h), .int 0] (wF [wMo o rw fr kp tr ik tp tm mso bg en wd va gd rs mu rm ss msz msh mho mhn mhz kd nb tn tc bo ip, wMr G rw la ns sd to he sw nh ki te mi ar z]) (some (.int (ki h))) (wF [wMo o rw fr kp tr ik tp tm mso bg en wd va gd rs mu rm ss msz msh mho mhn mhz kd nb tn tc bo ip, wMr G rw la ns sd to he sw nh ki te mi ar z]) := by
  refine Ct.of "GooseArmsModel" [some (.ref o), some (.int (nI h)), some (.int 0)] (by decide +kernel) rfl (Nat.le_of_ble_eq_true rfl) rfl ?_
  refine J_aload_n 0 0 dX6_of_0 rfl rfl ?_
  refine J_iload_n 1 1 dX6_of_1 rfl rfl ?_
  refine kb_RX6_206 (bs' := [wMo o rw fr kp tr ik tp tm mso bg en wd va gd rs mu rm ss msz msh mho mhn mhz kd nb tn tc bo ip, wMr G rw la ns sd to he sw nh ki te mi ar z]) (rest := []) (st' := [.int 1]) 2 (c_X6_isOne_t l G h o rw fr kp tr ik tp tm mso bg en wd va gd rs mu rm ss msz msh mho mhn mhz kd nb tn tc bo ip la ns sd to he sw nh ki te mi ar z (by assumption) (by omega)) [0, 1] 0 rfl rfl rfl [[o], [rw]] rfl rfl rfl rfl rfl rfl (Nat.le_of_ble_eq_true rfl) rfl dX6_of_2 ?_
  refine J_if_eq (tgt := 26) 5 dX6_of_5 (by decide) (fun c_1_ => absurd c_1_ (by decide)) (fun _ => ?_)
  refine J_iload_n 8 2 dX6_of_8 rfl rfl ?_
  refine J_iconst (v := 0) 9 dX6_of_9 rfl ?_
  refine J_iconst (v := 3) 10 dX6_of_10 rfl ?_
  refine kb_RX6_57 (bs' := [wMo o rw fr kp tr ik tp tm mso bg en wd va gd rs mu rm ss msz msh mho mhn mhz kd nb tn tc bo ip, wMr G rw la ns sd to he sw nh ki te mi ar z]) (rest := []) (st' := [.int 1]) 11 (c_X6_in_t l G 0 0 3 (by decide)) [] rfl rfl [] rfl rfl rfl rfl rfl rfl (Nat.le_of_ble_eq_true rfl) rfl dX6_of_11 ?_
  refine J_if_eq (tgt := 26) 14 dX6_of_14 (by decide) (fun c_2_ => absurd c_2_ (by decide)) (fun _ => ?_)
  refine J_aload_n 17 0 dX6_of_17 rfl rfl ?_
  refine J_iload_n 18 1 dX6_of_18 rfl rfl ?_
  refine J_iload_n 19 2 dX6_of_19 rfl rfl ?_
  refine kb_RX6_187 (bs' := [wMo o rw fr kp tr ik tp tm mso bg en wd va gd rs mu rm ss msz msh mho mhn mhz kd nb tn tc bo ip, wMr G rw la ns sd to he sw nh ki te mi ar z]) (rest := []) (st' := [.int (ki h)]) 20 (c_X6_its_0 l G h o rw fr kp tr ik tp tm mso bg en wd va gd rs mu rm ss msz msh mho mhn mhz kd nb tn tc bo ip la ns sd to he sw nh ki te mi ar z (by first | omega | assumption)) [0, 1] 0 rfl rfl rfl [[o], [rw]] rfl rfl rfl rfl rfl rfl (Nat.le_of_ble_eq_true rfl) rfl dX6_of_20 ?_
  refine J_goto (tgt := 27) 23 dX6_of_23 (by decide) ?_
  exact J_iret 27 dX6_of_27 rfl rfl
set_option maxRecDepth 100000 in
set_option maxHeartbeats 4000000 in
theorem c_X6_of_1 (l : Launch) (G : Gd) (h : Nat) (o : Nat) (rw : Nat) (fr : Nat) (kp : Nat) (tr : Nat) (ik : Int32) (tp : Nat) (tm : Nat) (mso : Int32) (bg : Nat) (en : Nat) (wd : Int64) (va : Int32) (gd : Int32) (rs : Nat) (mu : Nat) (rm : Nat) (ss : Nat) (msz : Nat) (msh : Nat) (mho : Nat) (mhn : Nat) (mhz : Nat) (kd : Int32) (nb : Int32) (tn : Int32) (tc : Nat) (bo : Nat) (ip : Int32) (la : Nat → Int32) (ns : Nat) (sd : Nat) (to : Nat → Int32) (he : Nat → Int32) (sw : Nat → Int32) (nh : Nat) (ki : Nat → Int32) (te : Nat → Int32) (mi : Nat → Int32) (ar : Nat → Int32) (z : Int32) (hh : h < nh) (hnh : nh ≤ 8) : Ct l G yX6_of cX6_of 3 (some (FieldType.int)) 2 [.ref o, .int (nI h), .int 1] (wF [wMo o rw fr kp tr ik tp tm mso bg en wd va gd rs mu rm ss msz msh mho mhn mhz kd nb tn tc bo ip, wMr G rw la ns sd to he sw nh ki te mi ar z]) (some (.int (te h))) (wF [wMo o rw fr kp tr ik tp tm mso bg en wd va gd rs mu rm ss msz msh mho mhn mhz kd nb tn tc bo ip, wMr G rw la ns sd to he sw nh ki te mi ar z]) := by
  refine Ct.of "GooseArmsModel" [some (.ref o), some (.int (nI h)), some (.int 1)] (by decide +kernel) rfl (Nat.le_of_ble_eq_true rfl) rfl ?_
  refine J_aload_n 0 0 dX6_of_0 rfl rfl ?_
  refine J_iload_n 1 1 dX6_of_1 rfl rfl ?_
  refine kb_RX6_206 (bs' := [wMo o rw fr kp tr ik tp tm mso bg en wd va gd rs mu rm ss msz msh mho mhn mhz kd nb tn tc bo ip, wMr G rw la ns sd to he sw nh ki te mi ar z]) (rest := []) (st' := [.int 1]) 2 (c_X6_isOne_t l G h o rw fr kp tr ik tp tm mso bg en wd va gd rs mu rm ss msz msh mho mhn mhz kd nb tn tc bo ip la ns sd to he sw nh ki te mi ar z (by assumption) (by omega)) [0, 1] 0 rfl rfl rfl [[o], [rw]] rfl rfl rfl rfl rfl rfl (Nat.le_of_ble_eq_true rfl) rfl dX6_of_2 ?_
  refine J_if_eq (tgt := 26) 5 dX6_of_5 (by decide) (fun c_1_ => absurd c_1_ (by decide)) (fun _ => ?_)
  refine J_iload_n 8 2 dX6_of_8 rfl rfl ?_
  refine J_iconst (v := 0) 9 dX6_of_9 rfl ?_
  refine J_iconst (v := 3) 10 dX6_of_10 rfl ?_
  refine kb_RX6_57 (bs' := [wMo o rw fr kp tr ik tp tm mso bg en wd va gd rs mu rm ss msz msh mho mhn mhz kd nb tn tc bo ip, wMr G rw la ns sd to he sw nh ki te mi ar z]) (rest := []) (st' := [.int 1]) 11 (c_X6_in_t l G 1 0 3 (by decide)) [] rfl rfl [] rfl rfl rfl rfl rfl rfl (Nat.le_of_ble_eq_true rfl) rfl dX6_of_11 ?_
  refine J_if_eq (tgt := 26) 14 dX6_of_14 (by decide) (fun c_2_ => absurd c_2_ (by decide)) (fun _ => ?_)
  refine J_aload_n 17 0 dX6_of_17 rfl rfl ?_
  refine J_iload_n 18 1 dX6_of_18 rfl rfl ?_
  refine J_iload_n 19 2 dX6_of_19 rfl rfl ?_
  refine kb_RX6_187 (bs' := [wMo o rw fr kp tr ik tp tm mso bg en wd va gd rs mu rm ss msz msh mho mhn mhz kd nb tn tc bo ip, wMr G rw la ns sd to he sw nh ki te mi ar z]) (rest := []) (st' := [.int (te h)]) 20 (c_X6_its_1 l G h o rw fr kp tr ik tp tm mso bg en wd va gd rs mu rm ss msz msh mho mhn mhz kd nb tn tc bo ip la ns sd to he sw nh ki te mi ar z (by first | omega | assumption)) [0, 1] 0 rfl rfl rfl [[o], [rw]] rfl rfl rfl rfl rfl rfl (Nat.le_of_ble_eq_true rfl) rfl dX6_of_20 ?_
  refine J_goto (tgt := 27) 23 dX6_of_23 (by decide) ?_
  exact J_iret 27 dX6_of_27 rfl rfl
set_option maxRecDepth 100000 in
set_option maxHeartbeats 4000000 in
theorem c_X6_of_2 (l : Launch) (G : Gd) (h : Nat) (o : Nat) (rw : Nat) (fr : Nat) (kp : Nat) (tr : Nat) (ik : Int32) (tp : Nat) (tm : Nat) (mso : Int32) (bg : Nat) (en : Nat) (wd : Int64) (va : Int32) (gd : Int32) (rs : Nat) (mu : Nat) (rm : Nat) (ss : Nat) (msz : Nat) (msh : Nat) (mho : Nat) (mhn : Nat) (mhz : Nat) (kd : Int32) (nb : Int32) (tn : Int32) (tc : Nat) (bo : Nat) (ip : Int32) (la : Nat → Int32) (ns : Nat) (sd : Nat) (to : Nat → Int32) (he : Nat → Int32) (sw : Nat → Int32) (nh : Nat) (ki : Nat → Int32) (te : Nat → Int32) (mi : Nat → Int32) (ar : Nat → Int32) (z : Int32) (hh : h < nh) (hnh : nh ≤ 8) : Ct l G yX6_of cX6_of 3 (some (FieldType.int)) 2 [.ref o, .int (nI h), .int 2] (wF [wMo o rw fr kp tr ik tp tm mso bg en wd va gd rs mu rm ss msz msh mho mhn mhz kd nb tn tc bo ip, wMr G rw la ns sd to he sw nh ki te mi ar z]) (some (.int (mi h))) (wF [wMo o rw fr kp tr ik tp tm mso bg en wd va gd rs mu rm ss msz msh mho mhn mhz kd nb tn tc bo ip, wMr G rw la ns sd to he sw nh ki te mi ar z]) := by
  refine Ct.of "GooseArmsModel" [some (.ref o), some (.int (nI h)), some (.int 2)] (by decide +kernel) rfl (Nat.le_of_ble_eq_true rfl) rfl ?_
  refine J_aload_n 0 0 dX6_of_0 rfl rfl ?_
  refine J_iload_n 1 1 dX6_of_1 rfl rfl ?_
  refine kb_RX6_206 (bs' := [wMo o rw fr kp tr ik tp tm mso bg en wd va gd rs mu rm ss msz msh mho mhn mhz kd nb tn tc bo ip, wMr G rw la ns sd to he sw nh ki te mi ar z]) (rest := []) (st' := [.int 1]) 2 (c_X6_isOne_t l G h o rw fr kp tr ik tp tm mso bg en wd va gd rs mu rm ss msz msh mho mhn mhz kd nb tn tc bo ip la ns sd to he sw nh ki te mi ar z (by assumption) (by omega)) [0, 1] 0 rfl rfl rfl [[o], [rw]] rfl rfl rfl rfl rfl rfl (Nat.le_of_ble_eq_true rfl) rfl dX6_of_2 ?_
  refine J_if_eq (tgt := 26) 5 dX6_of_5 (by decide) (fun c_1_ => absurd c_1_ (by decide)) (fun _ => ?_)
  refine J_iload_n 8 2 dX6_of_8 rfl rfl ?_
  refine J_iconst (v := 0) 9 dX6_of_9 rfl ?_
  refine J_iconst (v := 3) 10 dX6_of_10 rfl ?_
  refine kb_RX6_57 (bs' := [wMo o rw fr kp tr ik tp tm mso bg en wd va gd rs mu rm ss msz msh mho mhn mhz kd nb tn tc bo ip, wMr G rw la ns sd to he sw nh ki te mi ar z]) (rest := []) (st' := [.int 1]) 11 (c_X6_in_t l G 2 0 3 (by decide)) [] rfl rfl [] rfl rfl rfl rfl rfl rfl (Nat.le_of_ble_eq_true rfl) rfl dX6_of_11 ?_
  refine J_if_eq (tgt := 26) 14 dX6_of_14 (by decide) (fun c_2_ => absurd c_2_ (by decide)) (fun _ => ?_)
  refine J_aload_n 17 0 dX6_of_17 rfl rfl ?_
  refine J_iload_n 18 1 dX6_of_18 rfl rfl ?_
  refine J_iload_n 19 2 dX6_of_19 rfl rfl ?_
  refine kb_RX6_187 (bs' := [wMo o rw fr kp tr ik tp tm mso bg en wd va gd rs mu rm ss msz msh mho mhn mhz kd nb tn tc bo ip, wMr G rw la ns sd to he sw nh ki te mi ar z]) (rest := []) (st' := [.int (mi h)]) 20 (c_X6_its_2 l G h o rw fr kp tr ik tp tm mso bg en wd va gd rs mu rm ss msz msh mho mhn mhz kd nb tn tc bo ip la ns sd to he sw nh ki te mi ar z (by first | omega | assumption)) [0, 1] 0 rfl rfl rfl [[o], [rw]] rfl rfl rfl rfl rfl rfl (Nat.le_of_ble_eq_true rfl) rfl dX6_of_20 ?_
  refine J_goto (tgt := 27) 23 dX6_of_23 (by decide) ?_
  exact J_iret 27 dX6_of_27 rfl rfl
set_option maxRecDepth 100000 in
set_option maxHeartbeats 4000000 in
theorem c_X6_of_3 (l : Launch) (G : Gd) (h : Nat) (o : Nat) (rw : Nat) (fr : Nat) (kp : Nat) (tr : Nat) (ik : Int32) (tp : Nat) (tm : Nat) (mso : Int32) (bg : Nat) (en : Nat) (wd : Int64) (va : Int32) (gd : Int32) (rs : Nat) (mu : Nat) (rm : Nat) (ss : Nat) (msz : Nat) (msh : Nat) (mho : Nat) (mhn : Nat) (mhz : Nat) (kd : Int32) (nb : Int32) (tn : Int32) (tc : Nat) (bo : Nat) (ip : Int32) (la : Nat → Int32) (ns : Nat) (sd : Nat) (to : Nat → Int32) (he : Nat → Int32) (sw : Nat → Int32) (nh : Nat) (ki : Nat → Int32) (te : Nat → Int32) (mi : Nat → Int32) (ar : Nat → Int32) (z : Int32) (hh : h < nh) (hnh : nh ≤ 8) : Ct l G yX6_of cX6_of 3 (some (FieldType.int)) 2 [.ref o, .int (nI h), .int 3] (wF [wMo o rw fr kp tr ik tp tm mso bg en wd va gd rs mu rm ss msz msh mho mhn mhz kd nb tn tc bo ip, wMr G rw la ns sd to he sw nh ki te mi ar z]) (some (.int (ar h))) (wF [wMo o rw fr kp tr ik tp tm mso bg en wd va gd rs mu rm ss msz msh mho mhn mhz kd nb tn tc bo ip, wMr G rw la ns sd to he sw nh ki te mi ar z]) := by
  refine Ct.of "GooseArmsModel" [some (.ref o), some (.int (nI h)), some (.int 3)] (by decide +kernel) rfl (Nat.le_of_ble_eq_true rfl) rfl ?_
  refine J_aload_n 0 0 dX6_of_0 rfl rfl ?_
  refine J_iload_n 1 1 dX6_of_1 rfl rfl ?_
  refine kb_RX6_206 (bs' := [wMo o rw fr kp tr ik tp tm mso bg en wd va gd rs mu rm ss msz msh mho mhn mhz kd nb tn tc bo ip, wMr G rw la ns sd to he sw nh ki te mi ar z]) (rest := []) (st' := [.int 1]) 2 (c_X6_isOne_t l G h o rw fr kp tr ik tp tm mso bg en wd va gd rs mu rm ss msz msh mho mhn mhz kd nb tn tc bo ip la ns sd to he sw nh ki te mi ar z (by assumption) (by omega)) [0, 1] 0 rfl rfl rfl [[o], [rw]] rfl rfl rfl rfl rfl rfl (Nat.le_of_ble_eq_true rfl) rfl dX6_of_2 ?_
  refine J_if_eq (tgt := 26) 5 dX6_of_5 (by decide) (fun c_1_ => absurd c_1_ (by decide)) (fun _ => ?_)
  refine J_iload_n 8 2 dX6_of_8 rfl rfl ?_
  refine J_iconst (v := 0) 9 dX6_of_9 rfl ?_
  refine J_iconst (v := 3) 10 dX6_of_10 rfl ?_
  refine kb_RX6_57 (bs' := [wMo o rw fr kp tr ik tp tm mso bg en wd va gd rs mu rm ss msz msh mho mhn mhz kd nb tn tc bo ip, wMr G rw la ns sd to he sw nh ki te mi ar z]) (rest := []) (st' := [.int 1]) 11 (c_X6_in_t l G 3 0 3 (by decide)) [] rfl rfl [] rfl rfl rfl rfl rfl rfl (Nat.le_of_ble_eq_true rfl) rfl dX6_of_11 ?_
  refine J_if_eq (tgt := 26) 14 dX6_of_14 (by decide) (fun c_2_ => absurd c_2_ (by decide)) (fun _ => ?_)
  refine J_aload_n 17 0 dX6_of_17 rfl rfl ?_
  refine J_iload_n 18 1 dX6_of_18 rfl rfl ?_
  refine J_iload_n 19 2 dX6_of_19 rfl rfl ?_
  refine kb_RX6_187 (bs' := [wMo o rw fr kp tr ik tp tm mso bg en wd va gd rs mu rm ss msz msh mho mhn mhz kd nb tn tc bo ip, wMr G rw la ns sd to he sw nh ki te mi ar z]) (rest := []) (st' := [.int (ar h)]) 20 (c_X6_its_3 l G h o rw fr kp tr ik tp tm mso bg en wd va gd rs mu rm ss msz msh mho mhn mhz kd nb tn tc bo ip la ns sd to he sw nh ki te mi ar z (by first | omega | assumption)) [0, 1] 0 rfl rfl rfl [[o], [rw]] rfl rfl rfl rfl rfl rfl (Nat.le_of_ble_eq_true rfl) rfl dX6_of_20 ?_
  refine J_goto (tgt := 27) 23 dX6_of_23 (by decide) ?_
  exact J_iret 27 dX6_of_27 rfl rfl
set_option maxRecDepth 100000 in
set_option maxHeartbeats 4000000 in
theorem c_X6_of_badw (l : Launch) (G : Gd) (h : Nat) (w : Int32) (o : Nat) (rw : Nat) (fr : Nat) (kp : Nat) (tr : Nat) (ik : Int32) (tp : Nat) (tm : Nat) (mso : Int32) (bg : Nat) (en : Nat) (wd : Int64) (va : Int32) (gd : Int32) (rs : Nat) (mu : Nat) (rm : Nat) (ss : Nat) (msz : Nat) (msh : Nat) (mho : Nat) (mhn : Nat) (mhz : Nat) (kd : Int32) (nb : Int32) (tn : Int32) (tc : Nat) (bo : Nat) (ip : Int32) (la : Nat → Int32) (ns : Nat) (sd : Nat) (to : Nat → Int32) (he : Nat → Int32) (sw : Nat → Int32) (nh : Nat) (ki : Nat → Int32) (te : Nat → Int32) (mi : Nat → Int32) (ar : Nat → Int32) (z : Int32) (hh : h < nh) (hnh : nh ≤ 8) (hw : ¬ (0 ≤ w ∧ w ≤ 3)) : Ct l G yX6_of cX6_of 3 (some (FieldType.int)) 2 [.ref o, .int (nI h), .int w] (wF [wMo o rw fr kp tr ik tp tm mso bg en wd va gd rs mu rm ss msz msh mho mhn mhz kd nb tn tc bo ip, wMr G rw la ns sd to he sw nh ki te mi ar z]) (some (.int (-1))) (wF [wMo o rw fr kp tr ik tp tm mso bg en wd va gd rs mu rm ss msz msh mho mhn mhz kd nb tn tc bo ip, wMr G rw la ns sd to he sw nh ki te mi ar z]) := by
  refine Ct.of "GooseArmsModel" [some (.ref o), some (.int (nI h)), some (.int w)] (by decide +kernel) rfl (Nat.le_of_ble_eq_true rfl) rfl ?_
  refine J_aload_n 0 0 dX6_of_0 rfl rfl ?_
  refine J_iload_n 1 1 dX6_of_1 rfl rfl ?_
  refine kb_RX6_206 (bs' := [wMo o rw fr kp tr ik tp tm mso bg en wd va gd rs mu rm ss msz msh mho mhn mhz kd nb tn tc bo ip, wMr G rw la ns sd to he sw nh ki te mi ar z]) (rest := []) (st' := [.int 1]) 2 (c_X6_isOne_t l G h o rw fr kp tr ik tp tm mso bg en wd va gd rs mu rm ss msz msh mho mhn mhz kd nb tn tc bo ip la ns sd to he sw nh ki te mi ar z (by assumption) (by omega)) [0, 1] 0 rfl rfl rfl [[o], [rw]] rfl rfl rfl rfl rfl rfl (Nat.le_of_ble_eq_true rfl) rfl dX6_of_2 ?_
  refine J_if_eq (tgt := 26) 5 dX6_of_5 (by decide) (fun c_1_ => absurd c_1_ (by decide)) (fun _ => ?_)
  refine J_iload_n 8 2 dX6_of_8 rfl rfl ?_
  refine J_iconst (v := 0) 9 dX6_of_9 rfl ?_
  refine J_iconst (v := 3) 10 dX6_of_10 rfl ?_
  refine kb_RX6_57 (bs' := [wMo o rw fr kp tr ik tp tm mso bg en wd va gd rs mu rm ss msz msh mho mhn mhz kd nb tn tc bo ip, wMr G rw la ns sd to he sw nh ki te mi ar z]) (rest := []) (st' := [.int 0]) 11 (c_X6_in_f l G w 0 3 hw) [] rfl rfl [] rfl rfl rfl rfl rfl rfl (Nat.le_of_ble_eq_true rfl) rfl dX6_of_11 ?_
  refine J_if_eq (tgt := 26) 14 dX6_of_14 (by decide) (fun _ => ?_) (fun c_2_ => absurd c_2_ (by decide))
  refine J_iconst (v := (-1)) 26 dX6_of_26 rfl ?_
  exact J_iret 27 dX6_of_27 rfl rfl
set_option maxRecDepth 100000 in
set_option maxHeartbeats 4000000 in
theorem c_X6_of_bad (l : Launch) (G : Gd) (h : Int32) (w : Int32) (o : Nat) (rw : Nat) (fr : Nat) (kp : Nat) (tr : Nat) (ik : Int32) (tp : Nat) (tm : Nat) (mso : Int32) (bg : Nat) (en : Nat) (wd : Int64) (va : Int32) (gd : Int32) (rs : Nat) (mu : Nat) (rm : Nat) (ss : Nat) (msz : Nat) (msh : Nat) (mho : Nat) (mhn : Nat) (mhz : Nat) (kd : Int32) (nb : Int32) (tn : Int32) (tc : Nat) (bo : Nat) (ip : Int32) (la : Nat → Int32) (ns : Nat) (sd : Nat) (to : Nat → Int32) (he : Nat → Int32) (sw : Nat → Int32) (nh : Nat) (ki : Nat → Int32) (te : Nat → Int32) (mi : Nat → Int32) (ar : Nat → Int32) (z : Int32) (hw : ¬ (0 ≤ h ∧ h ≤ nI nh - 1)) : Ct l G yX6_of cX6_of 3 (some (FieldType.int)) 2 [.ref o, .int h, .int w] (wF [wMo o rw fr kp tr ik tp tm mso bg en wd va gd rs mu rm ss msz msh mho mhn mhz kd nb tn tc bo ip, wMr G rw la ns sd to he sw nh ki te mi ar z]) (some (.int (-1))) (wF [wMo o rw fr kp tr ik tp tm mso bg en wd va gd rs mu rm ss msz msh mho mhn mhz kd nb tn tc bo ip, wMr G rw la ns sd to he sw nh ki te mi ar z]) := by
  refine Ct.of "GooseArmsModel" [some (.ref o), some (.int h), some (.int w)] (by decide +kernel) rfl (Nat.le_of_ble_eq_true rfl) rfl ?_
  refine J_aload_n 0 0 dX6_of_0 rfl rfl ?_
  refine J_iload_n 1 1 dX6_of_1 rfl rfl ?_
  refine kb_RX6_206 (bs' := [wMo o rw fr kp tr ik tp tm mso bg en wd va gd rs mu rm ss msz msh mho mhn mhz kd nb tn tc bo ip, wMr G rw la ns sd to he sw nh ki te mi ar z]) (rest := []) (st' := [.int 0]) 2 (c_X6_isOne_f l G h o rw fr kp tr ik tp tm mso bg en wd va gd rs mu rm ss msz msh mho mhn mhz kd nb tn tc bo ip la ns sd to he sw nh ki te mi ar z (by first | omega | assumption)) [0, 1] 0 rfl rfl rfl [[o], [rw]] rfl rfl rfl rfl rfl rfl (Nat.le_of_ble_eq_true rfl) rfl dX6_of_2 ?_
  refine J_if_eq (tgt := 26) 5 dX6_of_5 (by decide) (fun _ => ?_) (fun c_1_ => absurd c_1_ (by decide))
  refine J_iconst (v := (-1)) 26 dX6_of_26 rfl ?_
  exact J_iret 27 dX6_of_27 rfl rfl
set_option maxRecDepth 100000 in
set_option maxHeartbeats 4000000 in
theorem c_X6_does_0 (l : Launch) (G : Gd) (h : Nat) (o : Nat) (rw : Nat) (fr : Nat) (kp : Nat) (tr : Nat) (ik : Int32) (tp : Nat) (tm : Nat) (mso : Int32) (bg : Nat) (en : Nat) (wd : Int64) (va : Int32) (gd : Int32) (rs : Nat) (mu : Nat) (rm : Nat) (ss : Nat) (msz : Nat) (msh : Nat) (mho : Nat) (mhn : Nat) (mhz : Nat) (kd : Int32) (nb : Int32) (tn : Int32) (tc : Nat) (bo : Nat) (ip : Int32) (la : Nat → Int32) (ns : Nat) (sd : Nat) (to : Nat → Int32) (he : Nat → Int32) (sw : Nat → Int32) (nh : Nat) (ki : Nat → Int32) (te : Nat → Int32) (mi : Nat → Int32) (ar : Nat → Int32) (z : Int32) (hh : h < nh) (hnh : nh ≤ 8) (hns : ns ≤ 12) (hsd : sd < ns) : Ct l G yX6_does cX6_does 3 (some (FieldType.int)) 2 [.ref o, .int (nI h), .int 0] (wF [wMo o rw fr kp tr ik tp tm mso bg en wd va gd rs mu rm ss msz msh mho mhn mhz kd nb tn tc bo ip, wMr G rw la ns sd to he sw nh ki te mi ar z]) (some (.int (1000 + fShiv (ki h) (mi h) (te h) (la 1) (to sd) (he sd) (sw sd) (nI sd)))) (wF [wMo o rw fr kp tr ik tp tm mso bg en wd va gd rs mu rm ss msz msh mho mhn mhz kd nb tn tc bo ip, wMr G rw la ns sd to he sw nh ki te mi ar z]) := by
  refine Ct.of "GooseArmsModel" [some (.ref o), some (.int (nI h)), some (.int 0)] (by decide +kernel) rfl (Nat.le_of_ble_eq_true rfl) rfl ?_
  refine J_aload_n 0 0 dX6_does_0 rfl rfl ?_
  refine J_iload_n 1 1 dX6_does_1 rfl rfl ?_
  refine kb_RX6_206 (bs' := [wMo o rw fr kp tr ik tp tm mso bg en wd va gd rs mu rm ss msz msh mho mhn mhz kd nb tn tc bo ip, wMr G rw la ns sd to he sw nh ki te mi ar z]) (rest := []) (st' := [.int 1]) 2 (c_X6_isOne_t l G h o rw fr kp tr ik tp tm mso bg en wd va gd rs mu rm ss msz msh mho mhn mhz kd nb tn tc bo ip la ns sd to he sw nh ki te mi ar z (by assumption) (by omega)) [0, 1] 0 rfl rfl rfl [[o], [rw]] rfl rfl rfl rfl rfl rfl (Nat.le_of_ble_eq_true rfl) rfl dX6_does_2 ?_
  refine J_if_ne (tgt := 10) 5 dX6_does_5 (by decide) (fun _ => ?_) (fun c_1_ => absurd c_1_ (by decide))
  refine J_iload_n 10 2 dX6_does_10 rfl rfl ?_
  refine J_tableIn (tgt := 36) (off := 25) 11 0 dX6_does_11 rfl (by decide +kernel) (by decide) ?_
  refine J_aload_n 36 0 dX6_does_36 rfl rfl ?_
  refine kb_RX6_209 (bs' := [wMo o rw fr kp tr ik tp tm mso bg en wd va gd rs mu rm ss msz msh mho mhn mhz kd nb tn tc bo ip, wMr G rw la ns sd to he sw nh ki te mi ar z]) (rest := []) (st' := [.int (nI (ns - sd))]) 37 (c_X6_leftMany l G o rw fr kp tr ik tp tm mso bg en wd va gd rs mu rm ss msz msh mho mhn mhz kd nb tn tc bo ip la ns sd to he sw nh ki te mi ar z (by first | omega | assumption)) [0, 1] 0 rfl rfl rfl [[o], [rw]] rfl rfl rfl rfl rfl rfl (Nat.le_of_ble_eq_true rfl) rfl dX6_does_37 ?_
  refine J_if_ne (tgt := 49) 40 dX6_does_40 (by decide) (fun c_2_ => ?_) (fun c_2_ => ?_)
  · skip
    have c_2_ : ¬ (ns - sd) = 0 := fun z_ => c_2_ ((nI_eq (a := (ns - sd)) (b := 0) (by omega) (by omega)).mpr z_)
    refine J_sipush (v := 1000) 49 dX6_does_49 rfl ?_
    refine J_aload_n 52 0 dX6_does_52 rfl rfl ?_
    refine J_iload_n 53 1 dX6_does_53 rfl rfl ?_
    refine J_aload_n 54 0 dX6_does_54 rfl rfl ?_
    refine g_789 (v := .ref rw) 55 0 rfl rfl dX6_does_55 ?_
    refine J_iconst (v := 4) 58 dX6_does_58 rfl ?_
    refine J_iald 59 1 4 rfl rfl (by omega) (by decide) dX6_does_59 ?_
    refine J_topi (y := nI sd) 60 (fR_sd rfl) ?_
    refine kb_RX6_212 (bs' := [wMo o rw fr kp tr ik tp tm mso bg en wd va gd rs mu rm ss msz msh mho mhn mhz kd nb tn tc bo ip, wMr G rw la ns sd to he sw nh ki te mi ar z]) (rest := [.int 1000]) (st' := [.int (fShiv (ki h) (mi h) (te h) (la 1) (to sd) (he sd) (sw sd) (nI sd)), .int 1000]) 60 (c_X6_shivers l G h sd o rw fr kp tr ik tp tm mso bg en wd va gd rs mu rm ss msz msh mho mhn mhz kd nb tn tc bo ip la ns sd to he sw nh ki te mi ar z (by first | omega | assumption) (by first | omega | assumption)) [0, 1] 0 rfl rfl rfl [[o], [rw]] rfl rfl rfl rfl rfl rfl (Nat.le_of_ble_eq_true rfl) rfl dX6_does_60 ?_
    refine J_iadd 63 dX6_does_63 ?_
    exact J_iret 64 dX6_does_64 (congrArg (fun x_ => some (Value.int x_)) (by first | rfl | omega | grind)) rfl
  · skip
    have c_2_ : (ns - sd) = 0 := (nI_eq (a := (ns - sd)) (b := 0) (by omega) (by omega)).mp c_2_
    omega
set_option maxRecDepth 100000 in
set_option maxHeartbeats 4000000 in
theorem c_X6_does_0z (l : Launch) (G : Gd) (h : Nat) (o : Nat) (rw : Nat) (fr : Nat) (kp : Nat) (tr : Nat) (ik : Int32) (tp : Nat) (tm : Nat) (mso : Int32) (bg : Nat) (en : Nat) (wd : Int64) (va : Int32) (gd : Int32) (rs : Nat) (mu : Nat) (rm : Nat) (ss : Nat) (msz : Nat) (msh : Nat) (mho : Nat) (mhn : Nat) (mhz : Nat) (kd : Int32) (nb : Int32) (tn : Int32) (tc : Nat) (bo : Nat) (ip : Int32) (la : Nat → Int32) (ns : Nat) (sd : Nat) (to : Nat → Int32) (he : Nat → Int32) (sw : Nat → Int32) (nh : Nat) (ki : Nat → Int32) (te : Nat → Int32) (mi : Nat → Int32) (ar : Nat → Int32) (z : Int32) (hh : h < nh) (hnh : nh ≤ 8) (hns : ns ≤ 12) (hsd : sd = ns) : Ct l G yX6_does cX6_does 3 (some (FieldType.int)) 2 [.ref o, .int (nI h), .int 0] (wF [wMo o rw fr kp tr ik tp tm mso bg en wd va gd rs mu rm ss msz msh mho mhn mhz kd nb tn tc bo ip, wMr G rw la ns sd to he sw nh ki te mi ar z]) (some (.int 1000)) (wF [wMo o rw fr kp tr ik tp tm mso bg en wd va gd rs mu rm ss msz msh mho mhn mhz kd nb tn tc bo ip, wMr G rw la ns sd to he sw nh ki te mi ar z]) := by
  refine Ct.of "GooseArmsModel" [some (.ref o), some (.int (nI h)), some (.int 0)] (by decide +kernel) rfl (Nat.le_of_ble_eq_true rfl) rfl ?_
  refine J_aload_n 0 0 dX6_does_0 rfl rfl ?_
  refine J_iload_n 1 1 dX6_does_1 rfl rfl ?_
  refine kb_RX6_206 (bs' := [wMo o rw fr kp tr ik tp tm mso bg en wd va gd rs mu rm ss msz msh mho mhn mhz kd nb tn tc bo ip, wMr G rw la ns sd to he sw nh ki te mi ar z]) (rest := []) (st' := [.int 1]) 2 (c_X6_isOne_t l G h o rw fr kp tr ik tp tm mso bg en wd va gd rs mu rm ss msz msh mho mhn mhz kd nb tn tc bo ip la ns sd to he sw nh ki te mi ar z (by assumption) (by omega)) [0, 1] 0 rfl rfl rfl [[o], [rw]] rfl rfl rfl rfl rfl rfl (Nat.le_of_ble_eq_true rfl) rfl dX6_does_2 ?_
  refine J_if_ne (tgt := 10) 5 dX6_does_5 (by decide) (fun _ => ?_) (fun c_1_ => absurd c_1_ (by decide))
  refine J_iload_n 10 2 dX6_does_10 rfl rfl ?_
  refine J_tableIn (tgt := 36) (off := 25) 11 0 dX6_does_11 rfl (by decide +kernel) (by decide) ?_
  refine J_aload_n 36 0 dX6_does_36 rfl rfl ?_
  refine kb_RX6_209 (bs' := [wMo o rw fr kp tr ik tp tm mso bg en wd va gd rs mu rm ss msz msh mho mhn mhz kd nb tn tc bo ip, wMr G rw la ns sd to he sw nh ki te mi ar z]) (rest := []) (st' := [.int (nI (ns - sd))]) 37 (c_X6_leftMany l G o rw fr kp tr ik tp tm mso bg en wd va gd rs mu rm ss msz msh mho mhn mhz kd nb tn tc bo ip la ns sd to he sw nh ki te mi ar z (by first | omega | assumption)) [0, 1] 0 rfl rfl rfl [[o], [rw]] rfl rfl rfl rfl rfl rfl (Nat.le_of_ble_eq_true rfl) rfl dX6_does_37 ?_
  refine J_if_ne (tgt := 49) 40 dX6_does_40 (by decide) (fun c_2_ => ?_) (fun c_2_ => ?_)
  · skip
    have c_2_ : ¬ (ns - sd) = 0 := fun z_ => c_2_ ((nI_eq (a := (ns - sd)) (b := 0) (by omega) (by omega)).mpr z_)
    omega
  · skip
    have c_2_ : (ns - sd) = 0 := (nI_eq (a := (ns - sd)) (b := 0) (by omega) (by omega)).mp c_2_
    refine J_sipush (v := 1000) 43 dX6_does_43 rfl ?_
    refine J_goto (tgt := 64) 46 dX6_does_46 (by decide) ?_
    exact J_iret 64 dX6_does_64 rfl rfl
set_option maxRecDepth 100000 in
set_option maxHeartbeats 4000000 in
theorem c_X6_does_1 (l : Launch) (G : Gd) (h : Nat) (o : Nat) (rw : Nat) (fr : Nat) (kp : Nat) (tr : Nat) (ik : Int32) (tp : Nat) (tm : Nat) (mso : Int32) (bg : Nat) (en : Nat) (wd : Int64) (va : Int32) (gd : Int32) (rs : Nat) (mu : Nat) (rm : Nat) (ss : Nat) (msz : Nat) (msh : Nat) (mho : Nat) (mhn : Nat) (mhz : Nat) (kd : Int32) (nb : Int32) (tn : Int32) (tc : Nat) (bo : Nat) (ip : Int32) (la : Nat → Int32) (ns : Nat) (sd : Nat) (to : Nat → Int32) (he : Nat → Int32) (sw : Nat → Int32) (nh : Nat) (ki : Nat → Int32) (te : Nat → Int32) (mi : Nat → Int32) (ar : Nat → Int32) (z : Int32) (hh : h < nh) (hnh : nh ≤ 8) : Ct l G yX6_does cX6_does 3 (some (FieldType.int)) 2 [.ref o, .int (nI h), .int 1] (wF [wMo o rw fr kp tr ik tp tm mso bg en wd va gd rs mu rm ss msz msh mho mhn mhz kd nb tn tc bo ip, wMr G rw la ns sd to he sw nh ki te mi ar z]) (some (.int (1000 + fNeeds (ki h) (te h) (la 0)))) (wF [wMo o rw fr kp tr ik tp tm mso bg en wd va gd rs mu rm ss msz msh mho mhn mhz kd nb tn tc bo ip, wMr G rw la ns sd to he sw nh ki te mi ar z]) := by
  refine Ct.of "GooseArmsModel" [some (.ref o), some (.int (nI h)), some (.int 1)] (by decide +kernel) rfl (Nat.le_of_ble_eq_true rfl) rfl ?_
  refine J_aload_n 0 0 dX6_does_0 rfl rfl ?_
  refine J_iload_n 1 1 dX6_does_1 rfl rfl ?_
  refine kb_RX6_206 (bs' := [wMo o rw fr kp tr ik tp tm mso bg en wd va gd rs mu rm ss msz msh mho mhn mhz kd nb tn tc bo ip, wMr G rw la ns sd to he sw nh ki te mi ar z]) (rest := []) (st' := [.int 1]) 2 (c_X6_isOne_t l G h o rw fr kp tr ik tp tm mso bg en wd va gd rs mu rm ss msz msh mho mhn mhz kd nb tn tc bo ip la ns sd to he sw nh ki te mi ar z (by assumption) (by omega)) [0, 1] 0 rfl rfl rfl [[o], [rw]] rfl rfl rfl rfl rfl rfl (Nat.le_of_ble_eq_true rfl) rfl dX6_does_2 ?_
  refine J_if_ne (tgt := 10) 5 dX6_does_5 (by decide) (fun _ => ?_) (fun c_1_ => absurd c_1_ (by decide))
  refine J_iload_n 10 2 dX6_does_10 rfl rfl ?_
  refine J_tableIn (tgt := 65) (off := 54) 11 1 dX6_does_11 rfl (by decide +kernel) (by decide) ?_
  refine J_sipush (v := 1000) 65 dX6_does_65 rfl ?_
  refine J_aload_n 68 0 dX6_does_68 rfl rfl ?_
  refine J_iload_n 69 1 dX6_does_69 rfl rfl ?_
  refine kb_RX6_215 (bs' := [wMo o rw fr kp tr ik tp tm mso bg en wd va gd rs mu rm ss msz msh mho mhn mhz kd nb tn tc bo ip, wMr G rw la ns sd to he sw nh ki te mi ar z]) (rest := [.int 1000]) (st' := [.int (fNeeds (ki h) (te h) (la 0)), .int 1000]) 70 (c_X6_needs l G h o rw fr kp tr ik tp tm mso bg en wd va gd rs mu rm ss msz msh mho mhn mhz kd nb tn tc bo ip la ns sd to he sw nh ki te mi ar z (by first | omega | assumption)) [0, 1] 0 rfl rfl rfl [[o], [rw]] rfl rfl rfl rfl rfl rfl (Nat.le_of_ble_eq_true rfl) rfl dX6_does_70 ?_
  refine J_iadd 73 dX6_does_73 ?_
  exact J_iret 74 dX6_does_74 (congrArg (fun x_ => some (Value.int x_)) (by first | rfl | omega | grind)) rfl
set_option maxRecDepth 100000 in
set_option maxHeartbeats 4000000 in
theorem c_X6_does_2 (l : Launch) (G : Gd) (h : Nat) (o : Nat) (rw : Nat) (fr : Nat) (kp : Nat) (tr : Nat) (ik : Int32) (tp : Nat) (tm : Nat) (mso : Int32) (bg : Nat) (en : Nat) (wd : Int64) (va : Int32) (gd : Int32) (rs : Nat) (mu : Nat) (rm : Nat) (ss : Nat) (msz : Nat) (msh : Nat) (mho : Nat) (mhn : Nat) (mhz : Nat) (kd : Int32) (nb : Int32) (tn : Int32) (tc : Nat) (bo : Nat) (ip : Int32) (la : Nat → Int32) (ns : Nat) (sd : Nat) (to : Nat → Int32) (he : Nat → Int32) (sw : Nat → Int32) (nh : Nat) (ki : Nat → Int32) (te : Nat → Int32) (mi : Nat → Int32) (ar : Nat → Int32) (z : Int32) (hh : h < nh) (hnh : nh ≤ 8) : Ct l G yX6_does cX6_does 3 (some (FieldType.int)) 2 [.ref o, .int (nI h), .int 2] (wF [wMo o rw fr kp tr ik tp tm mso bg en wd va gd rs mu rm ss msz msh mho mhn mhz kd nb tn tc bo ip, wMr G rw la ns sd to he sw nh ki te mi ar z]) (some (.int (1000 + fWears (ki h) (la 2)))) (wF [wMo o rw fr kp tr ik tp tm mso bg en wd va gd rs mu rm ss msz msh mho mhn mhz kd nb tn tc bo ip, wMr G rw la ns sd to he sw nh ki te mi ar z]) := by
  refine Ct.of "GooseArmsModel" [some (.ref o), some (.int (nI h)), some (.int 2)] (by decide +kernel) rfl (Nat.le_of_ble_eq_true rfl) rfl ?_
  refine J_aload_n 0 0 dX6_does_0 rfl rfl ?_
  refine J_iload_n 1 1 dX6_does_1 rfl rfl ?_
  refine kb_RX6_206 (bs' := [wMo o rw fr kp tr ik tp tm mso bg en wd va gd rs mu rm ss msz msh mho mhn mhz kd nb tn tc bo ip, wMr G rw la ns sd to he sw nh ki te mi ar z]) (rest := []) (st' := [.int 1]) 2 (c_X6_isOne_t l G h o rw fr kp tr ik tp tm mso bg en wd va gd rs mu rm ss msz msh mho mhn mhz kd nb tn tc bo ip la ns sd to he sw nh ki te mi ar z (by assumption) (by omega)) [0, 1] 0 rfl rfl rfl [[o], [rw]] rfl rfl rfl rfl rfl rfl (Nat.le_of_ble_eq_true rfl) rfl dX6_does_2 ?_
  refine J_if_ne (tgt := 10) 5 dX6_does_5 (by decide) (fun _ => ?_) (fun c_1_ => absurd c_1_ (by decide))
  refine J_iload_n 10 2 dX6_does_10 rfl rfl ?_
  refine J_tableIn (tgt := 75) (off := 64) 11 2 dX6_does_11 rfl (by decide +kernel) (by decide) ?_
  refine J_sipush (v := 1000) 75 dX6_does_75 rfl ?_
  refine J_aload_n 78 0 dX6_does_78 rfl rfl ?_
  refine J_iload_n 79 1 dX6_does_79 rfl rfl ?_
  refine kb_RX6_218 (bs' := [wMo o rw fr kp tr ik tp tm mso bg en wd va gd rs mu rm ss msz msh mho mhn mhz kd nb tn tc bo ip, wMr G rw la ns sd to he sw nh ki te mi ar z]) (rest := [.int 1000]) (st' := [.int (fWears (ki h) (la 2)), .int 1000]) 80 (c_X6_wears l G h o rw fr kp tr ik tp tm mso bg en wd va gd rs mu rm ss msz msh mho mhn mhz kd nb tn tc bo ip la ns sd to he sw nh ki te mi ar z (by first | omega | assumption)) [0, 1] 0 rfl rfl rfl [[o], [rw]] rfl rfl rfl rfl rfl rfl (Nat.le_of_ble_eq_true rfl) rfl dX6_does_80 ?_
  refine J_iadd 83 dX6_does_83 ?_
  exact J_iret 84 dX6_does_84 (congrArg (fun x_ => some (Value.int x_)) (by first | rfl | omega | grind)) rfl
set_option maxRecDepth 100000 in
set_option maxHeartbeats 4000000 in
theorem c_X6_does_badw (l : Launch) (G : Gd) (h : Nat) (w : Int32) (o : Nat) (rw : Nat) (fr : Nat) (kp : Nat) (tr : Nat) (ik : Int32) (tp : Nat) (tm : Nat) (mso : Int32) (bg : Nat) (en : Nat) (wd : Int64) (va : Int32) (gd : Int32) (rs : Nat) (mu : Nat) (rm : Nat) (ss : Nat) (msz : Nat) (msh : Nat) (mho : Nat) (mhn : Nat) (mhz : Nat) (kd : Int32) (nb : Int32) (tn : Int32) (tc : Nat) (bo : Nat) (ip : Int32) (la : Nat → Int32) (ns : Nat) (sd : Nat) (to : Nat → Int32) (he : Nat → Int32) (sw : Nat → Int32) (nh : Nat) (ki : Nat → Int32) (te : Nat → Int32) (mi : Nat → Int32) (ar : Nat → Int32) (z : Int32) (hh : h < nh) (hnh : nh ≤ 8) (hw : ¬ (0 ≤ w ∧ w ≤ 2)) : Ct l G yX6_does cX6_does 3 (some (FieldType.int)) 2 [.ref o, .int (nI h), .int w] (wF [wMo o rw fr kp tr ik tp tm mso bg en wd va gd rs mu rm ss msz msh mho mhn mhz kd nb tn tc bo ip, wMr G rw la ns sd to he sw nh ki te mi ar z]) (some (.int (-1))) (wF [wMo o rw fr kp tr ik tp tm mso bg en wd va gd rs mu rm ss msz msh mho mhn mhz kd nb tn tc bo ip, wMr G rw la ns sd to he sw nh ki te mi ar z]) := by
  refine Ct.of "GooseArmsModel" [some (.ref o), some (.int (nI h)), some (.int w)] (by decide +kernel) rfl (Nat.le_of_ble_eq_true rfl) rfl ?_
  refine J_aload_n 0 0 dX6_does_0 rfl rfl ?_
  refine J_iload_n 1 1 dX6_does_1 rfl rfl ?_
  refine kb_RX6_206 (bs' := [wMo o rw fr kp tr ik tp tm mso bg en wd va gd rs mu rm ss msz msh mho mhn mhz kd nb tn tc bo ip, wMr G rw la ns sd to he sw nh ki te mi ar z]) (rest := []) (st' := [.int 1]) 2 (c_X6_isOne_t l G h o rw fr kp tr ik tp tm mso bg en wd va gd rs mu rm ss msz msh mho mhn mhz kd nb tn tc bo ip la ns sd to he sw nh ki te mi ar z (by assumption) (by omega)) [0, 1] 0 rfl rfl rfl [[o], [rw]] rfl rfl rfl rfl rfl rfl (Nat.le_of_ble_eq_true rfl) rfl dX6_does_2 ?_
  refine J_if_ne (tgt := 10) 5 dX6_does_5 (by decide) (fun _ => ?_) (fun c_1_ => absurd c_1_ (by decide))
  refine J_iload_n 10 2 dX6_does_10 rfl rfl ?_
  by_cases e_2_ : w = 0
  · skip
    exact (hw (by rw [e_2_]; decide)).elim
  by_cases e_3_ : w = 1
  · skip
    exact (hw (by rw [e_3_]; decide)).elim
  by_cases e_4_ : w = 2
  · skip
    exact (hw (by rw [e_4_]; decide)).elim
  refine J_tableOut (tgt := 85) 11 dX6_does_11 (by have q0_ := lv_neT (a := 0) e_2_ (by decide); have q1_ := lv_neT (a := 1) e_3_ (by decide); have q2_ := lv_neT (a := 2) e_4_ (by decide); omega) (by decide) ?_
  refine J_iconst (v := (-1)) 85 dX6_does_85 rfl ?_
  exact J_iret 86 dX6_does_86 rfl rfl
set_option maxRecDepth 100000 in
set_option maxHeartbeats 4000000 in
theorem c_X6_does_bad (l : Launch) (G : Gd) (h : Int32) (w : Int32) (o : Nat) (rw : Nat) (fr : Nat) (kp : Nat) (tr : Nat) (ik : Int32) (tp : Nat) (tm : Nat) (mso : Int32) (bg : Nat) (en : Nat) (wd : Int64) (va : Int32) (gd : Int32) (rs : Nat) (mu : Nat) (rm : Nat) (ss : Nat) (msz : Nat) (msh : Nat) (mho : Nat) (mhn : Nat) (mhz : Nat) (kd : Int32) (nb : Int32) (tn : Int32) (tc : Nat) (bo : Nat) (ip : Int32) (la : Nat → Int32) (ns : Nat) (sd : Nat) (to : Nat → Int32) (he : Nat → Int32) (sw : Nat → Int32) (nh : Nat) (ki : Nat → Int32) (te : Nat → Int32) (mi : Nat → Int32) (ar : Nat → Int32) (z : Int32) (hw : ¬ (0 ≤ h ∧ h ≤ nI nh - 1)) : Ct l G yX6_does cX6_does 3 (some (FieldType.int)) 2 [.ref o, .int h, .int w] (wF [wMo o rw fr kp tr ik tp tm mso bg en wd va gd rs mu rm ss msz msh mho mhn mhz kd nb tn tc bo ip, wMr G rw la ns sd to he sw nh ki te mi ar z]) (some (.int (-1))) (wF [wMo o rw fr kp tr ik tp tm mso bg en wd va gd rs mu rm ss msz msh mho mhn mhz kd nb tn tc bo ip, wMr G rw la ns sd to he sw nh ki te mi ar z]) := by
  refine Ct.of "GooseArmsModel" [some (.ref o), some (.int h), some (.int w)] (by decide +kernel) rfl (Nat.le_of_ble_eq_true rfl) rfl ?_
  refine J_aload_n 0 0 dX6_does_0 rfl rfl ?_
  refine J_iload_n 1 1 dX6_does_1 rfl rfl ?_
  refine kb_RX6_206 (bs' := [wMo o rw fr kp tr ik tp tm mso bg en wd va gd rs mu rm ss msz msh mho mhn mhz kd nb tn tc bo ip, wMr G rw la ns sd to he sw nh ki te mi ar z]) (rest := []) (st' := [.int 0]) 2 (c_X6_isOne_f l G h o rw fr kp tr ik tp tm mso bg en wd va gd rs mu rm ss msz msh mho mhn mhz kd nb tn tc bo ip la ns sd to he sw nh ki te mi ar z (by first | omega | assumption)) [0, 1] 0 rfl rfl rfl [[o], [rw]] rfl rfl rfl rfl rfl rfl (Nat.le_of_ble_eq_true rfl) rfl dX6_does_2 ?_
  refine J_if_ne (tgt := 10) 5 dX6_does_5 (by decide) (fun c_1_ => absurd c_1_ (by decide)) (fun _ => ?_)
  refine J_iconst (v := (-1)) 8 dX6_does_8 rfl ?_
  exact J_iret 9 dX6_does_9 rfl rfl
set_option maxRecDepth 100000 in
set_option maxHeartbeats 4000000 in
theorem c_X6_mind_ok (l : Launch) (G : Gd) (h : Nat) (x : Int32) (y : Int32) (o : Nat) (rw : Nat) (fr : Nat) (kp : Nat) (tr : Nat) (ik : Int32) (tp : Nat) (tm : Nat) (mso : Int32) (bg : Nat) (en : Nat) (wd : Int64) (va : Int32) (gd : Int32) (rs : Nat) (mu : Nat) (rm : Nat) (ss : Nat) (msz : Nat) (msh : Nat) (mho : Nat) (mhn : Nat) (mhz : Nat) (kd : Int32) (nb : Int32) (tn : Int32) (tc : Nat) (bo : Nat) (ip : Int32) (la : Nat → Int32) (ns : Nat) (sd : Nat) (to : Nat → Int32) (he : Nat → Int32) (sw : Nat → Int32) (nh : Nat) (ki : Nat → Int32) (te : Nat → Int32) (mi : Nat → Int32) (ar : Nat → Int32) (z : Int32) (hh : h < nh) (hnh : nh ≤ 8) (hw : (0 ≤ x ∧ x ≤ 5) ∧ (0 ≤ y ∧ y ≤ 255)) : Ct l G yX6_mind cX6_mind 4 (some (FieldType.int)) 2 [.ref o, .int (nI h), .int x, .int y] (wF [wMo o rw fr kp tr ik tp tm mso bg en wd va gd rs mu rm ss msz msh mho mhn mhz kd nb tn tc bo ip, wMr G rw la ns sd to he sw nh ki te mi ar z]) (some (.int (ki h))) (wF [wMo o rw fr kp tr ik tp tm mso bg en wd va gd rs mu rm ss msz msh mho mhn mhz kd nb tn tc bo ip, wMr G rw la ns sd to he sw nh (upd ki h x) te (upd mi h y) ar z]) := by
  refine Ct.of "GooseArmsModel" [some (.ref o), some (.int (nI h)), some (.int x), some (.int y)] (by decide +kernel) rfl (Nat.le_of_ble_eq_true rfl) rfl ?_
  refine J_aload_n 0 0 dX6_mind_0 rfl rfl ?_
  refine J_iload_n 1 1 dX6_mind_1 rfl rfl ?_
  refine kb_RX6_206 (bs' := [wMo o rw fr kp tr ik tp tm mso bg en wd va gd rs mu rm ss msz msh mho mhn mhz kd nb tn tc bo ip, wMr G rw la ns sd to he sw nh ki te mi ar z]) (rest := []) (st' := [.int 1]) 2 (c_X6_isOne_t l G h o rw fr kp tr ik tp tm mso bg en wd va gd rs mu rm ss msz msh mho mhn mhz kd nb tn tc bo ip la ns sd to he sw nh ki te mi ar z (by assumption) (by omega)) [0, 1] 0 rfl rfl rfl [[o], [rw]] rfl rfl rfl rfl rfl rfl (Nat.le_of_ble_eq_true rfl) rfl dX6_mind_2 ?_
  refine J_if_eq (tgt := 16) 5 dX6_mind_5 (by decide) (fun c_1_ => absurd c_1_ (by decide)) (fun _ => ?_)
  refine J_iload_n 8 2 dX6_mind_8 rfl rfl ?_
  refine J_iload_n 9 3 dX6_mind_9 rfl rfl ?_
  refine kb_RX6_199 (bs' := [wMo o rw fr kp tr ik tp tm mso bg en wd va gd rs mu rm ss msz msh mho mhn mhz kd nb tn tc bo ip, wMr G rw la ns sd to he sw nh ki te mi ar z]) (rest := []) (st' := [.int (bI ((0 ≤ x ∧ x ≤ 5) ∧ (0 ≤ y ∧ y ≤ 255)))]) 10 (c_X6_isKind l G x y ) [] rfl rfl [] rfl rfl rfl rfl rfl rfl (Nat.le_of_ble_eq_true rfl) rfl dX6_mind_10 ?_
  refine J_ifB_ne (tgt := 18) 13 dX6_mind_13 (by decide) (fun c_2_ => ?_) (fun c_2_ => ?_)
  · skip
    refine J_aload_n 18 0 dX6_mind_18 rfl rfl ?_
    refine J_iload_n 19 1 dX6_mind_19 rfl rfl ?_
    refine J_iconst (v := 2) 20 dX6_mind_20 rfl ?_
    refine J_iload_n 21 3 dX6_mind_21 rfl rfl ?_
    refine kb_RX6_202 (bs' := [wMo o rw fr kp tr ik tp tm mso bg en wd va gd rs mu rm ss msz msh mho mhn mhz kd nb tn tc bo ip, wMr G rw la ns sd to he sw nh ki te (upd mi h y) ar z]) (rest := []) (st' := []) 22 (c_X6_sets_2 l G h y o rw fr kp tr ik tp tm mso bg en wd va gd rs mu rm ss msz msh mho mhn mhz kd nb tn tc bo ip la ns sd to he sw nh ki te mi ar z (by first | omega | assumption)) [0, 1] 0 rfl rfl rfl [[o], [rw]] rfl rfl rfl rfl rfl rfl (Nat.le_of_ble_eq_true rfl) rfl dX6_mind_22 ?_
    refine J_aload_n 25 0 dX6_mind_25 rfl rfl ?_
    refine J_bipush (v := 44) 26 dX6_mind_26 rfl ?_
    refine J_iconst (v := 4) 28 dX6_mind_28 rfl ?_
    refine J_iload_n 29 1 dX6_mind_29 rfl rfl ?_
    refine J_imul 30 dX6_mind_30 ?_
    refine J_topi (y := nI (4 * h)) 31 (pk_mul 4 h) ?_
    refine J_iadd 31 dX6_mind_31 ?_
    refine J_topi (y := nI (44 + (4 * h))) 32 (nI_add 44 (4 * h)) ?_
    refine J_iload_n 32 2 dX6_mind_32 rfl rfl ?_
    refine kb_RX6_180 (bs' := [wMo o rw fr kp tr ik tp tm mso bg en wd va gd rs mu rm ss msz msh mho mhn mhz kd nb tn tc bo ip, wMr G rw la ns sd to he sw nh (upd ki h x) te (upd mi h y) ar z]) (rest := []) (st' := [.int (ki h)]) 33 (c_X6_becomes_ki l G h x o rw fr kp tr ik tp tm mso bg en wd va gd rs mu rm ss msz msh mho mhn mhz kd nb tn tc bo ip la ns sd to he sw nh ki te (upd mi h y) ar z (by first | omega | assumption)) [0, 1] 0 rfl rfl rfl [[o], [rw]] rfl rfl rfl rfl rfl rfl (Nat.le_of_ble_eq_true rfl) rfl dX6_mind_33 ?_
    exact J_iret 36 dX6_mind_36 rfl rfl
  · skip
    exact absurd hw c_2_
set_option maxRecDepth 100000 in
set_option maxHeartbeats 4000000 in
theorem c_X6_mind_badv (l : Launch) (G : Gd) (h : Nat) (x : Int32) (y : Int32) (o : Nat) (rw : Nat) (fr : Nat) (kp : Nat) (tr : Nat) (ik : Int32) (tp : Nat) (tm : Nat) (mso : Int32) (bg : Nat) (en : Nat) (wd : Int64) (va : Int32) (gd : Int32) (rs : Nat) (mu : Nat) (rm : Nat) (ss : Nat) (msz : Nat) (msh : Nat) (mho : Nat) (mhn : Nat) (mhz : Nat) (kd : Int32) (nb : Int32) (tn : Int32) (tc : Nat) (bo : Nat) (ip : Int32) (la : Nat → Int32) (ns : Nat) (sd : Nat) (to : Nat → Int32) (he : Nat → Int32) (sw : Nat → Int32) (nh : Nat) (ki : Nat → Int32) (te : Nat → Int32) (mi : Nat → Int32) (ar : Nat → Int32) (z : Int32) (hh : h < nh) (hnh : nh ≤ 8) (hw : ¬ ((0 ≤ x ∧ x ≤ 5) ∧ (0 ≤ y ∧ y ≤ 255))) : Ct l G yX6_mind cX6_mind 4 (some (FieldType.int)) 2 [.ref o, .int (nI h), .int x, .int y] (wF [wMo o rw fr kp tr ik tp tm mso bg en wd va gd rs mu rm ss msz msh mho mhn mhz kd nb tn tc bo ip, wMr G rw la ns sd to he sw nh ki te mi ar z]) (some (.int (-1))) (wF [wMo o rw fr kp tr ik tp tm mso bg en wd va gd rs mu rm ss msz msh mho mhn mhz kd nb tn tc bo ip, wMr G rw la ns sd to he sw nh ki te mi ar z]) := by
  refine Ct.of "GooseArmsModel" [some (.ref o), some (.int (nI h)), some (.int x), some (.int y)] (by decide +kernel) rfl (Nat.le_of_ble_eq_true rfl) rfl ?_
  refine J_aload_n 0 0 dX6_mind_0 rfl rfl ?_
  refine J_iload_n 1 1 dX6_mind_1 rfl rfl ?_
  refine kb_RX6_206 (bs' := [wMo o rw fr kp tr ik tp tm mso bg en wd va gd rs mu rm ss msz msh mho mhn mhz kd nb tn tc bo ip, wMr G rw la ns sd to he sw nh ki te mi ar z]) (rest := []) (st' := [.int 1]) 2 (c_X6_isOne_t l G h o rw fr kp tr ik tp tm mso bg en wd va gd rs mu rm ss msz msh mho mhn mhz kd nb tn tc bo ip la ns sd to he sw nh ki te mi ar z (by assumption) (by omega)) [0, 1] 0 rfl rfl rfl [[o], [rw]] rfl rfl rfl rfl rfl rfl (Nat.le_of_ble_eq_true rfl) rfl dX6_mind_2 ?_
  refine J_if_eq (tgt := 16) 5 dX6_mind_5 (by decide) (fun c_1_ => absurd c_1_ (by decide)) (fun _ => ?_)
  refine J_iload_n 8 2 dX6_mind_8 rfl rfl ?_
  refine J_iload_n 9 3 dX6_mind_9 rfl rfl ?_
  refine kb_RX6_199 (bs' := [wMo o rw fr kp tr ik tp tm mso bg en wd va gd rs mu rm ss msz msh mho mhn mhz kd nb tn tc bo ip, wMr G rw la ns sd to he sw nh ki te mi ar z]) (rest := []) (st' := [.int (bI ((0 ≤ x ∧ x ≤ 5) ∧ (0 ≤ y ∧ y ≤ 255)))]) 10 (c_X6_isKind l G x y ) [] rfl rfl [] rfl rfl rfl rfl rfl rfl (Nat.le_of_ble_eq_true rfl) rfl dX6_mind_10 ?_
  refine J_ifB_ne (tgt := 18) 13 dX6_mind_13 (by decide) (fun c_2_ => ?_) (fun c_2_ => ?_)
  · skip
    exact absurd c_2_ hw
  · skip
    refine J_iconst (v := (-1)) 16 dX6_mind_16 rfl ?_
    exact J_iret 17 dX6_mind_17 rfl rfl
set_option maxRecDepth 100000 in
set_option maxHeartbeats 4000000 in
theorem c_X6_mind_bad (l : Launch) (G : Gd) (h : Int32) (x : Int32) (y : Int32) (o : Nat) (rw : Nat) (fr : Nat) (kp : Nat) (tr : Nat) (ik : Int32) (tp : Nat) (tm : Nat) (mso : Int32) (bg : Nat) (en : Nat) (wd : Int64) (va : Int32) (gd : Int32) (rs : Nat) (mu : Nat) (rm : Nat) (ss : Nat) (msz : Nat) (msh : Nat) (mho : Nat) (mhn : Nat) (mhz : Nat) (kd : Int32) (nb : Int32) (tn : Int32) (tc : Nat) (bo : Nat) (ip : Int32) (la : Nat → Int32) (ns : Nat) (sd : Nat) (to : Nat → Int32) (he : Nat → Int32) (sw : Nat → Int32) (nh : Nat) (ki : Nat → Int32) (te : Nat → Int32) (mi : Nat → Int32) (ar : Nat → Int32) (z : Int32) (hw : ¬ (0 ≤ h ∧ h ≤ nI nh - 1)) : Ct l G yX6_mind cX6_mind 4 (some (FieldType.int)) 2 [.ref o, .int h, .int x, .int y] (wF [wMo o rw fr kp tr ik tp tm mso bg en wd va gd rs mu rm ss msz msh mho mhn mhz kd nb tn tc bo ip, wMr G rw la ns sd to he sw nh ki te mi ar z]) (some (.int (-1))) (wF [wMo o rw fr kp tr ik tp tm mso bg en wd va gd rs mu rm ss msz msh mho mhn mhz kd nb tn tc bo ip, wMr G rw la ns sd to he sw nh ki te mi ar z]) := by
  refine Ct.of "GooseArmsModel" [some (.ref o), some (.int h), some (.int x), some (.int y)] (by decide +kernel) rfl (Nat.le_of_ble_eq_true rfl) rfl ?_
  refine J_aload_n 0 0 dX6_mind_0 rfl rfl ?_
  refine J_iload_n 1 1 dX6_mind_1 rfl rfl ?_
  refine kb_RX6_206 (bs' := [wMo o rw fr kp tr ik tp tm mso bg en wd va gd rs mu rm ss msz msh mho mhn mhz kd nb tn tc bo ip, wMr G rw la ns sd to he sw nh ki te mi ar z]) (rest := []) (st' := [.int 0]) 2 (c_X6_isOne_f l G h o rw fr kp tr ik tp tm mso bg en wd va gd rs mu rm ss msz msh mho mhn mhz kd nb tn tc bo ip la ns sd to he sw nh ki te mi ar z (by first | omega | assumption)) [0, 1] 0 rfl rfl rfl [[o], [rw]] rfl rfl rfl rfl rfl rfl (Nat.le_of_ble_eq_true rfl) rfl dX6_mind_2 ?_
  refine J_if_eq (tgt := 16) 5 dX6_mind_5 (by decide) (fun _ => ?_) (fun c_1_ => absurd c_1_ (by decide))
  refine J_iconst (v := (-1)) 16 dX6_mind_16 rfl ?_
  exact J_iret 17 dX6_mind_17 rfl rfl
set_option maxRecDepth 100000 in
set_option maxHeartbeats 4000000 in
theorem c_X6_tender_ok (l : Launch) (G : Gd) (h : Nat) (v : Int32) (o : Nat) (rw : Nat) (fr : Nat) (kp : Nat) (tr : Nat) (ik : Int32) (tp : Nat) (tm : Nat) (mso : Int32) (bg : Nat) (en : Nat) (wd : Int64) (va : Int32) (gd : Int32) (rs : Nat) (mu : Nat) (rm : Nat) (ss : Nat) (msz : Nat) (msh : Nat) (mho : Nat) (mhn : Nat) (mhz : Nat) (kd : Int32) (nb : Int32) (tn : Int32) (tc : Nat) (bo : Nat) (ip : Int32) (la : Nat → Int32) (ns : Nat) (sd : Nat) (to : Nat → Int32) (he : Nat → Int32) (sw : Nat → Int32) (nh : Nat) (ki : Nat → Int32) (te : Nat → Int32) (mi : Nat → Int32) (ar : Nat → Int32) (z : Int32) (hh : h < nh) (hnh : nh ≤ 8) (hw : 0 ≤ v ∧ v ≤ 99) : Ct l G yX6_tender cX6_tender 3 (some (FieldType.int)) 2 [.ref o, .int (nI h), .int v] (wF [wMo o rw fr kp tr ik tp tm mso bg en wd va gd rs mu rm ss msz msh mho mhn mhz kd nb tn tc bo ip, wMr G rw la ns sd to he sw nh ki te mi ar z]) (some (.int (te h))) (wF [wMo o rw fr kp tr ik tp tm mso bg en wd va gd rs mu rm ss msz msh mho mhn mhz kd nb tn tc bo ip, wMr G rw la ns sd to he sw nh ki (upd te h v) mi ar z]) := by
  refine Ct.of "GooseArmsModel" [some (.ref o), some (.int (nI h)), some (.int v)] (by decide +kernel) rfl (Nat.le_of_ble_eq_true rfl) rfl ?_
  refine J_aload_n 0 0 dX6_tender_0 rfl rfl ?_
  refine J_iload_n 1 1 dX6_tender_1 rfl rfl ?_
  refine kb_RX6_206 (bs' := [wMo o rw fr kp tr ik tp tm mso bg en wd va gd rs mu rm ss msz msh mho mhn mhz kd nb tn tc bo ip, wMr G rw la ns sd to he sw nh ki te mi ar z]) (rest := []) (st' := [.int 1]) 2 (c_X6_isOne_t l G h o rw fr kp tr ik tp tm mso bg en wd va gd rs mu rm ss msz msh mho mhn mhz kd nb tn tc bo ip la ns sd to he sw nh ki te mi ar z (by assumption) (by omega)) [0, 1] 0 rfl rfl rfl [[o], [rw]] rfl rfl rfl rfl rfl rfl (Nat.le_of_ble_eq_true rfl) rfl dX6_tender_2 ?_
  refine J_if_eq (tgt := 34) 5 dX6_tender_5 (by decide) (fun c_1_ => absurd c_1_ (by decide)) (fun _ => ?_)
  refine J_iload_n 8 2 dX6_tender_8 rfl rfl ?_
  refine J_iconst (v := 0) 9 dX6_tender_9 rfl ?_
  refine J_bipush (v := 99) 10 dX6_tender_10 rfl ?_
  refine kb_RX6_57 (bs' := [wMo o rw fr kp tr ik tp tm mso bg en wd va gd rs mu rm ss msz msh mho mhn mhz kd nb tn tc bo ip, wMr G rw la ns sd to he sw nh ki te mi ar z]) (rest := []) (st' := [.int 1]) 12 (c_X6_in_t l G v 0 99 hw) [] rfl rfl [] rfl rfl rfl rfl rfl rfl (Nat.le_of_ble_eq_true rfl) rfl dX6_tender_12 ?_
  refine J_if_eq (tgt := 34) 15 dX6_tender_15 (by decide) (fun c_2_ => absurd c_2_ (by decide)) (fun _ => ?_)
  refine J_aload_n 18 0 dX6_tender_18 rfl rfl ?_
  refine J_bipush (v := 44) 19 dX6_tender_19 rfl ?_
  refine J_iconst (v := 4) 21 dX6_tender_21 rfl ?_
  refine J_iload_n 22 1 dX6_tender_22 rfl rfl ?_
  refine J_imul 23 dX6_tender_23 ?_
  refine J_topi (y := nI (4 * h)) 24 (pk_mul 4 h) ?_
  refine J_iadd 24 dX6_tender_24 ?_
  refine J_topi (y := nI (44 + (4 * h))) 25 (nI_add 44 (4 * h)) ?_
  refine J_iconst (v := 1) 25 dX6_tender_25 rfl ?_
  refine J_iadd 26 dX6_tender_26 ?_
  refine J_topi (y := nI ((44 + (4 * h)) + 1)) 27 (nI_add (44 + (4 * h)) 1) ?_
  refine J_iload_n 27 2 dX6_tender_27 rfl rfl ?_
  refine kb_RX6_180 (bs' := [wMo o rw fr kp tr ik tp tm mso bg en wd va gd rs mu rm ss msz msh mho mhn mhz kd nb tn tc bo ip, wMr G rw la ns sd to he sw nh ki (upd te h v) mi ar z]) (rest := []) (st' := [.int (te h)]) 28 (c_X6_becomes_te l G h v o rw fr kp tr ik tp tm mso bg en wd va gd rs mu rm ss msz msh mho mhn mhz kd nb tn tc bo ip la ns sd to he sw nh ki te mi ar z (by first | omega | assumption)) [0, 1] 0 rfl rfl rfl [[o], [rw]] rfl rfl rfl rfl rfl rfl (Nat.le_of_ble_eq_true rfl) rfl dX6_tender_28 ?_
  refine J_goto (tgt := 35) 31 dX6_tender_31 (by decide) ?_
  exact J_iret 35 dX6_tender_35 rfl rfl
set_option maxRecDepth 100000 in
set_option maxHeartbeats 4000000 in
theorem c_X6_tender_badv (l : Launch) (G : Gd) (h : Nat) (v : Int32) (o : Nat) (rw : Nat) (fr : Nat) (kp : Nat) (tr : Nat) (ik : Int32) (tp : Nat) (tm : Nat) (mso : Int32) (bg : Nat) (en : Nat) (wd : Int64) (va : Int32) (gd : Int32) (rs : Nat) (mu : Nat) (rm : Nat) (ss : Nat) (msz : Nat) (msh : Nat) (mho : Nat) (mhn : Nat) (mhz : Nat) (kd : Int32) (nb : Int32) (tn : Int32) (tc : Nat) (bo : Nat) (ip : Int32) (la : Nat → Int32) (ns : Nat) (sd : Nat) (to : Nat → Int32) (he : Nat → Int32) (sw : Nat → Int32) (nh : Nat) (ki : Nat → Int32) (te : Nat → Int32) (mi : Nat → Int32) (ar : Nat → Int32) (z : Int32) (hh : h < nh) (hnh : nh ≤ 8) (hw : ¬ (0 ≤ v ∧ v ≤ 99)) : Ct l G yX6_tender cX6_tender 3 (some (FieldType.int)) 2 [.ref o, .int (nI h), .int v] (wF [wMo o rw fr kp tr ik tp tm mso bg en wd va gd rs mu rm ss msz msh mho mhn mhz kd nb tn tc bo ip, wMr G rw la ns sd to he sw nh ki te mi ar z]) (some (.int (-1))) (wF [wMo o rw fr kp tr ik tp tm mso bg en wd va gd rs mu rm ss msz msh mho mhn mhz kd nb tn tc bo ip, wMr G rw la ns sd to he sw nh ki te mi ar z]) := by
  refine Ct.of "GooseArmsModel" [some (.ref o), some (.int (nI h)), some (.int v)] (by decide +kernel) rfl (Nat.le_of_ble_eq_true rfl) rfl ?_
  refine J_aload_n 0 0 dX6_tender_0 rfl rfl ?_
  refine J_iload_n 1 1 dX6_tender_1 rfl rfl ?_
  refine kb_RX6_206 (bs' := [wMo o rw fr kp tr ik tp tm mso bg en wd va gd rs mu rm ss msz msh mho mhn mhz kd nb tn tc bo ip, wMr G rw la ns sd to he sw nh ki te mi ar z]) (rest := []) (st' := [.int 1]) 2 (c_X6_isOne_t l G h o rw fr kp tr ik tp tm mso bg en wd va gd rs mu rm ss msz msh mho mhn mhz kd nb tn tc bo ip la ns sd to he sw nh ki te mi ar z (by assumption) (by omega)) [0, 1] 0 rfl rfl rfl [[o], [rw]] rfl rfl rfl rfl rfl rfl (Nat.le_of_ble_eq_true rfl) rfl dX6_tender_2 ?_
  refine J_if_eq (tgt := 34) 5 dX6_tender_5 (by decide) (fun c_1_ => absurd c_1_ (by decide)) (fun _ => ?_)
  refine J_iload_n 8 2 dX6_tender_8 rfl rfl ?_
  refine J_iconst (v := 0) 9 dX6_tender_9 rfl ?_
  refine J_bipush (v := 99) 10 dX6_tender_10 rfl ?_
  refine kb_RX6_57 (bs' := [wMo o rw fr kp tr ik tp tm mso bg en wd va gd rs mu rm ss msz msh mho mhn mhz kd nb tn tc bo ip, wMr G rw la ns sd to he sw nh ki te mi ar z]) (rest := []) (st' := [.int 0]) 12 (c_X6_in_f l G v 0 99 hw) [] rfl rfl [] rfl rfl rfl rfl rfl rfl (Nat.le_of_ble_eq_true rfl) rfl dX6_tender_12 ?_
  refine J_if_eq (tgt := 34) 15 dX6_tender_15 (by decide) (fun _ => ?_) (fun c_2_ => absurd c_2_ (by decide))
  refine J_iconst (v := (-1)) 34 dX6_tender_34 rfl ?_
  exact J_iret 35 dX6_tender_35 rfl rfl
set_option maxRecDepth 100000 in
set_option maxHeartbeats 4000000 in
theorem c_X6_tender_bad (l : Launch) (G : Gd) (h : Int32) (v : Int32) (o : Nat) (rw : Nat) (fr : Nat) (kp : Nat) (tr : Nat) (ik : Int32) (tp : Nat) (tm : Nat) (mso : Int32) (bg : Nat) (en : Nat) (wd : Int64) (va : Int32) (gd : Int32) (rs : Nat) (mu : Nat) (rm : Nat) (ss : Nat) (msz : Nat) (msh : Nat) (mho : Nat) (mhn : Nat) (mhz : Nat) (kd : Int32) (nb : Int32) (tn : Int32) (tc : Nat) (bo : Nat) (ip : Int32) (la : Nat → Int32) (ns : Nat) (sd : Nat) (to : Nat → Int32) (he : Nat → Int32) (sw : Nat → Int32) (nh : Nat) (ki : Nat → Int32) (te : Nat → Int32) (mi : Nat → Int32) (ar : Nat → Int32) (z : Int32) (hw : ¬ (0 ≤ h ∧ h ≤ nI nh - 1)) : Ct l G yX6_tender cX6_tender 3 (some (FieldType.int)) 2 [.ref o, .int h, .int v] (wF [wMo o rw fr kp tr ik tp tm mso bg en wd va gd rs mu rm ss msz msh mho mhn mhz kd nb tn tc bo ip, wMr G rw la ns sd to he sw nh ki te mi ar z]) (some (.int (-1))) (wF [wMo o rw fr kp tr ik tp tm mso bg en wd va gd rs mu rm ss msz msh mho mhn mhz kd nb tn tc bo ip, wMr G rw la ns sd to he sw nh ki te mi ar z]) := by
  refine Ct.of "GooseArmsModel" [some (.ref o), some (.int h), some (.int v)] (by decide +kernel) rfl (Nat.le_of_ble_eq_true rfl) rfl ?_
  refine J_aload_n 0 0 dX6_tender_0 rfl rfl ?_
  refine J_iload_n 1 1 dX6_tender_1 rfl rfl ?_
  refine kb_RX6_206 (bs' := [wMo o rw fr kp tr ik tp tm mso bg en wd va gd rs mu rm ss msz msh mho mhn mhz kd nb tn tc bo ip, wMr G rw la ns sd to he sw nh ki te mi ar z]) (rest := []) (st' := [.int 0]) 2 (c_X6_isOne_f l G h o rw fr kp tr ik tp tm mso bg en wd va gd rs mu rm ss msz msh mho mhn mhz kd nb tn tc bo ip la ns sd to he sw nh ki te mi ar z (by first | omega | assumption)) [0, 1] 0 rfl rfl rfl [[o], [rw]] rfl rfl rfl rfl rfl rfl (Nat.le_of_ble_eq_true rfl) rfl dX6_tender_2 ?_
  refine J_if_eq (tgt := 34) 5 dX6_tender_5 (by decide) (fun _ => ?_) (fun c_1_ => absurd c_1_ (by decide))
  refine J_iconst (v := (-1)) 34 dX6_tender_34 rfl ?_
  exact J_iret 35 dX6_tender_35 rfl rfl
set_option maxRecDepth 100000 in
set_option maxHeartbeats 4000000 in
theorem c_X6_say_ok (l : Launch) (G : Gd) (n : Nat) (o : Nat) (rw : Nat) (fr : Nat) (kp : Nat) (tr : Nat) (ik : Int32) (tp : Nat) (tm : Nat) (mso : Int32) (bg : Nat) (en : Nat) (wd : Int64) (va : Int32) (gd : Int32) (rs : Nat) (mu : Nat) (rm : Nat) (ss : Nat) (msz : Nat) (msh : Nat) (mho : Nat) (mhn : Nat) (mhz : Nat) (kd : Int32) (nb : Int32) (tn : Int32) (tc : Nat) (bo : Nat) (ip : Int32) (la : Nat → Int32) (ns : Nat) (sd : Nat) (to : Nat → Int32) (he : Nat → Int32) (sw : Nat → Int32) (nh : Nat) (ki : Nat → Int32) (te : Nat → Int32) (mi : Nat → Int32) (ar : Nat → Int32) (z : Int32) (hnh : nh ≤ 8) (hns : ns ≤ 12) (hsd : sd ≤ ns) (h1 : 1 ≤ n) (h60 : n ≤ 60) : Ct l G yX6_say cX6_say 2 (some (FieldType.int)) 4 [.ref o, .int (nI n)] (wF [wMo o rw fr kp tr ik tp tm mso bg en wd va gd rs mu rm ss msz msh mho mhn mhz kd nb tn tc bo ip, wMr G rw la ns sd to he sw nh ki te mi ar z]) (some (.int (nI (min n (ns - sd))))) (wF [wMo o rw fr kp tr ik tp tm mso bg en wd va gd rs mu rm ss msz msh mho mhn mhz kd nb tn tc bo ip, wMr G rw la ns (sd + min n (ns - sd)) to he sw nh ki (fTe (fun h_ => h_ < nh) la ki mi te ar to he sw sd (min n (ns - sd))) mi (fAr (fun h_ => h_ < nh) la ki mi te ar to he sw sd (min n (ns - sd))) z]) := by
  refine Ct.of "GooseArmsModel" [some (.ref o), some (.int (nI n))] (by decide +kernel) rfl (Nat.le_of_ble_eq_true rfl) rfl ?_
  refine J_iload_n 0 1 dX6_say_0 rfl rfl ?_
  refine J_iconst (v := 1) 1 dX6_say_1 rfl ?_
  refine J_bipush (v := 60) 2 dX6_say_2 rfl ?_
  refine kb_RX6_57 (bs' := [wMo o rw fr kp tr ik tp tm mso bg en wd va gd rs mu rm ss msz msh mho mhn mhz kd nb tn tc bo ip, wMr G rw la ns sd to he sw nh ki te mi ar z]) (rest := []) (st' := [.int 1]) 4 (c_X6_in_t l G (nI n) 1 60 (inM_t (a := 1) (m := 60) h1 h60 (by decide))) [] rfl rfl [] rfl rfl rfl rfl rfl rfl (Nat.le_of_ble_eq_true rfl) rfl dX6_say_4 ?_
  refine J_if_eq (tgt := 18) 7 dX6_say_7 (by decide) (fun c_1_ => absurd c_1_ (by decide)) (fun _ => ?_)
  refine J_aload_n 10 0 dX6_say_10 rfl rfl ?_
  refine J_iload_n 11 1 dX6_say_11 rfl rfl ?_
  refine kb_RX6_228 (bs' := [wMo o rw fr kp tr ik tp tm mso bg en wd va gd rs mu rm ss msz msh mho mhn mhz kd nb tn tc bo ip, wMr G rw la ns (sd + min n (ns - sd)) to he sw nh ki (fTe (fun h_ => h_ < nh) la ki mi te ar to he sw sd (min n (ns - sd))) mi (fAr (fun h_ => h_ < nh) la ki mi te ar to he sw sd (min n (ns - sd))) z]) (rest := []) (st' := [.int (nI (min n (ns - sd)))]) 12 (c_X6_says l G n o rw fr kp tr ik tp tm mso bg en wd va gd rs mu rm ss msz msh mho mhn mhz kd nb tn tc bo ip la ns sd to he sw nh ki te mi ar z (by first | omega | assumption) (by first | omega | assumption) (by first | omega | assumption) (by first | omega | assumption)) [0, 1] 0 rfl rfl rfl [[o], [rw]] rfl rfl rfl rfl rfl rfl (Nat.le_of_ble_eq_true rfl) rfl dX6_say_12 ?_
  refine J_goto (tgt := 19) 15 dX6_say_15 (by decide) ?_
  exact J_iret 19 dX6_say_19 rfl rfl
set_option maxRecDepth 100000 in
set_option maxHeartbeats 4000000 in
theorem c_X6_say_bad (l : Launch) (G : Gd) (n : Int32) (o : Nat) (rw : Nat) (fr : Nat) (kp : Nat) (tr : Nat) (ik : Int32) (tp : Nat) (tm : Nat) (mso : Int32) (bg : Nat) (en : Nat) (wd : Int64) (va : Int32) (gd : Int32) (rs : Nat) (mu : Nat) (rm : Nat) (ss : Nat) (msz : Nat) (msh : Nat) (mho : Nat) (mhn : Nat) (mhz : Nat) (kd : Int32) (nb : Int32) (tn : Int32) (tc : Nat) (bo : Nat) (ip : Int32) (la : Nat → Int32) (ns : Nat) (sd : Nat) (to : Nat → Int32) (he : Nat → Int32) (sw : Nat → Int32) (nh : Nat) (ki : Nat → Int32) (te : Nat → Int32) (mi : Nat → Int32) (ar : Nat → Int32) (z : Int32) (hw : ¬ (1 ≤ n ∧ n ≤ 60)) : Ct l G yX6_say cX6_say 2 (some (FieldType.int)) 4 [.ref o, .int n] (wF [wMo o rw fr kp tr ik tp tm mso bg en wd va gd rs mu rm ss msz msh mho mhn mhz kd nb tn tc bo ip, wMr G rw la ns sd to he sw nh ki te mi ar z]) (some (.int (-1))) (wF [wMo o rw fr kp tr ik tp tm mso bg en wd va gd rs mu rm ss msz msh mho mhn mhz kd nb tn tc bo ip, wMr G rw la ns sd to he sw nh ki te mi ar z]) := by
  refine Ct.of "GooseArmsModel" [some (.ref o), some (.int n)] (by decide +kernel) rfl (Nat.le_of_ble_eq_true rfl) rfl ?_
  refine J_iload_n 0 1 dX6_say_0 rfl rfl ?_
  refine J_iconst (v := 1) 1 dX6_say_1 rfl ?_
  refine J_bipush (v := 60) 2 dX6_say_2 rfl ?_
  refine kb_RX6_57 (bs' := [wMo o rw fr kp tr ik tp tm mso bg en wd va gd rs mu rm ss msz msh mho mhn mhz kd nb tn tc bo ip, wMr G rw la ns sd to he sw nh ki te mi ar z]) (rest := []) (st' := [.int 0]) 4 (c_X6_in_f l G n 1 60 hw) [] rfl rfl [] rfl rfl rfl rfl rfl rfl (Nat.le_of_ble_eq_true rfl) rfl dX6_say_4 ?_
  refine J_if_eq (tgt := 18) 7 dX6_say_7 (by decide) (fun _ => ?_) (fun c_1_ => absurd c_1_ (by decide))
  refine J_iconst (v := (-1)) 18 dX6_say_18 rfl ?_
  exact J_iret 19 dX6_say_19 rfl rfl
set_option maxRecDepth 100000 in
set_option maxHeartbeats 4000000 in
theorem c_X6_anew (l : Launch) (G : Gd) (o : Nat) (rw : Nat) (fr : Nat) (kp : Nat) (tr : Nat) (ik : Int32) (tp : Nat) (tm : Nat) (mso : Int32) (bg : Nat) (en : Nat) (wd : Int64) (va : Int32) (gd : Int32) (rs : Nat) (mu : Nat) (rm : Nat) (ss : Nat) (msz : Nat) (msh : Nat) (mho : Nat) (mhn : Nat) (mhz : Nat) (kd : Int32) (nb : Int32) (tn : Int32) (tc : Nat) (bo : Nat) (ip : Int32) (la : Nat → Int32) (ns : Nat) (sd : Nat) (to : Nat → Int32) (he : Nat → Int32) (sw : Nat → Int32) (nh : Nat) (ki : Nat → Int32) (te : Nat → Int32) (mi : Nat → Int32) (ar : Nat → Int32) (z : Int32) (hnh : nh ≤ 8) : Ct l G yX6_anew cX6_anew 2 (some (FieldType.int)) 1 [.ref o] (wF [wMo o rw fr kp tr ik tp tm mso bg en wd va gd rs mu rm ss msz msh mho mhn mhz kd nb tn tc bo ip, wMr G rw la ns sd to he sw nh ki te mi ar z]) (some (.int (nI sd))) (wF [wMo o rw fr kp tr ik tp tm mso bg en wd va gd rs mu rm ss msz msh mho mhn mhz kd nb tn tc bo ip, wMr G rw la ns 0 to he sw nh ki te mi (fZer nh ar) z]) := by
  refine Ct.of "GooseArmsModel" [some (.ref o), none] (by decide +kernel) rfl (Nat.le_of_ble_eq_true rfl) rfl ?_
  have cut_2_ : ∀ (n_2_ : Nat) (k : Nat) (ar1 : Nat → Int32), (nh - k < n_2_) → (hk : k ≤ nh) → (har : ar1 = fZer k ar) → J l G (bd G 1 (some (FieldType.int)) (some (.int (nI sd))) (wF [wMo o rw fr kp tr ik tp tm mso bg en wd va gd rs mu rm ss msz msh mho mhn mhz kd nb tn tc bo ip, wMr G rw la ns 0 to he sw nh ki te mi (fZer nh ar) z])) cX6_anew 2 "GooseArmsModel" 2 [some (.ref o), some (.int (nI k))] [] (wF [wMo o rw fr kp tr ik tp tm mso bg en wd va gd rs mu rm ss msz msh mho mhn mhz kd nb tn tc bo ip, wMr G rw la ns sd to he sw nh ki te mi ar1 z]) := by
    intro n_2_
    induction n_2_ with
    | zero => intro k ar1 m_2_; exact absurd m_2_ (Nat.not_lt_zero _)
    | succ n_2_ ih_2_ =>
      intro k ar1 m_2_ hk har
      refine J_iload_n 2 1 dX6_anew_2 rfl rfl ?_
      refine J_aload_n 3 0 dX6_anew_3 rfl rfl ?_
      refine g_789 (v := .ref rw) 4 0 rfl rfl dX6_anew_4 ?_
      refine J_bipush (v := 6) 7 dX6_anew_7 rfl ?_
      refine J_iald 9 1 6 rfl rfl (by omega) (by decide) dX6_anew_9 ?_
      refine J_topi (y := nI nh) 10 (fR_nh rfl) ?_
      refine J_icmp_ge (tgt := 26) 10 dX6_anew_10 (by decide) (fun c_1_ => ?_) (fun c_1_ => ?_)
      · skip
        have c_1_ : nh ≤ k := (nI_leI (a := nh) (b := k) (by omega) (by omega)).mp c_1_
        refine J_aload_n 26 0 dX6_anew_26 rfl rfl ?_
        refine J_iconst (v := 4) 27 dX6_anew_27 rfl ?_
        refine J_iconst (v := 0) 28 dX6_anew_28 rfl ?_
        refine kb_RX6_180 (bs' := [wMo o rw fr kp tr ik tp tm mso bg en wd va gd rs mu rm ss msz msh mho mhn mhz kd nb tn tc bo ip, wMr G rw la ns 0 to he sw nh ki te mi ar1 z]) (rest := []) (st' := [.int (nI sd)]) 29 (c_X6_becomes_sd l G 0 o rw fr kp tr ik tp tm mso bg en wd va gd rs mu rm ss msz msh mho mhn mhz kd nb tn tc bo ip la ns sd to he sw nh ki te mi ar1 z ) [0, 1] 0 rfl rfl rfl [[o], [rw]] rfl rfl rfl rfl rfl rfl (Nat.le_of_ble_eq_true rfl) rfl dX6_anew_29 ?_
        exact J_iret 32 dX6_anew_32 rfl (cg1 (fun (x0_ : Nat → Int32) => (wF [wMo o rw fr kp tr ik tp tm mso bg en wd va gd rs mu rm ss msz msh mho mhn mhz kd nb tn tc bo ip, wMr G rw la ns 0 to he sw nh ki te mi x0_ z])) ar1 (fZer nh ar) (by rw [har, show k = nh by omega]))
      · skip
        have c_1_ : ¬ nh ≤ k := fun z_ => c_1_ ((nI_leI (a := nh) (b := k) (by omega) (by omega)).mpr z_)
        refine J_aload_n 13 0 dX6_anew_13 rfl rfl ?_
        refine J_iload_n 14 1 dX6_anew_14 rfl rfl ?_
        refine J_iconst (v := 3) 15 dX6_anew_15 rfl ?_
        refine J_iconst (v := 0) 16 dX6_anew_16 rfl ?_
        refine kb_RX6_202 (bs' := [wMo o rw fr kp tr ik tp tm mso bg en wd va gd rs mu rm ss msz msh mho mhn mhz kd nb tn tc bo ip, wMr G rw la ns sd to he sw nh ki te mi (upd ar1 k 0) z]) (rest := []) (st' := []) 17 (c_X6_sets_3 l G k 0 o rw fr kp tr ik tp tm mso bg en wd va gd rs mu rm ss msz msh mho mhn mhz kd nb tn tc bo ip la ns sd to he sw nh ki te mi ar1 z (by first | omega | assumption)) [0, 1] 0 rfl rfl rfl [[o], [rw]] rfl rfl rfl rfl rfl rfl (Nat.le_of_ble_eq_true rfl) rfl dX6_anew_17 ?_
        refine J_iinc (v := nI (k + 1)) (lv' := [some (.ref o), some (.int (nI (k + 1)))]) 20 dX6_anew_20 rfl (nI_add _ 1) (by decide) rfl ?_
        refine J_goto (tgt := 2) 23 dX6_anew_23 (by decide) ?_
        exact ih_2_ (k + 1) (upd ar1 k 0) (by omega) (by first | assumption | omega | rfl) (by first | exact fZer_0 | exact fZer_s har)
  refine J_iconst (v := 0) 0 dX6_anew_0 rfl ?_
  refine J_istore_n (lv' := [some (.ref o), some (.int 0)]) 1 1 dX6_anew_1 rfl (by decide) rfl ?_
  exact cut_2_ ((nh - 0) + 1) 0 ar (Nat.lt_succ_self _) (by first | assumption | omega | rfl) (by first | exact fZer_0 | exact fZer_s har)
set_option maxRecDepth 100000 in
set_option maxHeartbeats 4000000 in
theorem c_X6_seed (l : Launch) (G : Gd) (v : Int32) (o : Nat) (rw : Nat) (fr : Nat) (kp : Nat) (tr : Nat) (ik : Int32) (tp : Nat) (tm : Nat) (mso : Int32) (bg : Nat) (en : Nat) (wd : Int64) (va : Int32) (gd : Int32) (rs : Nat) (mu : Nat) (rm : Nat) (ss : Nat) (msz : Nat) (msh : Nat) (mho : Nat) (mhn : Nat) (mhz : Nat) (kd : Int32) (nb : Int32) (tn : Int32) (tc : Nat) (bo : Nat) (ip : Int32) (la : Nat → Int32) (ns : Nat) (sd : Nat) (to : Nat → Int32) (he : Nat → Int32) (sw : Nat → Int32) (nh : Nat) (ki : Nat → Int32) (te : Nat → Int32) (mi : Nat → Int32) (ar : Nat → Int32) (z : Int32)  : Ct l G yX6_seed cX6_seed 2 (some (FieldType.int)) 1 [.ref o, .int v] (wF [wMo o rw fr kp tr ik tp tm mso bg en wd va gd rs mu rm ss msz msh mho mhn mhz kd nb tn tc bo ip, wMr G rw la ns sd to he sw nh ki te mi ar z]) (some (.int z)) (wF [wMo o rw fr kp tr ik tp tm mso bg en wd va gd rs mu rm ss msz msh mho mhn mhz kd nb tn tc bo ip, wMr G rw la ns sd to he sw nh ki te mi ar v]) := by
  refine Ct.of "GooseArmsModel" [some (.ref o), some (.int v)] (by decide +kernel) rfl (Nat.le_of_ble_eq_true rfl) rfl ?_
  refine J_aload_n 0 0 dX6_seed_0 rfl rfl ?_
  refine J_bipush (v := 7) 1 dX6_seed_1 rfl ?_
  refine J_iload_n 3 1 dX6_seed_3 rfl rfl ?_
  refine kb_RX6_180 (bs' := [wMo o rw fr kp tr ik tp tm mso bg en wd va gd rs mu rm ss msz msh mho mhn mhz kd nb tn tc bo ip, wMr G rw la ns sd to he sw nh ki te mi ar v]) (rest := []) (st' := [.int z]) 4 (c_X6_becomes_z l G v o rw fr kp tr ik tp tm mso bg en wd va gd rs mu rm ss msz msh mho mhn mhz kd nb tn tc bo ip la ns sd to he sw nh ki te mi ar z ) [0, 1] 0 rfl rfl rfl [[o], [rw]] rfl rfl rfl rfl rfl rfl (Nat.le_of_ble_eq_true rfl) rfl dX6_seed_4 ?_
  exact J_iret 7 dX6_seed_7 rfl rfl
set_option maxRecDepth 100000 in
set_option maxHeartbeats 4000000 in
theorem c_X6_draught_none (l : Launch) (G : Gd) (o : Nat) (rw : Nat) (fr : Nat) (kp : Nat) (tr : Nat) (ik : Int32) (tp : Nat) (tm : Nat) (mso : Int32) (bg : Nat) (en : Nat) (wd : Int64) (va : Int32) (gd : Int32) (rs : Nat) (mu : Nat) (rm : Nat) (ss : Nat) (msz : Nat) (msh : Nat) (mho : Nat) (mhn : Nat) (mhz : Nat) (kd : Int32) (nb : Int32) (tn : Int32) (tc : Nat) (bo : Nat) (ip : Int32) (la : Nat → Int32) (ns : Nat) (sd : Nat) (to : Nat → Int32) (he : Nat → Int32) (sw : Nat → Int32) (nh : Nat) (ki : Nat → Int32) (te : Nat → Int32) (mi : Nat → Int32) (ar : Nat → Int32) (z : Int32) (hnh : nh ≤ 8) (hns : ns ≤ 12) (hsd : sd ≤ ns) (hz : sd = ns) : Ct l G yX6_draught cX6_draught 1 (some (FieldType.int)) 4 [.ref o] (wF [wMo o rw fr kp tr ik tp tm mso bg en wd va gd rs mu rm ss msz msh mho mhn mhz kd nb tn tc bo ip, wMr G rw la ns sd to he sw nh ki te mi ar z]) (some (.int (-3))) (wF [wMo o rw fr kp tr ik tp tm mso bg en wd va gd rs mu rm ss msz msh mho mhn mhz kd nb tn tc bo ip, wMr G rw la ns sd to he sw nh ki te mi ar z]) := by
  refine Ct.of "GooseArmsModel" [some (.ref o)] (by decide +kernel) rfl (Nat.le_of_ble_eq_true rfl) rfl ?_
  refine J_aload_n 0 0 dX6_draught_0 rfl rfl ?_
  refine kb_RX6_209 (bs' := [wMo o rw fr kp tr ik tp tm mso bg en wd va gd rs mu rm ss msz msh mho mhn mhz kd nb tn tc bo ip, wMr G rw la ns sd to he sw nh ki te mi ar z]) (rest := []) (st' := [.int (nI (ns - sd))]) 1 (c_X6_leftMany l G o rw fr kp tr ik tp tm mso bg en wd va gd rs mu rm ss msz msh mho mhn mhz kd nb tn tc bo ip la ns sd to he sw nh ki te mi ar z (by first | omega | assumption)) [0, 1] 0 rfl rfl rfl [[o], [rw]] rfl rfl rfl rfl rfl rfl (Nat.le_of_ble_eq_true rfl) rfl dX6_draught_1 ?_
  refine J_if_ne (tgt := 12) 4 dX6_draught_4 (by decide) (fun c_1_ => ?_) (fun c_1_ => ?_)
  · skip
    have c_1_ : ¬ (ns - sd) = 0 := fun z_ => c_1_ ((nI_eq (a := (ns - sd)) (b := 0) (by omega) (by omega)).mpr z_)
    omega
  · skip
    have c_1_ : (ns - sd) = 0 := (nI_eq (a := (ns - sd)) (b := 0) (by omega) (by omega)).mp c_1_
    refine J_bipush (v := (-3)) 7 dX6_draught_7 rfl ?_
    refine J_goto (tgt := 16) 9 dX6_draught_9 (by decide) ?_
    exact J_iret 16 dX6_draught_16 rfl rfl
set_option maxRecDepth 100000 in
set_option maxHeartbeats 4000000 in
theorem c_X6_draught_ok (l : Launch) (G : Gd) (o : Nat) (rw : Nat) (fr : Nat) (kp : Nat) (tr : Nat) (ik : Int32) (tp : Nat) (tm : Nat) (mso : Int32) (bg : Nat) (en : Nat) (wd : Int64) (va : Int32) (gd : Int32) (rs : Nat) (mu : Nat) (rm : Nat) (ss : Nat) (msz : Nat) (msh : Nat) (mho : Nat) (mhn : Nat) (mhz : Nat) (kd : Int32) (nb : Int32) (tn : Int32) (tc : Nat) (bo : Nat) (ip : Int32) (la : Nat → Int32) (ns : Nat) (sd : Nat) (to : Nat → Int32) (he : Nat → Int32) (sw : Nat → Int32) (nh : Nat) (ki : Nat → Int32) (te : Nat → Int32) (mi : Nat → Int32) (ar : Nat → Int32) (z : Int32) (hnh : nh ≤ 8) (hns : ns ≤ 12) (hz : sd < ns) : Ct l G yX6_draught cX6_draught 1 (some (FieldType.int)) 4 [.ref o] (wF [wMo o rw fr kp tr ik tp tm mso bg en wd va gd rs mu rm ss msz msh mho mhn mhz kd nb tn tc bo ip, wMr G rw la ns sd to he sw nh ki te mi ar z]) (some (.int (fMask (fun h_ => nI h_ = fChi z (la 3) nh ∨ fUp la ki mi te to he sw sd h_) nh))) (wF [wMo o rw fr kp tr ik tp tm mso bg en wd va gd rs mu rm ss msz msh mho mhn mhz kd nb tn tc bo ip, wMr G rw la ns (sd + 1) to he sw nh ki (fSel (fun h_ => h_ < nh ∧ (fun h_ => nI h_ = fChi z (la 3) nh ∨ fUp la ki mi te to he sw sd h_) h_) (fun h_ => heldI (te h_ - fWears (ki h_) (la 2))) te) mi (fSel (fun h_ => h_ < nh ∧ (fun h_ => nI h_ = fChi z (la 3) nh ∨ fUp la ki mi te to he sw sd h_) h_) (fun h_ => ar h_ ||| onlyI (nI sd)) ar) (fZz z nh)]) := by
  refine Ct.of "GooseArmsModel" [some (.ref o)] (by decide +kernel) rfl (Nat.le_of_ble_eq_true rfl) rfl ?_
  refine J_aload_n 0 0 dX6_draught_0 rfl rfl ?_
  refine kb_RX6_209 (bs' := [wMo o rw fr kp tr ik tp tm mso bg en wd va gd rs mu rm ss msz msh mho mhn mhz kd nb tn tc bo ip, wMr G rw la ns sd to he sw nh ki te mi ar z]) (rest := []) (st' := [.int (nI (ns - sd))]) 1 (c_X6_leftMany l G o rw fr kp tr ik tp tm mso bg en wd va gd rs mu rm ss msz msh mho mhn mhz kd nb tn tc bo ip la ns sd to he sw nh ki te mi ar z (by first | omega | assumption)) [0, 1] 0 rfl rfl rfl [[o], [rw]] rfl rfl rfl rfl rfl rfl (Nat.le_of_ble_eq_true rfl) rfl dX6_draught_1 ?_
  refine J_if_ne (tgt := 12) 4 dX6_draught_4 (by decide) (fun c_1_ => ?_) (fun c_1_ => ?_)
  · skip
    have c_1_ : ¬ (ns - sd) = 0 := fun z_ => c_1_ ((nI_eq (a := (ns - sd)) (b := 0) (by omega) (by omega)).mpr z_)
    refine J_aload_n 12 0 dX6_draught_12 rfl rfl ?_
    refine kb_RX6_235 (bs' := [wMo o rw fr kp tr ik tp tm mso bg en wd va gd rs mu rm ss msz msh mho mhn mhz kd nb tn tc bo ip, wMr G rw la ns (sd + 1) to he sw nh ki (fSel (fun h_ => h_ < nh ∧ (fun h_ => nI h_ = fChi z (la 3) nh ∨ fUp la ki mi te to he sw sd h_) h_) (fun h_ => heldI (te h_ - fWears (ki h_) (la 2))) te) mi (fSel (fun h_ => h_ < nh ∧ (fun h_ => nI h_ = fChi z (la 3) nh ∨ fUp la ki mi te to he sw sd h_) h_) (fun h_ => ar h_ ||| onlyI (nI sd)) ar) (fZz z nh)]) (rest := []) (st' := [.int (fMask (fun h_ => nI h_ = fChi z (la 3) nh ∨ fUp la ki mi te to he sw sd h_) nh)]) 13 (c_X6_saidByDraws l G o rw fr kp tr ik tp tm mso bg en wd va gd rs mu rm ss msz msh mho mhn mhz kd nb tn tc bo ip la ns sd to he sw nh ki te mi ar z (by first | omega | assumption) (by first | omega | assumption) (by first | omega | assumption)) [0, 1] 0 rfl rfl rfl [[o], [rw]] rfl rfl rfl rfl rfl rfl (Nat.le_of_ble_eq_true rfl) rfl dX6_draught_13 ?_
    exact J_iret 16 dX6_draught_16 rfl rfl
  · skip
    have c_1_ : (ns - sd) = 0 := (nI_eq (a := (ns - sd)) (b := 0) (by omega) (by omega)).mp c_1_
    omega
set_option maxRecDepth 100000 in
set_option maxHeartbeats 4000000 in
theorem c_X6_isRow_t (l : Launch) (G : Gd) (i : Nat) (w : Nat) (o : Nat) (rw : Nat) (fr : Nat) (kp : Nat) (tr : Nat) (ik : Int32) (tp : Nat) (tm : Nat) (mso : Int32) (bg : Nat) (en : Nat) (wd : Int64) (va : Int32) (gd : Int32) (rs : Nat) (mu : Nat) (rm : Nat) (ss : Nat) (msz : Nat) (msh : Nat) (mho : Nat) (mhn : Nat) (mhz : Nat) (kd : Int32) (nb : Int32) (tn : Int32) (tc : Nat) (bo : Nat) (ip : Int32) (hi : i < rm) (hb : rm ≤ 10) (hw : w ≤ 2) : Ct l G yX6_isRow cX6_isRow 3 (some (FieldType.boolean)) 1 [.ref o, .int (nI i), .int (nI w)] (wF [wMo o rw fr kp tr ik tp tm mso bg en wd va gd rs mu rm ss msz msh mho mhn mhz kd nb tn tc bo ip]) (some (.int 1)) (wF [wMo o rw fr kp tr ik tp tm mso bg en wd va gd rs mu rm ss msz msh mho mhn mhz kd nb tn tc bo ip]) := by
  refine Ct.of "GooseArmsModel" [some (.ref o), some (.int (nI i)), some (.int (nI w))] (by decide +kernel) rfl (Nat.le_of_ble_eq_true rfl) rfl ?_
  refine J_iload_n 0 1 dX6_isRow_0 rfl rfl ?_
  refine J_iconst (v := 0) 1 dX6_isRow_1 rfl ?_
  refine J_aload_n 2 0 dX6_isRow_2 rfl rfl ?_
  refine g_804 (v := .int (nI rm)) 3 0 rfl rfl dX6_isRow_3 ?_
  refine J_iconst (v := 1) 6 dX6_isRow_6 rfl ?_
  refine J_isub 7 dX6_isRow_7 ?_
  refine kb_RX6_57 (bs' := [wMo o rw fr kp tr ik tp tm mso bg en wd va gd rs mu rm ss msz msh mho mhn mhz kd nb tn tc bo ip]) (rest := []) (st' := [.int 1]) 8 (c_X6_in_t l G (nI i) 0 ((nI rm) - 1) (inR_t hi (by omega))) [] rfl rfl [] rfl rfl rfl rfl rfl rfl (Nat.le_of_ble_eq_true rfl) rfl dX6_isRow_8 ?_
  refine J_if_eq (tgt := 27) 11 dX6_isRow_11 (by decide) (fun c_1_ => absurd c_1_ (by decide)) (fun _ => ?_)
  refine J_iload_n 14 2 dX6_isRow_14 rfl rfl ?_
  refine J_iconst (v := 0) 15 dX6_isRow_15 rfl ?_
  refine J_iconst (v := 2) 16 dX6_isRow_16 rfl ?_
  refine kb_RX6_57 (bs' := [wMo o rw fr kp tr ik tp tm mso bg en wd va gd rs mu rm ss msz msh mho mhn mhz kd nb tn tc bo ip]) (rest := []) (st' := [.int 1]) 17 (c_X6_in_t l G (nI w) 0 2 (inL_t (m := 2) hw (by decide))) [] rfl rfl [] rfl rfl rfl rfl rfl rfl (Nat.le_of_ble_eq_true rfl) rfl dX6_isRow_17 ?_
  refine J_if_eq (tgt := 27) 20 dX6_isRow_20 (by decide) (fun c_2_ => absurd c_2_ (by decide)) (fun _ => ?_)
  refine J_iconst (v := 1) 23 dX6_isRow_23 rfl ?_
  refine J_goto (tgt := 28) 24 dX6_isRow_24 (by decide) ?_
  exact J_zret 28 rfl dX6_isRow_28 rfl rfl
set_option maxRecDepth 100000 in
set_option maxHeartbeats 4000000 in
theorem c_X6_isRow_f (l : Launch) (G : Gd) (i : Int32) (w : Int32) (o : Nat) (rw : Nat) (fr : Nat) (kp : Nat) (tr : Nat) (ik : Int32) (tp : Nat) (tm : Nat) (mso : Int32) (bg : Nat) (en : Nat) (wd : Int64) (va : Int32) (gd : Int32) (rs : Nat) (mu : Nat) (rm : Nat) (ss : Nat) (msz : Nat) (msh : Nat) (mho : Nat) (mhn : Nat) (mhz : Nat) (kd : Int32) (nb : Int32) (tn : Int32) (tc : Nat) (bo : Nat) (ip : Int32) (hw : ¬ ((0 ≤ i ∧ i ≤ nI rm - 1) ∧ 0 ≤ w ∧ w ≤ 2)) : Ct l G yX6_isRow cX6_isRow 3 (some (FieldType.boolean)) 1 [.ref o, .int i, .int w] (wF [wMo o rw fr kp tr ik tp tm mso bg en wd va gd rs mu rm ss msz msh mho mhn mhz kd nb tn tc bo ip]) (some (.int 0)) (wF [wMo o rw fr kp tr ik tp tm mso bg en wd va gd rs mu rm ss msz msh mho mhn mhz kd nb tn tc bo ip]) := by
  refine Ct.of "GooseArmsModel" [some (.ref o), some (.int i), some (.int w)] (by decide +kernel) rfl (Nat.le_of_ble_eq_true rfl) rfl ?_
  refine J_iload_n 0 1 dX6_isRow_0 rfl rfl ?_
  refine J_iconst (v := 0) 1 dX6_isRow_1 rfl ?_
  refine J_aload_n 2 0 dX6_isRow_2 rfl rfl ?_
  refine g_804 (v := .int (nI rm)) 3 0 rfl rfl dX6_isRow_3 ?_
  refine J_iconst (v := 1) 6 dX6_isRow_6 rfl ?_
  refine J_isub 7 dX6_isRow_7 ?_
  refine kb_RX6_57 (bs' := [wMo o rw fr kp tr ik tp tm mso bg en wd va gd rs mu rm ss msz msh mho mhn mhz kd nb tn tc bo ip]) (rest := []) (st' := [.int (bI (0 ≤ i ∧ i ≤ ((nI rm) - 1)))]) 8 (c_X6_in l G i 0 ((nI rm) - 1) ) [] rfl rfl [] rfl rfl rfl rfl rfl rfl (Nat.le_of_ble_eq_true rfl) rfl dX6_isRow_8 ?_
  refine J_ifB_eq (tgt := 27) 11 dX6_isRow_11 (by decide) (fun c_1_ => ?_) (fun c_1_ => ?_)
  · skip
    refine J_iconst (v := 0) 27 dX6_isRow_27 rfl ?_
    exact J_zret 28 rfl dX6_isRow_28 rfl rfl
  · skip
    refine J_iload_n 14 2 dX6_isRow_14 rfl rfl ?_
    refine J_iconst (v := 0) 15 dX6_isRow_15 rfl ?_
    refine J_iconst (v := 2) 16 dX6_isRow_16 rfl ?_
    refine kb_RX6_57 (bs' := [wMo o rw fr kp tr ik tp tm mso bg en wd va gd rs mu rm ss msz msh mho mhn mhz kd nb tn tc bo ip]) (rest := []) (st' := [.int (bI (0 ≤ w ∧ w ≤ 2))]) 17 (c_X6_in l G w 0 2 ) [] rfl rfl [] rfl rfl rfl rfl rfl rfl (Nat.le_of_ble_eq_true rfl) rfl dX6_isRow_17 ?_
    refine J_ifB_eq (tgt := 27) 20 dX6_isRow_20 (by decide) (fun c_2_ => ?_) (fun c_2_ => ?_)
    · skip
      refine J_iconst (v := 0) 27 dX6_isRow_27 rfl ?_
      exact J_zret 28 rfl dX6_isRow_28 rfl rfl
    · skip
      exact absurd ⟨c_1_, c_2_⟩ hw
set_option maxRecDepth 100000 in
set_option maxHeartbeats 4000000 in
theorem c_X6_row_ok (l : Launch) (G : Gd) (i : Nat) (w : Nat) (o : Nat) (rw : Nat) (fr : Nat) (kp : Nat) (tr : Nat) (ik : Int32) (tp : Nat) (tm : Nat) (mso : Int32) (bg : Nat) (en : Nat) (wd : Int64) (va : Int32) (gd : Int32) (rs : Nat) (mu : Nat) (rm : Nat) (ss : Nat) (msz : Nat) (msh : Nat) (mho : Nat) (mhn : Nat) (mhz : Nat) (kd : Int32) (nb : Int32) (tn : Int32) (tc : Nat) (bo : Nat) (ip : Int32) (rf : Nat → Int32) (hi : i < rm) (hb : rm ≤ 10) (hw : w ≤ 2) : Ct l G yX6_row cX6_row 3 (some (FieldType.int)) 2 [.ref o, .int (nI i), .int (nI w)] (wF [wMo o rw fr kp tr ik tp tm mso bg en wd va gd rs mu rm ss msz msh mho mhn mhz kd nb tn tc bo ip, wI G rs 30 rf]) (some (.int (rf (i * 3 + w)))) (wF [wMo o rw fr kp tr ik tp tm mso bg en wd va gd rs mu rm ss msz msh mho mhn mhz kd nb tn tc bo ip, wI G rs 30 rf]) := by
  refine Ct.of "GooseArmsModel" [some (.ref o), some (.int (nI i)), some (.int (nI w))] (by decide +kernel) rfl (Nat.le_of_ble_eq_true rfl) rfl ?_
  refine J_aload_n 0 0 dX6_row_0 rfl rfl ?_
  refine J_iload_n 1 1 dX6_row_1 rfl rfl ?_
  refine J_iload_n 2 2 dX6_row_2 rfl rfl ?_
  refine kb_RX6_281 (bs' := [wMo o rw fr kp tr ik tp tm mso bg en wd va gd rs mu rm ss msz msh mho mhn mhz kd nb tn tc bo ip, wI G rs 30 rf]) (rest := []) (st' := [.int 1]) 3 (c_X6_isRow_t l G i w o rw fr kp tr ik tp tm mso bg en wd va gd rs mu rm ss msz msh mho mhn mhz kd nb tn tc bo ip (by first | omega | assumption) (by first | omega | assumption) (by first | omega | assumption)) [0] 0 rfl rfl rfl [[o]] rfl rfl rfl rfl rfl rfl (Nat.le_of_ble_eq_true rfl) rfl dX6_row_3 ?_
  refine J_if_eq (tgt := 22) 6 dX6_row_6 (by decide) (fun c_1_ => absurd c_1_ (by decide)) (fun _ => ?_)
  refine J_aload_n 9 0 dX6_row_9 rfl rfl ?_
  refine g_802 (v := .ref rs) 10 0 rfl rfl dX6_row_10 ?_
  refine J_iconst (v := 3) 13 dX6_row_13 rfl ?_
  refine J_iload_n 14 1 dX6_row_14 rfl rfl ?_
  refine J_imul 15 dX6_row_15 ?_
  refine J_topi (y := nI (3 * i)) 16 (pk_mul 3 i) ?_
  refine J_iload_n 16 2 dX6_row_16 rfl rfl ?_
  refine J_iadd 17 dX6_row_17 ?_
  refine J_topi (y := nI ((3 * i) + w)) 18 (nI_add (3 * i) w) ?_
  refine J_iald 18 1 (i * 3 + w) rfl (by rw [Nat.mul_comm]) (by omega) (by decide) dX6_row_18 ?_
  refine J_goto (tgt := 24) 19 dX6_row_19 (by decide) ?_
  exact J_iret 24 dX6_row_24 rfl rfl
set_option maxRecDepth 100000 in
set_option maxHeartbeats 4000000 in
theorem c_X6_row_bad (l : Launch) (G : Gd) (i : Int32) (w : Int32) (o : Nat) (rw : Nat) (fr : Nat) (kp : Nat) (tr : Nat) (ik : Int32) (tp : Nat) (tm : Nat) (mso : Int32) (bg : Nat) (en : Nat) (wd : Int64) (va : Int32) (gd : Int32) (rs : Nat) (mu : Nat) (rm : Nat) (ss : Nat) (msz : Nat) (msh : Nat) (mho : Nat) (mhn : Nat) (mhz : Nat) (kd : Int32) (nb : Int32) (tn : Int32) (tc : Nat) (bo : Nat) (ip : Int32) (hw : ¬ ((0 ≤ i ∧ i ≤ nI rm - 1) ∧ 0 ≤ w ∧ w ≤ 2)) : Ct l G yX6_row cX6_row 3 (some (FieldType.int)) 2 [.ref o, .int i, .int w] (wF [wMo o rw fr kp tr ik tp tm mso bg en wd va gd rs mu rm ss msz msh mho mhn mhz kd nb tn tc bo ip]) (some (.int (-9))) (wF [wMo o rw fr kp tr ik tp tm mso bg en wd va gd rs mu rm ss msz msh mho mhn mhz kd nb tn tc bo ip]) := by
  refine Ct.of "GooseArmsModel" [some (.ref o), some (.int i), some (.int w)] (by decide +kernel) rfl (Nat.le_of_ble_eq_true rfl) rfl ?_
  refine J_aload_n 0 0 dX6_row_0 rfl rfl ?_
  refine J_iload_n 1 1 dX6_row_1 rfl rfl ?_
  refine J_iload_n 2 2 dX6_row_2 rfl rfl ?_
  refine kb_RX6_281 (bs' := [wMo o rw fr kp tr ik tp tm mso bg en wd va gd rs mu rm ss msz msh mho mhn mhz kd nb tn tc bo ip]) (rest := []) (st' := [.int 0]) 3 (c_X6_isRow_f l G i w o rw fr kp tr ik tp tm mso bg en wd va gd rs mu rm ss msz msh mho mhn mhz kd nb tn tc bo ip (by first | omega | assumption)) [0] 0 rfl rfl rfl [[o]] rfl rfl rfl rfl rfl rfl (Nat.le_of_ble_eq_true rfl) rfl dX6_row_3 ?_
  refine J_if_eq (tgt := 22) 6 dX6_row_6 (by decide) (fun _ => ?_) (fun c_1_ => absurd c_1_ (by decide))
  refine J_bipush (v := (-9)) 22 dX6_row_22 rfl ?_
  exact J_iret 24 dX6_row_24 rfl rfl
set_option maxRecDepth 100000 in
set_option maxHeartbeats 4000000 in
theorem c_X6_alterRow_ok (l : Launch) (G : Gd) (i : Nat) (w : Nat) (v : Int32) (o : Nat) (rw : Nat) (fr : Nat) (kp : Nat) (tr : Nat) (ik : Int32) (tp : Nat) (tm : Nat) (mso : Int32) (bg : Nat) (en : Nat) (wd : Int64) (va : Int32) (gd : Int32) (rs : Nat) (mu : Nat) (rm : Nat) (ss : Nat) (msz : Nat) (msh : Nat) (mho : Nat) (mhn : Nat) (mhz : Nat) (kd : Int32) (nb : Int32) (tn : Int32) (tc : Nat) (bo : Nat) (ip : Int32) (rf : Nat → Int32) (hi : i < rm) (hb : rm ≤ 10) (hw : w ≤ 2) : Ct l G yX6_alterRow cX6_alterRow 5 (some (FieldType.int)) 2 [.ref o, .int (nI i), .int (nI w), .int v] (wF [wMo o rw fr kp tr ik tp tm mso bg en wd va gd rs mu rm ss msz msh mho mhn mhz kd nb tn tc bo ip, wI G rs 30 rf]) (some (.int (rf (i * 3 + w)))) (wF [wMo o rw fr kp tr ik tp tm mso bg en wd va gd rs mu rm ss msz msh mho mhn mhz kd nb tn tc bo ip, wI G rs 30 (upd rf (i * 3 + w) v)]) := by
  refine Ct.of "GooseArmsModel" [some (.ref o), some (.int (nI i)), some (.int (nI w)), some (.int v), none] (by decide +kernel) rfl (Nat.le_of_ble_eq_true rfl) rfl ?_
  refine J_aload_n 0 0 dX6_alterRow_0 rfl rfl ?_
  refine J_iload_n 1 1 dX6_alterRow_1 rfl rfl ?_
  refine J_iload_n 2 2 dX6_alterRow_2 rfl rfl ?_
  refine kb_RX6_281 (bs' := [wMo o rw fr kp tr ik tp tm mso bg en wd va gd rs mu rm ss msz msh mho mhn mhz kd nb tn tc bo ip, wI G rs 30 rf]) (rest := []) (st' := [.int 1]) 3 (c_X6_isRow_t l G i w o rw fr kp tr ik tp tm mso bg en wd va gd rs mu rm ss msz msh mho mhn mhz kd nb tn tc bo ip (by first | omega | assumption) (by first | omega | assumption) (by first | omega | assumption)) [0] 0 rfl rfl rfl [[o]] rfl rfl rfl rfl rfl rfl (Nat.le_of_ble_eq_true rfl) rfl dX6_alterRow_3 ?_
  refine J_if_ne (tgt := 12) 6 dX6_alterRow_6 (by decide) (fun _ => ?_) (fun c_1_ => absurd c_1_ (by decide))
  refine J_aload_n 12 0 dX6_alterRow_12 rfl rfl ?_
  refine g_802 (v := .ref rs) 13 0 rfl rfl dX6_alterRow_13 ?_
  refine J_iconst (v := 3) 16 dX6_alterRow_16 rfl ?_
  refine J_iload_n 17 1 dX6_alterRow_17 rfl rfl ?_
  refine J_imul 18 dX6_alterRow_18 ?_
  refine J_topi (y := nI (3 * i)) 19 (pk_mul 3 i) ?_
  refine J_iload_n 19 2 dX6_alterRow_19 rfl rfl ?_
  refine J_iadd 20 dX6_alterRow_20 ?_
  refine J_topi (y := nI ((3 * i) + w)) 21 (nI_add (3 * i) w) ?_
  refine J_iald 21 1 (i * 3 + w) rfl (by rw [Nat.mul_comm]) (by omega) (by decide) dX6_alterRow_21 ?_
  refine J_istore (lv' := [some (.ref o), some (.int (nI i)), some (.int (nI w)), some (.int v), some (.int (rf (i * 3 + w)))]) 22 dX6_alterRow_22 (by decide) rfl ?_
  refine J_aload_n 24 0 dX6_alterRow_24 rfl rfl ?_
  refine g_802 (v := .ref rs) 25 0 rfl rfl dX6_alterRow_25 ?_
  refine J_iconst (v := 3) 28 dX6_alterRow_28 rfl ?_
  refine J_iload_n 29 1 dX6_alterRow_29 rfl rfl ?_
  refine J_imul 30 dX6_alterRow_30 ?_
  refine J_topi (y := nI (3 * i)) 31 (pk_mul 3 i) ?_
  refine J_iload_n 31 2 dX6_alterRow_31 rfl rfl ?_
  refine J_iadd 32 dX6_alterRow_32 ?_
  refine J_topi (y := nI ((3 * i) + w)) 33 (nI_add (3 * i) w) ?_
  refine J_iload_n 33 3 dX6_alterRow_33 rfl rfl ?_
  refine J_iast (ws' := (wF [wMo o rw fr kp tr ik tp tm mso bg en wd va gd rs mu rm ss msz msh mho mhn mhz kd nb tn tc bo ip, wI G rs 30 (upd rf (i * 3 + w) v)])) 34 1 (i * 3 + w) rfl (by rw [Nat.mul_comm]) (by omega) (by decide) rfl dX6_alterRow_34 ?_
  refine J_iload 35 dX6_alterRow_35 rfl ?_
  exact J_iret 37 dX6_alterRow_37 rfl rfl
set_option maxRecDepth 100000 in
set_option maxHeartbeats 4000000 in
theorem c_X6_alterRow_bad (l : Launch) (G : Gd) (i : Int32) (w : Int32) (v : Int32) (o : Nat) (rw : Nat) (fr : Nat) (kp : Nat) (tr : Nat) (ik : Int32) (tp : Nat) (tm : Nat) (mso : Int32) (bg : Nat) (en : Nat) (wd : Int64) (va : Int32) (gd : Int32) (rs : Nat) (mu : Nat) (rm : Nat) (ss : Nat) (msz : Nat) (msh : Nat) (mho : Nat) (mhn : Nat) (mhz : Nat) (kd : Int32) (nb : Int32) (tn : Int32) (tc : Nat) (bo : Nat) (ip : Int32) (hw : ¬ ((0 ≤ i ∧ i ≤ nI rm - 1) ∧ 0 ≤ w ∧ w ≤ 2)) : Ct l G yX6_alterRow cX6_alterRow 5 (some (FieldType.int)) 2 [.ref o, .int i, .int w, .int v] (wF [wMo o rw fr kp tr ik tp tm mso bg en wd va gd rs mu rm ss msz msh mho mhn mhz kd nb tn tc bo ip]) (some (.int (-9))) (wF [wMo o rw fr kp tr ik tp tm mso bg en wd va gd rs mu rm ss msz msh mho mhn mhz kd nb tn tc bo ip]) := by
  refine Ct.of "GooseArmsModel" [some (.ref o), some (.int i), some (.int w), some (.int v), none] (by decide +kernel) rfl (Nat.le_of_ble_eq_true rfl) rfl ?_
  refine J_aload_n 0 0 dX6_alterRow_0 rfl rfl ?_
  refine J_iload_n 1 1 dX6_alterRow_1 rfl rfl ?_
  refine J_iload_n 2 2 dX6_alterRow_2 rfl rfl ?_
  refine kb_RX6_281 (bs' := [wMo o rw fr kp tr ik tp tm mso bg en wd va gd rs mu rm ss msz msh mho mhn mhz kd nb tn tc bo ip]) (rest := []) (st' := [.int 0]) 3 (c_X6_isRow_f l G i w o rw fr kp tr ik tp tm mso bg en wd va gd rs mu rm ss msz msh mho mhn mhz kd nb tn tc bo ip (by first | omega | assumption)) [0] 0 rfl rfl rfl [[o]] rfl rfl rfl rfl rfl rfl (Nat.le_of_ble_eq_true rfl) rfl dX6_alterRow_3 ?_
  refine J_if_ne (tgt := 12) 6 dX6_alterRow_6 (by decide) (fun c_1_ => absurd c_1_ (by decide)) (fun _ => ?_)
  refine J_bipush (v := (-9)) 9 dX6_alterRow_9 rfl ?_
  exact J_iret 11 dX6_alterRow_11 rfl rfl
set_option maxRecDepth 100000 in
set_option maxHeartbeats 4000000 in
theorem c_X6_trace_ok (l : Launch) (G : Gd) (i : Nat) (o : Nat) (rw : Nat) (fr : Nat) (kp : Nat) (tr : Nat) (ik : Int32) (tp : Nat) (tm : Nat) (mso : Int32) (bg : Nat) (en : Nat) (wd : Int64) (va : Int32) (gd : Int32) (rs : Nat) (mu : Nat) (rm : Nat) (ss : Nat) (msz : Nat) (msh : Nat) (mho : Nat) (mhn : Nat) (mhz : Nat) (kd : Int32) (nb : Int32) (tn : Int32) (tc : Nat) (bo : Nat) (ip : Int32) (tcf : Nat → Int32) (hi : i < bo) (hc : bo ≤ 30) : Ct l G yX6_trace cX6_trace 2 (some (FieldType.int)) 1 [.ref o, .int (nI i)] (wF [wMo o rw fr kp tr ik tp tm mso bg en wd va gd rs mu rm ss msz msh mho mhn mhz kd nb tn tc bo ip, wI G tc 30 tcf]) (some (.int (tcf i))) (wF [wMo o rw fr kp tr ik tp tm mso bg en wd va gd rs mu rm ss msz msh mho mhn mhz kd nb tn tc bo ip, wI G tc 30 tcf]) := by
  refine Ct.of "GooseArmsModel" [some (.ref o), some (.int (nI i))] (by decide +kernel) rfl (Nat.le_of_ble_eq_true rfl) rfl ?_
  refine J_iload_n 0 1 dX6_trace_0 rfl rfl ?_
  refine J_iconst (v := 0) 1 dX6_trace_1 rfl ?_
  refine J_aload_n 2 0 dX6_trace_2 rfl rfl ?_
  refine g_815 (v := .int (nI bo)) 3 0 rfl rfl dX6_trace_3 ?_
  refine J_iconst (v := 1) 6 dX6_trace_6 rfl ?_
  refine J_isub 7 dX6_trace_7 ?_
  refine kb_RX6_57 (bs' := [wMo o rw fr kp tr ik tp tm mso bg en wd va gd rs mu rm ss msz msh mho mhn mhz kd nb tn tc bo ip, wI G tc 30 tcf]) (rest := []) (st' := [.int 1]) 8 (c_X6_in_t l G (nI i) 0 ((nI bo) - 1) (inR_t hi (by omega))) [] rfl rfl [] rfl rfl rfl rfl rfl rfl (Nat.le_of_ble_eq_true rfl) rfl dX6_trace_8 ?_
  refine J_if_eq (tgt := 23) 11 dX6_trace_11 (by decide) (fun c_1_ => absurd c_1_ (by decide)) (fun _ => ?_)
  refine J_aload_n 14 0 dX6_trace_14 rfl rfl ?_
  refine g_814 (v := .ref tc) 15 0 rfl rfl dX6_trace_15 ?_
  refine J_iload_n 18 1 dX6_trace_18 rfl rfl ?_
  refine J_iald 19 1 i rfl rfl (by omega) (by decide) dX6_trace_19 ?_
  refine J_goto (tgt := 25) 20 dX6_trace_20 (by decide) ?_
  exact J_iret 25 dX6_trace_25 rfl rfl
set_option maxRecDepth 100000 in
set_option maxHeartbeats 4000000 in
theorem c_X6_trace_bad (l : Launch) (G : Gd) (i : Int32) (o : Nat) (rw : Nat) (fr : Nat) (kp : Nat) (tr : Nat) (ik : Int32) (tp : Nat) (tm : Nat) (mso : Int32) (bg : Nat) (en : Nat) (wd : Int64) (va : Int32) (gd : Int32) (rs : Nat) (mu : Nat) (rm : Nat) (ss : Nat) (msz : Nat) (msh : Nat) (mho : Nat) (mhn : Nat) (mhz : Nat) (kd : Int32) (nb : Int32) (tn : Int32) (tc : Nat) (bo : Nat) (ip : Int32) (hw : ¬ (0 ≤ i ∧ i ≤ nI bo - 1)) : Ct l G yX6_trace cX6_trace 2 (some (FieldType.int)) 1 [.ref o, .int i] (wF [wMo o rw fr kp tr ik tp tm mso bg en wd va gd rs mu rm ss msz msh mho mhn mhz kd nb tn tc bo ip]) (some (.int (-3))) (wF [wMo o rw fr kp tr ik tp tm mso bg en wd va gd rs mu rm ss msz msh mho mhn mhz kd nb tn tc bo ip]) := by
  refine Ct.of "GooseArmsModel" [some (.ref o), some (.int i)] (by decide +kernel) rfl (Nat.le_of_ble_eq_true rfl) rfl ?_
  refine J_iload_n 0 1 dX6_trace_0 rfl rfl ?_
  refine J_iconst (v := 0) 1 dX6_trace_1 rfl ?_
  refine J_aload_n 2 0 dX6_trace_2 rfl rfl ?_
  refine g_815 (v := .int (nI bo)) 3 0 rfl rfl dX6_trace_3 ?_
  refine J_iconst (v := 1) 6 dX6_trace_6 rfl ?_
  refine J_isub 7 dX6_trace_7 ?_
  refine kb_RX6_57 (bs' := [wMo o rw fr kp tr ik tp tm mso bg en wd va gd rs mu rm ss msz msh mho mhn mhz kd nb tn tc bo ip]) (rest := []) (st' := [.int 0]) 8 (c_X6_in_f l G i 0 ((nI bo) - 1) hw) [] rfl rfl [] rfl rfl rfl rfl rfl rfl (Nat.le_of_ble_eq_true rfl) rfl dX6_trace_8 ?_
  refine J_if_eq (tgt := 23) 11 dX6_trace_11 (by decide) (fun _ => ?_) (fun c_1_ => absurd c_1_ (by decide))
  refine J_bipush (v := (-3)) 23 dX6_trace_23 rfl ?_
  exact J_iret 25 dX6_trace_25 rfl rfl
set_option maxRecDepth 100000 in
set_option maxHeartbeats 4000000 in
theorem c_X6_many_0 (l : Launch) (G : Gd) (o : Nat) (rw : Nat) (fr : Nat) (kp : Nat) (tr : Nat) (ik : Int32) (tp : Nat) (tm : Nat) (mso : Int32) (bg : Nat) (en : Nat) (wd : Int64) (va : Int32) (gd : Int32) (rs : Nat) (mu : Nat) (rm : Nat) (ss : Nat) (msz : Nat) (msh : Nat) (mho : Nat) (mhn : Nat) (mhz : Nat) (kd : Int32) (nb : Int32) (tn : Int32) (tc : Nat) (bo : Nat) (ip : Int32) (la : Nat → Int32) (ns : Nat) (sd : Nat) (to : Nat → Int32) (he : Nat → Int32) (sw : Nat → Int32) (nh : Nat) (ki : Nat → Int32) (te : Nat → Int32) (mi : Nat → Int32) (ar : Nat → Int32) (z : Int32)  : Ct l G yX6_many cX6_many 2 (some (FieldType.int)) 2 [.ref o, .int 0] (wF [wMo o rw fr kp tr ik tp tm mso bg en wd va gd rs mu rm ss msz msh mho mhn mhz kd nb tn tc bo ip, wMr G rw la ns sd to he sw nh ki te mi ar z]) (some (.int (nI nh))) (wF [wMo o rw fr kp tr ik tp tm mso bg en wd va gd rs mu rm ss msz msh mho mhn mhz kd nb tn tc bo ip, wMr G rw la ns sd to he sw nh ki te mi ar z]) := by
  refine Ct.of "GooseArmsModel" [some (.ref o), some (.int 0)] (by decide +kernel) rfl (Nat.le_of_ble_eq_true rfl) rfl ?_
  refine J_iload_n 0 1 dX6_many_0 rfl rfl ?_
  refine J_tableIn (tgt := 44) (off := 43) 1 0 dX6_many_1 rfl (by decide +kernel) (by decide) ?_
  refine J_aload_n 44 0 dX6_many_44 rfl rfl ?_
  refine g_789 (v := .ref rw) 45 0 rfl rfl dX6_many_45 ?_
  refine J_bipush (v := 6) 48 dX6_many_48 rfl ?_
  refine J_iald 50 1 6 rfl rfl (by omega) (by decide) dX6_many_50 ?_
  refine J_topi (y := nI nh) 51 (fR_nh rfl) ?_
  exact J_iret 51 dX6_many_51 rfl rfl
set_option maxRecDepth 100000 in
set_option maxHeartbeats 4000000 in
theorem c_X6_many_1 (l : Launch) (G : Gd) (o : Nat) (rw : Nat) (fr : Nat) (kp : Nat) (tr : Nat) (ik : Int32) (tp : Nat) (tm : Nat) (mso : Int32) (bg : Nat) (en : Nat) (wd : Int64) (va : Int32) (gd : Int32) (rs : Nat) (mu : Nat) (rm : Nat) (ss : Nat) (msz : Nat) (msh : Nat) (mho : Nat) (mhn : Nat) (mhz : Nat) (kd : Int32) (nb : Int32) (tn : Int32) (tc : Nat) (bo : Nat) (ip : Int32) (la : Nat → Int32) (ns : Nat) (sd : Nat) (to : Nat → Int32) (he : Nat → Int32) (sw : Nat → Int32) (nh : Nat) (ki : Nat → Int32) (te : Nat → Int32) (mi : Nat → Int32) (ar : Nat → Int32) (z : Int32) (hsd : sd ≤ ns) : Ct l G yX6_many cX6_many 2 (some (FieldType.int)) 2 [.ref o, .int 1] (wF [wMo o rw fr kp tr ik tp tm mso bg en wd va gd rs mu rm ss msz msh mho mhn mhz kd nb tn tc bo ip, wMr G rw la ns sd to he sw nh ki te mi ar z]) (some (.int (nI (ns - sd)))) (wF [wMo o rw fr kp tr ik tp tm mso bg en wd va gd rs mu rm ss msz msh mho mhn mhz kd nb tn tc bo ip, wMr G rw la ns sd to he sw nh ki te mi ar z]) := by
  refine Ct.of "GooseArmsModel" [some (.ref o), some (.int 1)] (by decide +kernel) rfl (Nat.le_of_ble_eq_true rfl) rfl ?_
  refine J_iload_n 0 1 dX6_many_0 rfl rfl ?_
  refine J_tableIn (tgt := 52) (off := 51) 1 1 dX6_many_1 rfl (by decide +kernel) (by decide) ?_
  refine J_aload_n 52 0 dX6_many_52 rfl rfl ?_
  refine kb_RX6_209 (bs' := [wMo o rw fr kp tr ik tp tm mso bg en wd va gd rs mu rm ss msz msh mho mhn mhz kd nb tn tc bo ip, wMr G rw la ns sd to he sw nh ki te mi ar z]) (rest := []) (st' := [.int (nI (ns - sd))]) 53 (c_X6_leftMany l G o rw fr kp tr ik tp tm mso bg en wd va gd rs mu rm ss msz msh mho mhn mhz kd nb tn tc bo ip la ns sd to he sw nh ki te mi ar z (by first | omega | assumption)) [0, 1] 0 rfl rfl rfl [[o], [rw]] rfl rfl rfl rfl rfl rfl (Nat.le_of_ble_eq_true rfl) rfl dX6_many_53 ?_
  exact J_iret 56 dX6_many_56 rfl rfl
set_option maxRecDepth 100000 in
set_option maxHeartbeats 4000000 in
theorem c_X6_many_2 (l : Launch) (G : Gd) (o : Nat) (rw : Nat) (fr : Nat) (kp : Nat) (tr : Nat) (ik : Int32) (tp : Nat) (tm : Nat) (mso : Int32) (bg : Nat) (en : Nat) (wd : Int64) (va : Int32) (gd : Int32) (rs : Nat) (mu : Nat) (rm : Nat) (ss : Nat) (msz : Nat) (msh : Nat) (mho : Nat) (mhn : Nat) (mhz : Nat) (kd : Int32) (nb : Int32) (tn : Int32) (tc : Nat) (bo : Nat) (ip : Int32) (la : Nat → Int32) (ns : Nat) (sd : Nat) (to : Nat → Int32) (he : Nat → Int32) (sw : Nat → Int32) (nh : Nat) (ki : Nat → Int32) (te : Nat → Int32) (mi : Nat → Int32) (ar : Nat → Int32) (z : Int32) (hns : ns ≤ 12) (hb : ∀ s_, s_ < ns → (sw s_ = 0 ∨ sw s_ = 1)) : Ct l G yX6_many cX6_many 2 (some (FieldType.int)) 2 [.ref o, .int 2] (wF [wMo o rw fr kp tr ik tp tm mso bg en wd va gd rs mu rm ss msz msh mho mhn mhz kd nb tn tc bo ip, wMr G rw la ns sd to he sw nh ki te mi ar z]) (some (.int (fBC (fMask (fun s_ => sw s_ = 1) ns)))) (wF [wMo o rw fr kp tr ik tp tm mso bg en wd va gd rs mu rm ss msz msh mho mhn mhz kd nb tn tc bo ip, wMr G rw la ns sd to he sw nh ki te mi ar z]) := by
  refine Ct.of "GooseArmsModel" [some (.ref o), some (.int 2)] (by decide +kernel) rfl (Nat.le_of_ble_eq_true rfl) rfl ?_
  refine J_iload_n 0 1 dX6_many_0 rfl rfl ?_
  refine J_tableIn (tgt := 57) (off := 56) 1 2 dX6_many_1 rfl (by decide +kernel) (by decide) ?_
  refine J_aload_n 57 0 dX6_many_57 rfl rfl ?_
  refine kb_RX6_241 (bs' := [wMo o rw fr kp tr ik tp tm mso bg en wd va gd rs mu rm ss msz msh mho mhn mhz kd nb tn tc bo ip, wMr G rw la ns sd to he sw nh ki te mi ar z]) (rest := []) (st' := [.int (fMask (fun s_ => sw s_ = 1) ns)]) 58 (c_X6_soSet l G o rw fr kp tr ik tp tm mso bg en wd va gd rs mu rm ss msz msh mho mhn mhz kd nb tn tc bo ip la ns sd to he sw nh ki te mi ar z (by first | omega | assumption) (by first | omega | assumption)) [0, 1] 0 rfl rfl rfl [[o], [rw]] rfl rfl rfl rfl rfl rfl (Nat.le_of_ble_eq_true rfl) rfl dX6_many_58 ?_
  refine kb_RX6_238 (bs' := [wMo o rw fr kp tr ik tp tm mso bg en wd va gd rs mu rm ss msz msh mho mhn mhz kd nb tn tc bo ip, wMr G rw la ns sd to he sw nh ki te mi ar z]) (rest := []) (st' := [.int (fBC (fMask (fun s_ => sw s_ = 1) ns))]) 61 (c_X6_ones l G (fMask (fun s_ => sw s_ = 1) ns) (lo_ex (lo_mask (by omega)))) [] rfl rfl [] rfl rfl rfl rfl rfl rfl (Nat.le_of_ble_eq_true rfl) rfl dX6_many_61 ?_
  exact J_iret 64 dX6_many_64 rfl rfl
set_option maxRecDepth 100000 in
set_option maxHeartbeats 4000000 in
theorem c_X6_many_3 (l : Launch) (G : Gd) (o : Nat) (rw : Nat) (fr : Nat) (kp : Nat) (tr : Nat) (ik : Int32) (tp : Nat) (tm : Nat) (mso : Int32) (bg : Nat) (en : Nat) (wd : Int64) (va : Int32) (gd : Int32) (rs : Nat) (mu : Nat) (rm : Nat) (ss : Nat) (msz : Nat) (msh : Nat) (mho : Nat) (mhn : Nat) (mhz : Nat) (kd : Int32) (nb : Int32) (tn : Int32) (tc : Nat) (bo : Nat) (ip : Int32) (la : Nat → Int32) (ns : Nat) (sd : Nat) (to : Nat → Int32) (he : Nat → Int32) (sw : Nat → Int32) (nh : Nat) (ki : Nat → Int32) (te : Nat → Int32) (mi : Nat → Int32) (ar : Nat → Int32) (z : Int32) (hnh : nh ≤ 8) : Ct l G yX6_many cX6_many 2 (some (FieldType.int)) 2 [.ref o, .int 3] (wF [wMo o rw fr kp tr ik tp tm mso bg en wd va gd rs mu rm ss msz msh mho mhn mhz kd nb tn tc bo ip, wMr G rw la ns sd to he sw nh ki te mi ar z]) (some (.int (fBC (fMask (fun h_ => ¬ ar h_ = 0) nh)))) (wF [wMo o rw fr kp tr ik tp tm mso bg en wd va gd rs mu rm ss msz msh mho mhn mhz kd nb tn tc bo ip, wMr G rw la ns sd to he sw nh ki te mi ar z]) := by
  refine Ct.of "GooseArmsModel" [some (.ref o), some (.int 3)] (by decide +kernel) rfl (Nat.le_of_ble_eq_true rfl) rfl ?_
  refine J_iload_n 0 1 dX6_many_0 rfl rfl ?_
  refine J_tableIn (tgt := 65) (off := 64) 1 3 dX6_many_1 rfl (by decide +kernel) (by decide) ?_
  refine J_aload_n 65 0 dX6_many_65 rfl rfl ?_
  refine kb_RX6_247 (bs' := [wMo o rw fr kp tr ik tp tm mso bg en wd va gd rs mu rm ss msz msh mho mhn mhz kd nb tn tc bo ip, wMr G rw la ns sd to he sw nh ki te mi ar z]) (rest := []) (st' := [.int (fMask (fun h_ => ¬ ar h_ = 0) nh)]) 66 (c_X6_roughSet l G o rw fr kp tr ik tp tm mso bg en wd va gd rs mu rm ss msz msh mho mhn mhz kd nb tn tc bo ip la ns sd to he sw nh ki te mi ar z (by first | omega | assumption)) [0, 1] 0 rfl rfl rfl [[o], [rw]] rfl rfl rfl rfl rfl rfl (Nat.le_of_ble_eq_true rfl) rfl dX6_many_66 ?_
  refine kb_RX6_238 (bs' := [wMo o rw fr kp tr ik tp tm mso bg en wd va gd rs mu rm ss msz msh mho mhn mhz kd nb tn tc bo ip, wMr G rw la ns sd to he sw nh ki te mi ar z]) (rest := []) (st' := [.int (fBC (fMask (fun h_ => ¬ ar h_ = 0) nh))]) 69 (c_X6_ones l G (fMask (fun h_ => ¬ ar h_ = 0) nh) (lo_ex (lo_mask (by omega)))) [] rfl rfl [] rfl rfl rfl rfl rfl rfl (Nat.le_of_ble_eq_true rfl) rfl dX6_many_69 ?_
  exact J_iret 72 dX6_many_72 rfl rfl
set_option maxRecDepth 100000 in
set_option maxHeartbeats 4000000 in
theorem c_X6_many_4 (l : Launch) (G : Gd) (o : Nat) (rw : Nat) (fr : Nat) (kp : Nat) (tr : Nat) (ik : Int32) (tp : Nat) (tm : Nat) (mso : Int32) (bg : Nat) (en : Nat) (wd : Int64) (va : Int32) (gd : Int32) (rs : Nat) (mu : Nat) (rm : Nat) (ss : Nat) (msz : Nat) (msh : Nat) (mho : Nat) (mhn : Nat) (mhz : Nat) (kd : Int32) (nb : Int32) (tn : Int32) (tc : Nat) (bo : Nat) (ip : Int32)  : Ct l G yX6_many cX6_many 2 (some (FieldType.int)) 2 [.ref o, .int 4] (wF [wMo o rw fr kp tr ik tp tm mso bg en wd va gd rs mu rm ss msz msh mho mhn mhz kd nb tn tc bo ip]) (some (.int (nI rm))) (wF [wMo o rw fr kp tr ik tp tm mso bg en wd va gd rs mu rm ss msz msh mho mhn mhz kd nb tn tc bo ip]) := by
  refine Ct.of "GooseArmsModel" [some (.ref o), some (.int 4)] (by decide +kernel) rfl (Nat.le_of_ble_eq_true rfl) rfl ?_
  refine J_iload_n 0 1 dX6_many_0 rfl rfl ?_
  refine J_tableIn (tgt := 73) (off := 72) 1 4 dX6_many_1 rfl (by decide +kernel) (by decide) ?_
  refine J_aload_n 73 0 dX6_many_73 rfl rfl ?_
  refine g_804 (v := .int (nI rm)) 74 0 rfl rfl dX6_many_74 ?_
  exact J_iret 77 dX6_many_77 rfl rfl
set_option maxRecDepth 100000 in
set_option maxHeartbeats 4000000 in
theorem c_X6_many_5 (l : Launch) (G : Gd) (o : Nat) (rw : Nat) (fr : Nat) (kp : Nat) (tr : Nat) (ik : Int32) (tp : Nat) (tm : Nat) (mso : Int32) (bg : Nat) (en : Nat) (wd : Int64) (va : Int32) (gd : Int32) (rs : Nat) (mu : Nat) (rm : Nat) (ss : Nat) (msz : Nat) (msh : Nat) (mho : Nat) (mhn : Nat) (mhz : Nat) (kd : Int32) (nb : Int32) (tn : Int32) (tc : Nat) (bo : Nat) (ip : Int32)  : Ct l G yX6_many cX6_many 2 (some (FieldType.int)) 2 [.ref o, .int 5] (wF [wMo o rw fr kp tr ik tp tm mso bg en wd va gd rs mu rm ss msz msh mho mhn mhz kd nb tn tc bo ip]) (some (.int (nI tm))) (wF [wMo o rw fr kp tr ik tp tm mso bg en wd va gd rs mu rm ss msz msh mho mhn mhz kd nb tn tc bo ip]) := by
  refine Ct.of "GooseArmsModel" [some (.ref o), some (.int 5)] (by decide +kernel) rfl (Nat.le_of_ble_eq_true rfl) rfl ?_
  refine J_iload_n 0 1 dX6_many_0 rfl rfl ?_
  refine J_tableIn (tgt := 78) (off := 77) 1 5 dX6_many_1 rfl (by decide +kernel) (by decide) ?_
  refine J_aload_n 78 0 dX6_many_78 rfl rfl ?_
  refine g_795 (v := .int (nI tm)) 79 0 rfl rfl dX6_many_79 ?_
  exact J_iret 82 dX6_many_82 rfl rfl
set_option maxRecDepth 100000 in
set_option maxHeartbeats 4000000 in
theorem c_X6_many_6 (l : Launch) (G : Gd) (o : Nat) (rw : Nat) (fr : Nat) (kp : Nat) (tr : Nat) (ik : Int32) (tp : Nat) (tm : Nat) (mso : Int32) (bg : Nat) (en : Nat) (wd : Int64) (va : Int32) (gd : Int32) (rs : Nat) (mu : Nat) (rm : Nat) (ss : Nat) (msz : Nat) (msh : Nat) (mho : Nat) (mhn : Nat) (mhz : Nat) (kd : Int32) (nb : Int32) (tn : Int32) (tc : Nat) (bo : Nat) (ip : Int32)  : Ct l G yX6_many cX6_many 2 (some (FieldType.int)) 2 [.ref o, .int 6] (wF [wMo o rw fr kp tr ik tp tm mso bg en wd va gd rs mu rm ss msz msh mho mhn mhz kd nb tn tc bo ip]) (some (.int (nI bo))) (wF [wMo o rw fr kp tr ik tp tm mso bg en wd va gd rs mu rm ss msz msh mho mhn mhz kd nb tn tc bo ip]) := by
  refine Ct.of "GooseArmsModel" [some (.ref o), some (.int 6)] (by decide +kernel) rfl (Nat.le_of_ble_eq_true rfl) rfl ?_
  refine J_iload_n 0 1 dX6_many_0 rfl rfl ?_
  refine J_tableIn (tgt := 83) (off := 82) 1 6 dX6_many_1 rfl (by decide +kernel) (by decide) ?_
  refine J_aload_n 83 0 dX6_many_83 rfl rfl ?_
  refine g_815 (v := .int (nI bo)) 84 0 rfl rfl dX6_many_84 ?_
  exact J_iret 87 dX6_many_87 rfl rfl
set_option maxRecDepth 100000 in
set_option maxHeartbeats 4000000 in
theorem c_X6_many_badw (l : Launch) (G : Gd) (w : Int32) (o : Nat) (rw : Nat) (fr : Nat) (kp : Nat) (tr : Nat) (ik : Int32) (tp : Nat) (tm : Nat) (mso : Int32) (bg : Nat) (en : Nat) (wd : Int64) (va : Int32) (gd : Int32) (rs : Nat) (mu : Nat) (rm : Nat) (ss : Nat) (msz : Nat) (msh : Nat) (mho : Nat) (mhn : Nat) (mhz : Nat) (kd : Int32) (nb : Int32) (tn : Int32) (tc : Nat) (bo : Nat) (ip : Int32) (hw : ¬ (0 ≤ w ∧ w ≤ 6)) : Ct l G yX6_many cX6_many 2 (some (FieldType.int)) 2 [.ref o, .int w] (wF [wMo o rw fr kp tr ik tp tm mso bg en wd va gd rs mu rm ss msz msh mho mhn mhz kd nb tn tc bo ip]) (some (.int (-1))) (wF [wMo o rw fr kp tr ik tp tm mso bg en wd va gd rs mu rm ss msz msh mho mhn mhz kd nb tn tc bo ip]) := by
  refine Ct.of "GooseArmsModel" [some (.ref o), some (.int w)] (by decide +kernel) rfl (Nat.le_of_ble_eq_true rfl) rfl ?_
  refine J_iload_n 0 1 dX6_many_0 rfl rfl ?_
  by_cases e_1_ : w = 0
  · skip
    exact (hw (by rw [e_1_]; decide)).elim
  by_cases e_2_ : w = 1
  · skip
    exact (hw (by rw [e_2_]; decide)).elim
  by_cases e_3_ : w = 2
  · skip
    exact (hw (by rw [e_3_]; decide)).elim
  by_cases e_4_ : w = 3
  · skip
    exact (hw (by rw [e_4_]; decide)).elim
  by_cases e_5_ : w = 4
  · skip
    exact (hw (by rw [e_5_]; decide)).elim
  by_cases e_6_ : w = 5
  · skip
    exact (hw (by rw [e_6_]; decide)).elim
  by_cases e_7_ : w = 6
  · skip
    exact (hw (by rw [e_7_]; decide)).elim
  refine J_tableOut (tgt := 88) 1 dX6_many_1 (by have q0_ := lv_neT (a := 0) e_1_ (by decide); have q1_ := lv_neT (a := 1) e_2_ (by decide); have q2_ := lv_neT (a := 2) e_3_ (by decide); have q3_ := lv_neT (a := 3) e_4_ (by decide); have q4_ := lv_neT (a := 4) e_5_ (by decide); have q5_ := lv_neT (a := 5) e_6_ (by decide); have q6_ := lv_neT (a := 6) e_7_ (by decide); omega) (by decide) ?_
  refine J_iconst (v := (-1)) 88 dX6_many_88 rfl ?_
  exact J_iret 89 dX6_many_89 rfl rfl
set_option maxRecDepth 100000 in
set_option maxHeartbeats 4000000 in
theorem c_X6_keep (l : Launch) (G : Gd) (o : Nat) (rw : Nat) (fr : Nat) (kp : Nat) (tr : Nat) (ik : Int32) (tp : Nat) (tm : Nat) (mso : Int32) (bg : Nat) (en : Nat) (wd : Int64) (va : Int32) (gd : Int32) (rs : Nat) (mu : Nat) (rm : Nat) (ss : Nat) (msz : Nat) (msh : Nat) (mho : Nat) (mhn : Nat) (mhz : Nat) (kd : Int32) (nb : Int32) (tn : Int32) (tc : Nat) (bo : Nat) (ip : Int32) (la : Nat → Int32) (ns : Nat) (sd : Nat) (to : Nat → Int32) (he : Nat → Int32) (sw : Nat → Int32) (nh : Nat) (ki : Nat → Int32) (te : Nat → Int32) (mi : Nat → Int32) (ar : Nat → Int32) (z : Int32) (k_la : Nat → Int32) (k_ns : Nat) (k_sd : Nat) (k_to : Nat → Int32) (k_he : Nat → Int32) (k_sw : Nat → Int32) (k_nh : Nat) (k_ki : Nat → Int32) (k_te : Nat → Int32) (k_mi : Nat → Int32) (k_ar : Nat → Int32) (k_z : Int32)  : Ct l G yX6_keep cX6_keep 1 (some (FieldType.int)) 1 [.ref o] (wF [wMo o rw fr kp tr ik tp tm mso bg en wd va gd rs mu rm ss msz msh mho mhn mhz kd nb tn tc bo ip, wMr G rw la ns sd to he sw nh ki te mi ar z, wMr G kp k_la k_ns k_sd k_to k_he k_sw k_nh k_ki k_te k_mi k_ar k_z]) (some (.int 1)) (wF [wMo o rw fr kp tr 1 tp tm mso bg en wd va gd rs mu rm ss msz msh mho mhn mhz kd nb tn tc bo ip, wMr G rw la ns sd to he sw nh ki te mi ar z, wMr G kp la ns sd to he sw nh ki te mi ar z]) := by
  refine Ct.of "GooseArmsModel" [some (.ref o)] (by decide +kernel) rfl (Nat.le_of_ble_eq_true rfl) rfl ?_
  refine J_aload_n 0 0 dX6_keep_0 rfl rfl ?_
  refine g_789 (v := .ref rw) 1 0 rfl rfl dX6_keep_1 ?_
  refine J_aload_n 4 0 dX6_keep_4 rfl rfl ?_
  refine g_791 (v := .ref kp) 5 0 rfl rfl dX6_keep_5 ?_
  refine kb_RX6_173 (bs' := [wMo o rw fr kp tr ik tp tm mso bg en wd va gd rs mu rm ss msz msh mho mhn mhz kd nb tn tc bo ip, wMr G rw la ns sd to he sw nh ki te mi ar z, wMr G kp la ns sd to he sw nh ki te mi ar z]) (rest := []) (st' := []) 8 (c_X6_moveAll_r l G rw la ns sd to he sw nh ki te mi ar z kp k_la k_ns k_sd k_to k_he k_sw k_nh k_ki k_te k_mi k_ar k_z ) [1, 2] rfl rfl [[rw], [kp]] rfl rfl rfl rfl rfl rfl (Nat.le_of_ble_eq_true rfl) rfl dX6_keep_8 ?_
  refine J_aload_n 11 0 dX6_keep_11 rfl rfl ?_
  refine J_iconst (v := 1) 12 dX6_keep_12 rfl ?_
  refine p_793 (ws' := (wF [wMo o rw fr kp tr 1 tp tm mso bg en wd va gd rs mu rm ss msz msh mho mhn mhz kd nb tn tc bo ip, wMr G rw la ns sd to he sw nh ki te mi ar z, wMr G kp la ns sd to he sw nh ki te mi ar z])) 13 0 rfl rfl rfl (Nat.le_of_ble_eq_true rfl) rfl dX6_keep_13 ?_
  refine J_iconst (v := 1) 16 dX6_keep_16 rfl ?_
  exact J_iret 17 dX6_keep_17 rfl rfl
set_option maxRecDepth 100000 in
set_option maxHeartbeats 4000000 in
theorem c_X6_again_none (l : Launch) (G : Gd) (o : Nat) (rw : Nat) (fr : Nat) (kp : Nat) (tr : Nat) (tp : Nat) (tm : Nat) (mso : Int32) (bg : Nat) (en : Nat) (wd : Int64) (va : Int32) (gd : Int32) (rs : Nat) (mu : Nat) (rm : Nat) (ss : Nat) (msz : Nat) (msh : Nat) (mho : Nat) (mhn : Nat) (mhz : Nat) (kd : Int32) (nb : Int32) (tn : Int32) (tc : Nat) (bo : Nat) (ip : Int32)  : Ct l G yX6_again cX6_again 1 (some (FieldType.int)) 1 [.ref o] (wF [wMo o rw fr kp tr 0 tp tm mso bg en wd va gd rs mu rm ss msz msh mho mhn mhz kd nb tn tc bo ip]) (some (.int (-3))) (wF [wMo o rw fr kp tr 0 tp tm mso bg en wd va gd rs mu rm ss msz msh mho mhn mhz kd nb tn tc bo ip]) := by
  refine Ct.of "GooseArmsModel" [some (.ref o)] (by decide +kernel) rfl (Nat.le_of_ble_eq_true rfl) rfl ?_
  refine J_aload_n 0 0 dX6_again_0 rfl rfl ?_
  refine g_793 (v := .int 0) 1 0 rfl rfl dX6_again_1 ?_
  refine J_if_ne (tgt := 10) 4 dX6_again_4 (by decide) (fun c_1_ => absurd c_1_ (by decide)) (fun _ => ?_)
  refine J_bipush (v := (-3)) 7 dX6_again_7 rfl ?_
  exact J_iret 9 dX6_again_9 rfl rfl
set_option maxRecDepth 100000 in
set_option maxHeartbeats 4000000 in
theorem c_X6_again_ok (l : Launch) (G : Gd) (o : Nat) (rw : Nat) (fr : Nat) (kp : Nat) (tr : Nat) (tp : Nat) (tm : Nat) (mso : Int32) (bg : Nat) (en : Nat) (wd : Int64) (va : Int32) (gd : Int32) (rs : Nat) (mu : Nat) (rm : Nat) (ss : Nat) (msz : Nat) (msh : Nat) (mho : Nat) (mhn : Nat) (mhz : Nat) (kd : Int32) (nb : Int32) (tn : Int32) (tc : Nat) (bo : Nat) (ip : Int32) (la : Nat → Int32) (ns : Nat) (sd : Nat) (to : Nat → Int32) (he : Nat → Int32) (sw : Nat → Int32) (nh : Nat) (ki : Nat → Int32) (te : Nat → Int32) (mi : Nat → Int32) (ar : Nat → Int32) (z : Int32) (k_la : Nat → Int32) (k_ns : Nat) (k_sd : Nat) (k_to : Nat → Int32) (k_he : Nat → Int32) (k_sw : Nat → Int32) (k_nh : Nat) (k_ki : Nat → Int32) (k_te : Nat → Int32) (k_mi : Nat → Int32) (k_ar : Nat → Int32) (k_z : Int32)  : Ct l G yX6_again cX6_again 1 (some (FieldType.int)) 1 [.ref o] (wF [wMo o rw fr kp tr 1 tp tm mso bg en wd va gd rs mu rm ss msz msh mho mhn mhz kd nb tn tc bo ip, wMr G rw la ns sd to he sw nh ki te mi ar z, wMr G kp k_la k_ns k_sd k_to k_he k_sw k_nh k_ki k_te k_mi k_ar k_z]) (some (.int (nI k_nh))) (wF [wMo o rw fr kp tr 1 tp tm mso bg en wd va gd rs mu rm ss msz msh mho mhn mhz kd nb tn tc bo ip, wMr G rw k_la k_ns k_sd k_to k_he k_sw k_nh k_ki k_te k_mi k_ar k_z, wMr G kp k_la k_ns k_sd k_to k_he k_sw k_nh k_ki k_te k_mi k_ar k_z]) := by
  refine Ct.of "GooseArmsModel" [some (.ref o)] (by decide +kernel) rfl (Nat.le_of_ble_eq_true rfl) rfl ?_
  refine J_aload_n 0 0 dX6_again_0 rfl rfl ?_
  refine g_793 (v := .int 1) 1 0 rfl rfl dX6_again_1 ?_
  refine J_if_ne (tgt := 10) 4 dX6_again_4 (by decide) (fun _ => ?_) (fun c_1_ => absurd c_1_ (by decide))
  refine J_aload_n 10 0 dX6_again_10 rfl rfl ?_
  refine g_791 (v := .ref kp) 11 0 rfl rfl dX6_again_11 ?_
  refine J_aload_n 14 0 dX6_again_14 rfl rfl ?_
  refine g_789 (v := .ref rw) 15 0 rfl rfl dX6_again_15 ?_
  refine kb_RX6_173 (bs' := [wMo o rw fr kp tr 1 tp tm mso bg en wd va gd rs mu rm ss msz msh mho mhn mhz kd nb tn tc bo ip, wMr G rw k_la k_ns k_sd k_to k_he k_sw k_nh k_ki k_te k_mi k_ar k_z, wMr G kp k_la k_ns k_sd k_to k_he k_sw k_nh k_ki k_te k_mi k_ar k_z]) (rest := []) (st' := []) 18 (c_X6_moveAll_r l G kp k_la k_ns k_sd k_to k_he k_sw k_nh k_ki k_te k_mi k_ar k_z rw la ns sd to he sw nh ki te mi ar z ) [2, 1] rfl rfl [[kp], [rw]] rfl rfl rfl rfl rfl rfl (Nat.le_of_ble_eq_true rfl) rfl dX6_again_18 ?_
  refine J_aload_n 21 0 dX6_again_21 rfl rfl ?_
  refine g_789 (v := .ref rw) 22 0 rfl rfl dX6_again_22 ?_
  refine J_bipush (v := 6) 25 dX6_again_25 rfl ?_
  refine J_iald 27 1 6 rfl rfl (by omega) (by decide) dX6_again_27 ?_
  refine J_topi (y := nI k_nh) 28 (fR_nh rfl) ?_
  exact J_iret 28 dX6_again_28 rfl rfl
