/-! trials -/
def mFn (z : Int32) (nh : Nat) : Nat → Int32
  | 0 => z
  | n + 1 => fZz (mFn z nh n) nh
theorem ev_lo {la : Nat → Int32} {ki mi : Int32} {to he sw : Nat → Int32} {sd : Nat} {x : Int32 × Int32} (h_ : loB sd x.2) : ∀ k, sd + k ≤ 32 → loB (sd + k) (evTA la ki mi to he sw sd k x).2 := by
  intro k
  induction k with
  | zero => intro _; exact h_
  | succ k ih_ =>
    intro hk_
    have i_ := ih_ (by omega)
    unfold evTA
    split
    · exact lo_or (lo_up i_ (by omega)) (lo_only (by omega) hk_)
    · exact lo_up i_ (by omega)
/-- how much is right in the end on one's arm, the model's way -/
noncomputable def mRt (la ki mi te ar to he sw : Nat → Int32) (ns sd h : Nat) : Int32 := nI ns - fBC ((evTA la (ki h) (mi h) to he sw sd (ns - sd) (te h, ar h)).2 ^^^ fMask (fun s_ => sw s_ = 1) ns)
theorem far12 {la ki mi te ar to he sw : Nat → Int32} {ns sd h nh : Nat} (hh_ : h < nh) (hs_ : ns ≤ 12) : fAr (fun h_ => h_ < nh) la ki mi te ar to he sw sd (min 12 (ns - sd)) h = (evTA la (ki h) (mi h) to he sw sd (ns - sd) (te h, ar h)).2 := by
  rw [fAr_at (L := fun h_ => h_ < nh) hh_, Nat.min_eq_right (by omega)]
theorem arm_lo {la ki mi te ar to he sw : Nat → Int32} {ns sd h nh : Nat} (hh_ : h < nh) (hs_ : ns ≤ 12) (hd_ : sd ≤ ns) (ha_ : loB sd (ar h)) : loB 12 (fAr (fun h_ => h_ < nh) la ki mi te ar to he sw sd (min 12 (ns - sd)) h) := by
  rw [far12 hh_ hs_]
  exact lo_up (ev_lo (x := (te h, ar h)) ha_ (ns - sd) (by omega)) (by omega)
theorem mFn_s {z z1 : Int32} {i nh : Nat} (h_ : z1 = mFn z nh i) : fZz z1 nh = mFn z nh (i + 1) := by subst h_; rw [mFn]
theorem fSm_e {f : Nat → Int32} {i j : Nat} : upd (upd f j (f i)) i (f j) = fSw f i j := by
  unfold fSw
  funext q_
  by_cases e1_ : q_ = j
  · subst e1_
    by_cases e2_ : q_ = i
    · subst e2_; rw [pk_us]
    · rw [pk_un e2_, pk_us, pk_us]
  · by_cases e2_ : q_ = i
    · subst e2_; rw [pk_us, pk_un e1_, pk_us]
    · rw [pk_un e2_, pk_un e1_, pk_un e1_, pk_un e2_]
theorem fMax_1 {f : Nat → Nat} {n : Nat} : fMax f (n + 1) = max (fMax f n) (f n) := rfl
theorem hn_all : ∀ j, j < 11 → (nI j - 1 + 1 = nI (j + 1) - 1 ∧ (9 ≤ nI j - 1 ↔ j = 10)) := by decide +kernel
theorem fSw_b {sw : Nat → Int32} {sd j ns : Nat} (hb_ : ∀ s_, s_ < ns → (sw s_ = 0 ∨ sw s_ = 1)) (hd_ : sd < ns) (hj_ : j < ns) : ∀ s_, s_ < ns → (fSw sw sd j s_ = 0 ∨ fSw sw sd j s_ = 1) := by
  intro s_ hs_
  unfold fSw
  by_cases e1_ : s_ = j
  · subst e1_; rw [pk_us]; exact hb_ _ hd_
  · rw [pk_un e1_]
    by_cases e2_ : s_ = sd
    · subst e2_; rw [pk_us]; exact hb_ _ hj_
    · rw [pk_un e2_]; exact hb_ _ hs_
noncomputable def fEm (C : Nat → Prop) : Nat → Int32
  | 0 => -1
  | n + 1 => cif ((fEm C n < 0 ∨ fBC (nI n) < fBC (fEm C n)) ∧ C n) (nI n) (fEm C n)
theorem fEm_t {C : Nat → Prop} {k : Nat} {b : Int32} (hb_ : b = fEm C k) (hc_ : C k) (h_ : b < 0 ∨ fBC (nI k) < fBC b) : nI k = fEm C (k + 1) := by
  subst hb_; conv => rhs; unfold fEm
  exact (cif_t ⟨h_, hc_⟩).symm
theorem fEm_f {C : Nat → Prop} {k : Nat} {b : Int32} (hb_ : b = fEm C k) (h_ : ¬ ((b < 0 ∨ fBC (nI k) < fBC b) ∧ C k)) : b = fEm C (k + 1) := by
  subst hb_; conv => rhs; unfold fEm
  exact (cif_f h_).symm
theorem fEm_n {C : Nat → Prop} : ∀ k, fEm C k = -1 ∨ ∃ n, n < k ∧ fEm C k = nI n := by
  intro k
  induction k with
  | zero => exact Or.inl rfl
  | succ k ih_ =>
    unfold fEm
    by_cases q_ : (fEm C k < 0 ∨ fBC (nI k) < fBC (fEm C k)) ∧ C k
    · rw [cif_t q_]; exact Or.inr ⟨k, by omega, rfl⟩
    · rw [cif_f q_]
      rcases ih_ with z_ | ⟨n, h1_, h2_⟩
      · exact Or.inl z_
      · exact Or.inr ⟨n, by omega, h2_⟩
theorem fEm_x {C : Nat → Prop} {k : Nat} {b : Int32} (hb_ : b = fEm C k) (hk_ : k ≤ 256) (h0_ : ¬ b < 0) : ∃ n_ : Nat, n_ < 4096 ∧ b = nI n_ := by
  rcases fEm_n (C := C) k with z_ | ⟨n, h1_, h2_⟩
  · rw [hb_, z_] at h0_; exact absurd (by decide) h0_
  · exact ⟨n, by omega, hb_.trans h2_⟩
noncomputable def mEno (C : Nat → Prop) (n : Nat) : Int32 := if fEm C n < 0 then -3 else fEm C n
theorem mS_bit {Q : Nat → Prop} {U : Prop} {h nh : Nat} (hh_ : h < nh) (hn_ : nh ≤ 8) (hq_ : Q h ↔ U) : ((fMask Q nh) >>> (nI h &&& 31)) &&& 1 = bI U := by
  by_cases q_ : hasP (fMask Q nh) (nI h)
  · rw [bI_t (hq_.mp ((fMask_has (by omega) nh (by omega)).mp q_).2)]; exact q_
  · rw [bI_f (fun z_ => q_ ((fMask_has (by omega) nh (by omega)).mpr ⟨hh_, hq_.mpr z_⟩))]; exact and1_0 q_
theorem mS_ok {it : Nat → Int64} {la : Nat → Int32} {k m : Int32} {to he sw : Nat → Int32} {sd : Nat} {x : Int32 × Int32} {i : Nat} (h_ : lg_cmp (it i) (bI (fUpAt la k m to he sw sd i x)).toInt64 = 0) : fOkS it la k m to he sw sd x i := by
  have e_ := lgc0.mp h_
  by_cases u_ : fUpAt la k m to he sw sd i x
  · rw [bI_t u_] at e_; exact Or.inr (Or.inl ⟨e_, u_⟩)
  · rw [bI_f u_] at e_; exact Or.inr (Or.inr ⟨e_, u_⟩)
theorem mS_no {it : Nat → Int64} {la : Nat → Int32} {k m : Int32} {to he sw : Nat → Int32} {sd : Nat} {x : Int32 × Int32} {i : Nat} (h1_ : ¬ lg_cmp (it i) (-1) = 0) (h_ : ¬ lg_cmp (it i) (bI (fUpAt la k m to he sw sd i x)).toInt64 = 0) : ¬ fOkS it la k m to he sw sd x i := by
  rintro (z_ | ⟨z_, u_⟩ | ⟨z_, u_⟩)
  · exact h1_ (lgc0.mpr z_)
  · exact h_ (lgc0.mpr (by rw [bI_t u_]; exact z_))
  · exact h_ (lgc0.mpr (by rw [bI_f u_]; exact z_))
set_option maxRecDepth 100000 in
set_option maxHeartbeats 4000000 in
theorem c_X6_chills_bad (l : Launch) (G : Gd) (n : Int32) (o : Nat) (rw : Nat) (fr : Nat) (kp : Nat) (tr : Nat) (ik : Int32) (tp : Nat) (tm : Nat) (mso : Int32) (bg : Nat) (en : Nat) (wd : Int64) (va : Int32) (gd : Int32) (rs : Nat) (mu : Nat) (rm : Nat) (ss : Nat) (msz : Nat) (msh : Nat) (mho : Nat) (mhn : Nat) (mhz : Nat) (kd : Int32) (nb : Int32) (tn : Int32) (tc : Nat) (bo : Nat) (ip : Int32) (hw : ¬ (1 ≤ n ∧ n ≤ 30)) : Ct l G yX6_chills cX6_chills 6 (some (FieldType.int)) 4 [.ref o, .int n] (wF [wMo o rw fr kp tr ik tp tm mso bg en wd va gd rs mu rm ss msz msh mho mhn mhz kd nb tn tc bo ip]) (some (.int (-1))) (wF [wMo o rw fr kp tr ik tp tm mso bg en wd va gd rs mu rm ss msz msh mho mhn mhz kd nb tn tc bo ip]) := by
  refine Ct.of "GooseArmsModel" [some (.ref o), some (.int n), none, none, none, none] (by decide +kernel) rfl (Nat.le_of_ble_eq_true rfl) rfl ?_
  refine J_iload_n 0 1 dX6_chills_0 rfl rfl ?_
  refine J_iconst (v := 1) 1 dX6_chills_1 rfl ?_
  refine J_bipush (v := 30) 2 dX6_chills_2 rfl ?_
  refine kb_RX6_57 (bs' := [wMo o rw fr kp tr ik tp tm mso bg en wd va gd rs mu rm ss msz msh mho mhn mhz kd nb tn tc bo ip]) (rest := []) (st' := [.int 0]) 4 (c_X6_in_f l G n 1 30 hw) [] rfl rfl [] rfl rfl rfl rfl rfl rfl (Nat.le_of_ble_eq_true rfl) rfl dX6_chills_4 ?_
  refine J_if_ne (tgt := 12) 7 dX6_chills_7 (by decide) (fun c_1_ => absurd c_1_ (by decide)) (fun _ => ?_)
  refine J_iconst (v := (-1)) 10 dX6_chills_10 rfl ?_
  exact J_iret 11 dX6_chills_11 rfl rfl
set_option maxRecDepth 100000 in
set_option maxHeartbeats 4000000 in
theorem c_X6_chills_zero (l : Launch) (G : Gd) (n : Nat) (o : Nat) (rw : Nat) (fr : Nat) (kp : Nat) (tr : Nat) (ik : Int32) (tp : Nat) (tm : Nat) (mso : Int32) (bg : Nat) (en : Nat) (wd : Int64) (va : Int32) (gd : Int32) (rs : Nat) (mu : Nat) (rm : Nat) (ss : Nat) (msz : Nat) (msh : Nat) (mho : Nat) (mhn : Nat) (mhz : Nat) (kd : Int32) (nb : Int32) (tn : Int32) (tc : Nat) (bo : Nat) (ip : Int32) (la : Nat → Int32) (ns : Nat) (sd : Nat) (to : Nat → Int32) (he : Nat → Int32) (sw : Nat → Int32) (nh : Nat) (ki : Nat → Int32) (te : Nat → Int32) (mi : Nat → Int32) (ar : Nat → Int32) (z : Int32) (hnh : nh ≤ 8) (hns : ns ≤ 12) (hsd : sd ≤ ns) (h1 : 1 ≤ n) (h30 : n ≤ 30) (hz : sd = ns) : Ct l G yX6_chills cX6_chills 6 (some (FieldType.int)) 4 [.ref o, .int (nI n)] (wF [wMo o rw fr kp tr ik tp tm mso bg en wd va gd rs mu rm ss msz msh mho mhn mhz kd nb tn tc bo ip, wMr G rw la ns sd to he sw nh ki te mi ar z]) (some (.int 0)) (wF [wMo o rw fr kp tr ik tp tm mso bg en wd va gd rs mu rm ss msz msh mho mhn mhz kd nb tn tc bo ip, wMr G rw la ns sd to he sw nh ki te mi ar z]) := by
  refine Ct.of "GooseArmsModel" [some (.ref o), some (.int (nI n)), none, none, none, none] (by decide +kernel) rfl (Nat.le_of_ble_eq_true rfl) rfl ?_
  refine J_iload_n 0 1 dX6_chills_0 rfl rfl ?_
  refine J_iconst (v := 1) 1 dX6_chills_1 rfl ?_
  refine J_bipush (v := 30) 2 dX6_chills_2 rfl ?_
  refine kb_RX6_57 (bs' := [wMo o rw fr kp tr ik tp tm mso bg en wd va gd rs mu rm ss msz msh mho mhn mhz kd nb tn tc bo ip, wMr G rw la ns sd to he sw nh ki te mi ar z]) (rest := []) (st' := [.int 1]) 4 (c_X6_in_t l G (nI n) 1 30 (inM_t (a := 1) (m := 30) h1 h30 (by decide))) [] rfl rfl [] rfl rfl rfl rfl rfl rfl (Nat.le_of_ble_eq_true rfl) rfl dX6_chills_4 ?_
  refine J_if_ne (tgt := 12) 7 dX6_chills_7 (by decide) (fun _ => ?_) (fun c_1_ => absurd c_1_ (by decide))
  refine J_aload_n 12 0 dX6_chills_12 rfl rfl ?_
  refine kb_RX6_209 (bs' := [wMo o rw fr kp tr ik tp tm mso bg en wd va gd rs mu rm ss msz msh mho mhn mhz kd nb tn tc bo ip, wMr G rw la ns sd to he sw nh ki te mi ar z]) (rest := []) (st' := [.int (nI (ns - sd))]) 13 (c_X6_leftMany l G o rw fr kp tr ik tp tm mso bg en wd va gd rs mu rm ss msz msh mho mhn mhz kd nb tn tc bo ip la ns sd to he sw nh ki te mi ar z (by first | omega | assumption)) [0, 1] 0 rfl rfl rfl [[o], [rw]] rfl rfl rfl rfl rfl rfl (Nat.le_of_ble_eq_true rfl) rfl dX6_chills_13 ?_
  refine J_if_ne (tgt := 21) 16 dX6_chills_16 (by decide) (fun c_2_ => ?_) (fun c_2_ => ?_)
  · skip
    have c_2_ : ¬ (ns - sd) = 0 := fun z_ => c_2_ ((nI_eq (a := (ns - sd)) (b := 0) (by omega) (by omega)).mpr z_)
    omega
  · skip
    have c_2_ : (ns - sd) = 0 := (nI_eq (a := (ns - sd)) (b := 0) (by omega) (by omega)).mp c_2_
    refine J_iconst (v := 0) 19 dX6_chills_19 rfl ?_
    exact J_iret 20 dX6_chills_20 rfl rfl
set_option maxRecDepth 100000 in
set_option maxHeartbeats 4000000 in
theorem c_X6_chills_ok (l : Launch) (G : Gd) (n : Nat) (o : Nat) (rw : Nat) (fr : Nat) (kp : Nat) (tr : Nat) (ik : Int32) (tp : Nat) (tm : Nat) (mso : Int32) (bg : Nat) (en : Nat) (wd : Int64) (va : Int32) (gd : Int32) (rs : Nat) (mu : Nat) (rm : Nat) (ss : Nat) (msz : Nat) (msh : Nat) (mho : Nat) (mhn : Nat) (mhz : Nat) (kd : Int32) (nb : Int32) (tn : Int32) (tc : Nat) (bo : Nat) (ip : Int32) (la : Nat → Int32) (ns : Nat) (sd : Nat) (to : Nat → Int32) (he : Nat → Int32) (sw : Nat → Int32) (nh : Nat) (ki : Nat → Int32) (te : Nat → Int32) (mi : Nat → Int32) (ar : Nat → Int32) (z : Int32) (t_la : Nat → Int32) (t_ns : Nat) (t_sd : Nat) (t_to : Nat → Int32) (t_he : Nat → Int32) (t_sw : Nat → Int32) (t_nh : Nat) (t_ki : Nat → Int32) (t_te : Nat → Int32) (t_mi : Nat → Int32) (t_ar : Nat → Int32) (t_z : Int32) (hnh : nh ≤ 8) (hns : ns ≤ 12) (h1 : 1 ≤ n) (h30 : n ≤ 30) (hz : sd < ns) : CtP l G yX6_chills cX6_chills 6 (some (FieldType.int)) 4 [.ref o, .int (nI n)] (wF [wMo o rw fr kp tr ik tp tm mso bg en wd va gd rs mu rm ss msz msh mho mhn mhz kd nb tn tc bo ip, wMr G rw la ns sd to he sw nh ki te mi ar z, wMr G tr t_la t_ns t_sd t_to t_he t_sw t_nh t_ki t_te t_mi t_ar t_z]) (some (.int (nI (fCnt (fun i_ => fBC (fMask (fun h_ => nI h_ = (-1) ∨ fUp la ki mi te to he sw sd h_) nh) < fBC (fMask (fun h_ => nI h_ = fChi (mFn z nh i_) (la 3) nh ∨ fUp la ki mi te to he sw sd h_) nh)) n)))) (fun w_ => ∃ (j_2_la : Nat → Int32) (j_2_ns : Nat) (j_2_sd : Nat) (j_2_to : Nat → Int32) (j_2_he : Nat → Int32) (j_2_sw : Nat → Int32) (j_2_nh : Nat) (j_2_ki : Nat → Int32) (j_2_te : Nat → Int32) (j_2_mi : Nat → Int32) (j_2_ar : Nat → Int32) (j_2_z : Int32), w_ = (wF [wMo o rw fr kp tr ik tp tm mso bg en wd va gd rs mu rm ss msz msh mho mhn mhz kd nb tn tc bo ip, wMr G rw la ns sd to he sw nh ki te mi ar z, wMr G tr j_2_la j_2_ns j_2_sd j_2_to j_2_he j_2_sw j_2_nh j_2_ki j_2_te j_2_mi j_2_ar j_2_z])) := by
  refine CtP.of "GooseArmsModel" [some (.ref o), some (.int (nI n)), none, none, none, none] (by decide +kernel) rfl (Nat.le_of_ble_eq_true rfl) rfl ?_
  have cut_66_ : ∀ (n_66_ : Nat) (i : Nat) (x : Nat) (z1 : Int32), (n - i < n_66_) → (hi : i ≤ n) → (hx : x = fCnt (fun i_ => fBC (fMask (fun h_ => nI h_ = (-1) ∨ fUp la ki mi te to he sw sd h_) nh) < fBC (fMask (fun h_ => nI h_ = fChi (mFn z nh i_) (la 3) nh ∨ fUp la ki mi te to he sw sd h_) nh)) i) → (hz1 : z1 = mFn z nh i) → J l G (bdP G 4 (some (FieldType.int)) (some (.int (nI (fCnt (fun i_ => fBC (fMask (fun h_ => nI h_ = (-1) ∨ fUp la ki mi te to he sw sd h_) nh) < fBC (fMask (fun h_ => nI h_ = fChi (mFn z nh i_) (la 3) nh ∨ fUp la ki mi te to he sw sd h_) nh)) n)))) (fun w_ => ∃ (j_2_la : Nat → Int32) (j_2_ns : Nat) (j_2_sd : Nat) (j_2_to : Nat → Int32) (j_2_he : Nat → Int32) (j_2_sw : Nat → Int32) (j_2_nh : Nat) (j_2_ki : Nat → Int32) (j_2_te : Nat → Int32) (j_2_mi : Nat → Int32) (j_2_ar : Nat → Int32) (j_2_z : Int32), w_ = (wF [wMo o rw fr kp tr ik tp tm mso bg en wd va gd rs mu rm ss msz msh mho mhn mhz kd nb tn tc bo ip, wMr G rw la ns sd to he sw nh ki te mi ar z, wMr G tr j_2_la j_2_ns j_2_sd j_2_to j_2_he j_2_sw j_2_nh j_2_ki j_2_te j_2_mi j_2_ar j_2_z]))) cX6_chills 6 "GooseArmsModel" 66 [some (.ref o), some (.int (nI n)), some (.int (fBC (fMask (fun h_ => nI h_ = (-1) ∨ fUp la ki mi te to he sw sd h_) nh))), some (.int z1), some (.int (nI x)), some (.int (nI i))] [] (wF [wMo o rw fr kp tr ik tp tm mso bg en wd va gd rs mu rm ss msz msh mho mhn mhz kd nb tn tc bo ip, wMr G rw la ns sd to he sw nh ki te mi ar z, wMr G tr la ns sd to he sw nh ki te mi ar z]) := by
    intro n_66_
    induction n_66_ with
    | zero => intro i x z1 m_66_; exact absurd m_66_ (Nat.not_lt_zero _)
    | succ n_66_ ih_66_ =>
      intro i x z1 m_66_ hi hx hz1
      refine J_iload 66 dX6_chills_66 rfl ?_
      refine J_iload_n 68 1 dX6_chills_68 rfl rfl ?_
      refine J_icmp_ge (tgt := 126) 69 dX6_chills_69 (by decide) (fun c_1_ => ?_) (fun c_1_ => ?_)
      · skip
        have c_1_ : n ≤ i := (nI_leI (a := n) (b := i) (by omega) (by omega)).mp c_1_
        refine J_iload 126 dX6_chills_126 rfl ?_
        exact J_iretP 128 dX6_chills_128 (congrArg (fun x_ => some (Value.int x_)) (by rw [hx, show i = n by omega])) ⟨la, ns, sd, to, he, sw, nh, ki, te, mi, ar, z, rfl⟩
      · skip
        have c_1_ : ¬ n ≤ i := fun z_ => c_1_ ((nI_leI (a := n) (b := i) (by omega) (by omega)).mpr z_)
        refine J_aload_n 72 0 dX6_chills_72 rfl rfl ?_
        refine g_789 (v := .ref rw) 73 0 rfl rfl dX6_chills_73 ?_
        refine J_bipush (v := 7) 76 dX6_chills_76 rfl ?_
        refine J_iload_n 78 3 dX6_chills_78 rfl rfl ?_
        refine J_iast (ws' := (wF [wMo o rw fr kp tr ik tp tm mso bg en wd va gd rs mu rm ss msz msh mho mhn mhz kd nb tn tc bo ip, wI G rw 76 (upd (fRow la ns sd to he sw nh ki te mi ar z) 7 z1), wMr G tr la ns sd to he sw nh ki te mi ar z])) 79 1 7 rfl rfl (by omega) (by decide) rfl dX6_chills_79 ?_
        refine J_ws (ws' := (wF [wMo o rw fr kp tr ik tp tm mso bg en wd va gd rs mu rm ss msz msh mho mhn mhz kd nb tn tc bo ip, wMr G rw la ns sd to he sw nh ki te mi ar z1, wMr G tr la ns sd to he sw nh ki te mi ar z])) 80 (congrArg (fun x_ => (wF [wMo o rw fr kp tr ik tp tm mso bg en wd va gd rs mu rm ss msz msh mho mhn mhz kd nb tn tc bo ip, wI G rw 76 x_, wMr G tr la ns sd to he sw nh ki te mi ar z])) (fU_z rfl)) ?_
        refine J_iload 80 dX6_chills_80 rfl ?_
        refine J_aload_n 82 0 dX6_chills_82 rfl rfl ?_
        refine kb_RX6_235 (bs' := [wMo o rw fr kp tr ik tp tm mso bg en wd va gd rs mu rm ss msz msh mho mhn mhz kd nb tn tc bo ip, wMr G rw la ns (sd + 1) to he sw nh ki (fSel (fun h_ => h_ < nh ∧ (fun h_ => nI h_ = fChi z1 (la 3) nh ∨ fUp la ki mi te to he sw sd h_) h_) (fun h_ => heldI (te h_ - fWears (ki h_) (la 2))) te) mi (fSel (fun h_ => h_ < nh ∧ (fun h_ => nI h_ = fChi z1 (la 3) nh ∨ fUp la ki mi te to he sw sd h_) h_) (fun h_ => ar h_ ||| onlyI (nI sd)) ar) (fZz z1 nh), wMr G tr la ns sd to he sw nh ki te mi ar z]) (rest := [.int (nI x)]) (st' := [.int (fMask (fun h_ => nI h_ = fChi z1 (la 3) nh ∨ fUp la ki mi te to he sw sd h_) nh), .int (nI x)]) 83 (c_X6_saidByDraws l G o rw fr kp tr ik tp tm mso bg en wd va gd rs mu rm ss msz msh mho mhn mhz kd nb tn tc bo ip la ns sd to he sw nh ki te mi ar z1 (by first | omega | assumption) (by first | omega | assumption) (by first | omega | assumption)) [0, 1] 0 rfl rfl rfl [[o], [rw]] rfl rfl rfl rfl rfl rfl (Nat.le_of_ble_eq_true rfl) rfl dX6_chills_83 ?_
        refine kb_RX6_238 (bs' := [wMo o rw fr kp tr ik tp tm mso bg en wd va gd rs mu rm ss msz msh mho mhn mhz kd nb tn tc bo ip, wMr G rw la ns (sd + 1) to he sw nh ki (fSel (fun h_ => h_ < nh ∧ (fun h_ => nI h_ = fChi z1 (la 3) nh ∨ fUp la ki mi te to he sw sd h_) h_) (fun h_ => heldI (te h_ - fWears (ki h_) (la 2))) te) mi (fSel (fun h_ => h_ < nh ∧ (fun h_ => nI h_ = fChi z1 (la 3) nh ∨ fUp la ki mi te to he sw sd h_) h_) (fun h_ => ar h_ ||| onlyI (nI sd)) ar) (fZz z1 nh), wMr G tr la ns sd to he sw nh ki te mi ar z]) (rest := [.int (nI x)]) (st' := [.int (fBC (fMask (fun h_ => nI h_ = fChi z1 (la 3) nh ∨ fUp la ki mi te to he sw sd h_) nh)), .int (nI x)]) 86 (c_X6_ones l G (fMask (fun h_ => nI h_ = fChi z1 (la 3) nh ∨ fUp la ki mi te to he sw sd h_) nh) (lo_ex (lo_mask (by omega)))) [] rfl rfl [] rfl rfl rfl rfl rfl rfl (Nat.le_of_ble_eq_true rfl) rfl dX6_chills_86 ?_
        refine J_iload_n 89 2 dX6_chills_89 rfl rfl ?_
        refine J_icmp_le (tgt := 97) 90 dX6_chills_90 (by decide) (fun c_2_ => ?_) (fun c_2_ => ?_)
        · skip
          refine J_iconst (v := 0) 97 dX6_chills_97 rfl ?_
          refine J_iadd 98 dX6_chills_98 ?_
          refine J_topi (y := nI (x + 0)) 99 (nI_add x 0) ?_
          refine J_istore (lv' := [some (.ref o), some (.int (nI n)), some (.int (fBC (fMask (fun h_ => nI h_ = (-1) ∨ fUp la ki mi te to he sw sd h_) nh))), some (.int z1), some (.int (nI (x + 0))), some (.int (nI i))]) 99 dX6_chills_99 (by decide) rfl ?_
          refine J_aload_n 101 0 dX6_chills_101 rfl rfl ?_
          refine g_789 (v := .ref rw) 102 0 rfl rfl dX6_chills_102 ?_
          refine J_bipush (v := 7) 105 dX6_chills_105 rfl ?_
          refine J_iald 107 1 7 rfl rfl (by omega) (by decide) dX6_chills_107 ?_
          refine J_topi (y := fZz z1 nh) 108 (fR_z rfl) ?_
          refine J_istore_n (lv' := [some (.ref o), some (.int (nI n)), some (.int (fBC (fMask (fun h_ => nI h_ = (-1) ∨ fUp la ki mi te to he sw sd h_) nh))), some (.int (fZz z1 nh)), some (.int (nI (x + 0))), some (.int (nI i))]) 108 3 dX6_chills_108 rfl (by decide) rfl ?_
          refine J_aload_n 109 0 dX6_chills_109 rfl rfl ?_
          refine g_792 (v := .ref tr) 110 0 rfl rfl dX6_chills_110 ?_
          refine J_aload_n 113 0 dX6_chills_113 rfl rfl ?_
          refine g_789 (v := .ref rw) 114 0 rfl rfl dX6_chills_114 ?_
          refine kb_RX6_173 (bs' := [wMo o rw fr kp tr ik tp tm mso bg en wd va gd rs mu rm ss msz msh mho mhn mhz kd nb tn tc bo ip, wMr G rw la ns sd to he sw nh ki te mi ar z, wMr G tr la ns sd to he sw nh ki te mi ar z]) (rest := []) (st' := []) 117 (c_X6_moveAll_r l G tr la ns sd to he sw nh ki te mi ar z rw la ns (sd + 1) to he sw nh ki (fSel (fun h_ => h_ < nh ∧ (fun h_ => nI h_ = fChi z1 (la 3) nh ∨ fUp la ki mi te to he sw sd h_) h_) (fun h_ => heldI (te h_ - fWears (ki h_) (la 2))) te) mi (fSel (fun h_ => h_ < nh ∧ (fun h_ => nI h_ = fChi z1 (la 3) nh ∨ fUp la ki mi te to he sw sd h_) h_) (fun h_ => ar h_ ||| onlyI (nI sd)) ar) (fZz z1 nh) ) [2, 1] rfl rfl [[tr], [rw]] rfl rfl rfl rfl rfl rfl (Nat.le_of_ble_eq_true rfl) rfl dX6_chills_117 ?_
          refine J_iinc (v := nI (i + 1)) (lv' := [some (.ref o), some (.int (nI n)), some (.int (fBC (fMask (fun h_ => nI h_ = (-1) ∨ fUp la ki mi te to he sw sd h_) nh))), some (.int (fZz z1 nh)), some (.int (nI (x + 0))), some (.int (nI (i + 1)))]) 120 dX6_chills_120 rfl (nI_add _ 1) (by decide) rfl ?_
          refine J_goto (tgt := 66) 123 dX6_chills_123 (by decide) ?_
          exact ih_66_ (i + 1) (x + 0) (fZz z1 nh) (by omega) (by first | assumption | omega | rfl) (by first | rfl | exact fCnt_st hx (by rw [← hz1]; exact Int32.not_le.mp (by assumption)) | exact fCnt_sf hx (fun z_ => by rw [← hz1] at z_; exact Int32.not_lt.mpr (by assumption) z_)) (by first | exact mFn_s hz1 | rfl)
        · skip
          refine J_iconst (v := 1) 93 dX6_chills_93 rfl ?_
          refine J_goto (tgt := 98) 94 dX6_chills_94 (by decide) ?_
          refine J_iadd 98 dX6_chills_98 ?_
          refine J_topi (y := nI (x + 1)) 99 (nI_add x 1) ?_
          refine J_istore (lv' := [some (.ref o), some (.int (nI n)), some (.int (fBC (fMask (fun h_ => nI h_ = (-1) ∨ fUp la ki mi te to he sw sd h_) nh))), some (.int z1), some (.int (nI (x + 1))), some (.int (nI i))]) 99 dX6_chills_99 (by decide) rfl ?_
          refine J_aload_n 101 0 dX6_chills_101 rfl rfl ?_
          refine g_789 (v := .ref rw) 102 0 rfl rfl dX6_chills_102 ?_
          refine J_bipush (v := 7) 105 dX6_chills_105 rfl ?_
          refine J_iald 107 1 7 rfl rfl (by omega) (by decide) dX6_chills_107 ?_
          refine J_topi (y := fZz z1 nh) 108 (fR_z rfl) ?_
          refine J_istore_n (lv' := [some (.ref o), some (.int (nI n)), some (.int (fBC (fMask (fun h_ => nI h_ = (-1) ∨ fUp la ki mi te to he sw sd h_) nh))), some (.int (fZz z1 nh)), some (.int (nI (x + 1))), some (.int (nI i))]) 108 3 dX6_chills_108 rfl (by decide) rfl ?_
          refine J_aload_n 109 0 dX6_chills_109 rfl rfl ?_
          refine g_792 (v := .ref tr) 110 0 rfl rfl dX6_chills_110 ?_
          refine J_aload_n 113 0 dX6_chills_113 rfl rfl ?_
          refine g_789 (v := .ref rw) 114 0 rfl rfl dX6_chills_114 ?_
          refine kb_RX6_173 (bs' := [wMo o rw fr kp tr ik tp tm mso bg en wd va gd rs mu rm ss msz msh mho mhn mhz kd nb tn tc bo ip, wMr G rw la ns sd to he sw nh ki te mi ar z, wMr G tr la ns sd to he sw nh ki te mi ar z]) (rest := []) (st' := []) 117 (c_X6_moveAll_r l G tr la ns sd to he sw nh ki te mi ar z rw la ns (sd + 1) to he sw nh ki (fSel (fun h_ => h_ < nh ∧ (fun h_ => nI h_ = fChi z1 (la 3) nh ∨ fUp la ki mi te to he sw sd h_) h_) (fun h_ => heldI (te h_ - fWears (ki h_) (la 2))) te) mi (fSel (fun h_ => h_ < nh ∧ (fun h_ => nI h_ = fChi z1 (la 3) nh ∨ fUp la ki mi te to he sw sd h_) h_) (fun h_ => ar h_ ||| onlyI (nI sd)) ar) (fZz z1 nh) ) [2, 1] rfl rfl [[tr], [rw]] rfl rfl rfl rfl rfl rfl (Nat.le_of_ble_eq_true rfl) rfl dX6_chills_117 ?_
          refine J_iinc (v := nI (i + 1)) (lv' := [some (.ref o), some (.int (nI n)), some (.int (fBC (fMask (fun h_ => nI h_ = (-1) ∨ fUp la ki mi te to he sw sd h_) nh))), some (.int (fZz z1 nh)), some (.int (nI (x + 1))), some (.int (nI (i + 1)))]) 120 dX6_chills_120 rfl (nI_add _ 1) (by decide) rfl ?_
          refine J_goto (tgt := 66) 123 dX6_chills_123 (by decide) ?_
          exact ih_66_ (i + 1) (x + 1) (fZz z1 nh) (by omega) (by first | assumption | omega | rfl) (by first | rfl | exact fCnt_st hx (by rw [← hz1]; exact Int32.not_le.mp (by assumption)) | exact fCnt_sf hx (fun z_ => by rw [← hz1] at z_; exact Int32.not_lt.mpr (by assumption) z_)) (by first | exact mFn_s hz1 | rfl)
  refine J_iload_n 0 1 dX6_chills_0 rfl rfl ?_
  refine J_iconst (v := 1) 1 dX6_chills_1 rfl ?_
  refine J_bipush (v := 30) 2 dX6_chills_2 rfl ?_
  refine kb_RX6_57 (bs' := [wMo o rw fr kp tr ik tp tm mso bg en wd va gd rs mu rm ss msz msh mho mhn mhz kd nb tn tc bo ip, wMr G rw la ns sd to he sw nh ki te mi ar z, wMr G tr t_la t_ns t_sd t_to t_he t_sw t_nh t_ki t_te t_mi t_ar t_z]) (rest := []) (st' := [.int 1]) 4 (c_X6_in_t l G (nI n) 1 30 (inM_t (a := 1) (m := 30) h1 h30 (by decide))) [] rfl rfl [] rfl rfl rfl rfl rfl rfl (Nat.le_of_ble_eq_true rfl) rfl dX6_chills_4 ?_
  refine J_if_ne (tgt := 12) 7 dX6_chills_7 (by decide) (fun _ => ?_) (fun c_3_ => absurd c_3_ (by decide))
  refine J_aload_n 12 0 dX6_chills_12 rfl rfl ?_
  refine kb_RX6_209 (bs' := [wMo o rw fr kp tr ik tp tm mso bg en wd va gd rs mu rm ss msz msh mho mhn mhz kd nb tn tc bo ip, wMr G rw la ns sd to he sw nh ki te mi ar z, wMr G tr t_la t_ns t_sd t_to t_he t_sw t_nh t_ki t_te t_mi t_ar t_z]) (rest := []) (st' := [.int (nI (ns - sd))]) 13 (c_X6_leftMany l G o rw fr kp tr ik tp tm mso bg en wd va gd rs mu rm ss msz msh mho mhn mhz kd nb tn tc bo ip la ns sd to he sw nh ki te mi ar z (by first | omega | assumption)) [0, 1] 0 rfl rfl rfl [[o], [rw]] rfl rfl rfl rfl rfl rfl (Nat.le_of_ble_eq_true rfl) rfl dX6_chills_13 ?_
  refine J_if_ne (tgt := 21) 16 dX6_chills_16 (by decide) (fun c_4_ => ?_) (fun c_4_ => ?_)
  · skip
    have c_4_ : ¬ (ns - sd) = 0 := fun z_ => c_4_ ((nI_eq (a := (ns - sd)) (b := 0) (by omega) (by omega)).mpr z_)
    refine J_aload_n 21 0 dX6_chills_21 rfl rfl ?_
    refine g_789 (v := .ref rw) 22 0 rfl rfl dX6_chills_22 ?_
    refine J_aload_n 25 0 dX6_chills_25 rfl rfl ?_
    refine g_792 (v := .ref tr) 26 0 rfl rfl dX6_chills_26 ?_
    refine kb_RX6_173 (bs' := [wMo o rw fr kp tr ik tp tm mso bg en wd va gd rs mu rm ss msz msh mho mhn mhz kd nb tn tc bo ip, wMr G rw la ns sd to he sw nh ki te mi ar z, wMr G tr la ns sd to he sw nh ki te mi ar z]) (rest := []) (st' := []) 29 (c_X6_moveAll_r l G rw la ns sd to he sw nh ki te mi ar z tr t_la t_ns t_sd t_to t_he t_sw t_nh t_ki t_te t_mi t_ar t_z ) [1, 2] rfl rfl [[rw], [tr]] rfl rfl rfl rfl rfl rfl (Nat.le_of_ble_eq_true rfl) rfl dX6_chills_29 ?_
    refine J_aload_n 32 0 dX6_chills_32 rfl rfl ?_
    refine J_iconst (v := (-1)) 33 dX6_chills_33 rfl ?_
    refine kb_RX6_225 (bs' := [wMo o rw fr kp tr ik tp tm mso bg en wd va gd rs mu rm ss msz msh mho mhn mhz kd nb tn tc bo ip, wMr G rw la ns (sd + 1) to he sw nh ki (fSel (fun h_ => h_ < nh ∧ (fun h_ => nI h_ = (-1) ∨ fUp la ki mi te to he sw sd h_) h_) (fun h_ => heldI (te h_ - fWears (ki h_) (la 2))) te) mi (fSel (fun h_ => h_ < nh ∧ (fun h_ => nI h_ = (-1) ∨ fUp la ki mi te to he sw sd h_) h_) (fun h_ => ar h_ ||| onlyI (nI sd)) ar) z, wMr G tr la ns sd to he sw nh ki te mi ar z]) (rest := []) (st' := [.int (fMask (fun h_ => nI h_ = (-1) ∨ fUp la ki mi te to he sw sd h_) nh)]) 34 (c_X6_isSaid l G (-1) o rw fr kp tr ik tp tm mso bg en wd va gd rs mu rm ss msz msh mho mhn mhz kd nb tn tc bo ip la ns sd to he sw nh ki te mi ar z (by first | omega | assumption) (by first | omega | assumption) (by first | omega | assumption)) [0, 1] 0 rfl rfl rfl [[o], [rw]] rfl rfl rfl rfl rfl rfl (Nat.le_of_ble_eq_true rfl) rfl dX6_chills_34 ?_
    refine kb_RX6_238 (bs' := [wMo o rw fr kp tr ik tp tm mso bg en wd va gd rs mu rm ss msz msh mho mhn mhz kd nb tn tc bo ip, wMr G rw la ns (sd + 1) to he sw nh ki (fSel (fun h_ => h_ < nh ∧ (fun h_ => nI h_ = (-1) ∨ fUp la ki mi te to he sw sd h_) h_) (fun h_ => heldI (te h_ - fWears (ki h_) (la 2))) te) mi (fSel (fun h_ => h_ < nh ∧ (fun h_ => nI h_ = (-1) ∨ fUp la ki mi te to he sw sd h_) h_) (fun h_ => ar h_ ||| onlyI (nI sd)) ar) z, wMr G tr la ns sd to he sw nh ki te mi ar z]) (rest := []) (st' := [.int (fBC (fMask (fun h_ => nI h_ = (-1) ∨ fUp la ki mi te to he sw sd h_) nh))]) 37 (c_X6_ones l G (fMask (fun h_ => nI h_ = (-1) ∨ fUp la ki mi te to he sw sd h_) nh) (lo_ex (lo_mask (by omega)))) [] rfl rfl [] rfl rfl rfl rfl rfl rfl (Nat.le_of_ble_eq_true rfl) rfl dX6_chills_37 ?_
    refine J_istore_n (lv' := [some (.ref o), some (.int (nI n)), some (.int (fBC (fMask (fun h_ => nI h_ = (-1) ∨ fUp la ki mi te to he sw sd h_) nh))), none, none, none]) 40 2 dX6_chills_40 rfl (by decide) rfl ?_
    refine J_aload_n 41 0 dX6_chills_41 rfl rfl ?_
    refine g_792 (v := .ref tr) 42 0 rfl rfl dX6_chills_42 ?_
    refine J_aload_n 45 0 dX6_chills_45 rfl rfl ?_
    refine g_789 (v := .ref rw) 46 0 rfl rfl dX6_chills_46 ?_
    refine kb_RX6_173 (bs' := [wMo o rw fr kp tr ik tp tm mso bg en wd va gd rs mu rm ss msz msh mho mhn mhz kd nb tn tc bo ip, wMr G rw la ns sd to he sw nh ki te mi ar z, wMr G tr la ns sd to he sw nh ki te mi ar z]) (rest := []) (st' := []) 49 (c_X6_moveAll_r l G tr la ns sd to he sw nh ki te mi ar z rw la ns (sd + 1) to he sw nh ki (fSel (fun h_ => h_ < nh ∧ (fun h_ => nI h_ = (-1) ∨ fUp la ki mi te to he sw sd h_) h_) (fun h_ => heldI (te h_ - fWears (ki h_) (la 2))) te) mi (fSel (fun h_ => h_ < nh ∧ (fun h_ => nI h_ = (-1) ∨ fUp la ki mi te to he sw sd h_) h_) (fun h_ => ar h_ ||| onlyI (nI sd)) ar) z ) [2, 1] rfl rfl [[tr], [rw]] rfl rfl rfl rfl rfl rfl (Nat.le_of_ble_eq_true rfl) rfl dX6_chills_49 ?_
    refine J_aload_n 52 0 dX6_chills_52 rfl rfl ?_
    refine g_789 (v := .ref rw) 53 0 rfl rfl dX6_chills_53 ?_
    refine J_bipush (v := 7) 56 dX6_chills_56 rfl ?_
    refine J_iald 58 1 7 rfl rfl (by omega) (by decide) dX6_chills_58 ?_
    refine J_topi (y := z) 59 (fR_z rfl) ?_
    refine J_istore_n (lv' := [some (.ref o), some (.int (nI n)), some (.int (fBC (fMask (fun h_ => nI h_ = (-1) ∨ fUp la ki mi te to he sw sd h_) nh))), some (.int z), none, none]) 59 3 dX6_chills_59 rfl (by decide) rfl ?_
    refine J_iconst (v := 0) 60 dX6_chills_60 rfl ?_
    refine J_istore (lv' := [some (.ref o), some (.int (nI n)), some (.int (fBC (fMask (fun h_ => nI h_ = (-1) ∨ fUp la ki mi te to he sw sd h_) nh))), some (.int z), some (.int 0), none]) 61 dX6_chills_61 (by decide) rfl ?_
    refine J_iconst (v := 0) 63 dX6_chills_63 rfl ?_
    refine J_istore (lv' := [some (.ref o), some (.int (nI n)), some (.int (fBC (fMask (fun h_ => nI h_ = (-1) ∨ fUp la ki mi te to he sw sd h_) nh))), some (.int z), some (.int 0), some (.int 0)]) 64 dX6_chills_64 (by decide) rfl ?_
    exact cut_66_ ((n - 0) + 1) 0 0 z (Nat.lt_succ_self _) (by first | assumption | omega | rfl) (by first | rfl | exact fCnt_st hx (by rw [← hz1]; exact Int32.not_le.mp (by assumption)) | exact fCnt_sf hx (fun z_ => by rw [← hz1] at z_; exact Int32.not_lt.mpr (by assumption) z_)) (by first | exact mFn_s hz1 | rfl)
  · skip
    have c_4_ : (ns - sd) = 0 := (nI_eq (a := (ns - sd)) (b := 0) (by omega) (by omega)).mp c_4_
    omega
set_option maxRecDepth 100000 in
set_option maxHeartbeats 4000000 in
theorem c_X6_alike (l : Launch) (G : Gd) (o : Nat) (rw : Nat) (fr : Nat) (kp : Nat) (tr : Nat) (ik : Int32) (tp : Nat) (tm : Nat) (mso : Int32) (bg : Nat) (en : Nat) (wd : Int64) (va : Int32) (gd : Int32) (rs : Nat) (mu : Nat) (rm : Nat) (ss : Nat) (msz : Nat) (msh : Nat) (mho : Nat) (mhn : Nat) (mhz : Nat) (kd : Int32) (nb : Int32) (tn : Int32) (tc : Nat) (bo : Nat) (ip : Int32) (la : Nat → Int32) (ns : Nat) (sd : Nat) (to : Nat → Int32) (he : Nat → Int32) (sw : Nat → Int32) (nh : Nat) (ki : Nat → Int32) (te : Nat → Int32) (mi : Nat → Int32) (ar : Nat → Int32) (z : Int32) (t_la : Nat → Int32) (t_ns : Nat) (t_sd : Nat) (t_to : Nat → Int32) (t_he : Nat → Int32) (t_sw : Nat → Int32) (t_nh : Nat) (t_ki : Nat → Int32) (t_te : Nat → Int32) (t_mi : Nat → Int32) (t_ar : Nat → Int32) (t_z : Int32) (hnh : nh ≤ 8) (hns : ns ≤ 12) (hsd : sd ≤ ns) : CtP l G yX6_alike cX6_alike 5 (some (FieldType.int)) 4 [.ref o] (wF [wMo o rw fr kp tr ik tp tm mso bg en wd va gd rs mu rm ss msz msh mho mhn mhz kd nb tn tc bo ip, wMr G rw la ns sd to he sw nh ki te mi ar z, wMr G tr t_la t_ns t_sd t_to t_he t_sw t_nh t_ki t_te t_mi t_ar t_z]) (some (.int (nI (fAl (fAr (fun h_ => h_ < nh) la ki mi te ar to he sw sd (min 12 (ns - sd))) nh)))) (fun w_ => ∃ (j_2_la : Nat → Int32) (j_2_ns : Nat) (j_2_sd : Nat) (j_2_to : Nat → Int32) (j_2_he : Nat → Int32) (j_2_sw : Nat → Int32) (j_2_nh : Nat) (j_2_ki : Nat → Int32) (j_2_te : Nat → Int32) (j_2_mi : Nat → Int32) (j_2_ar : Nat → Int32) (j_2_z : Int32), w_ = (wF [wMo o rw fr kp tr ik tp tm mso bg en wd va gd rs mu rm ss msz msh mho mhn mhz kd nb tn tc bo ip, wMr G rw la ns sd to he sw nh ki te mi ar z, wMr G tr j_2_la j_2_ns j_2_sd j_2_to j_2_he j_2_sw j_2_nh j_2_ki j_2_te j_2_mi j_2_ar j_2_z])) := by
  refine CtP.of "GooseArmsModel" [some (.ref o), none, none, none, none] (by decide +kernel) rfl (Nat.le_of_ble_eq_true rfl) rfl ?_
  have cut_38_ : ∀ (n_38_ : Nat) (i : Nat) (x : Nat) (j : Nat) (c : Nat) (ar1 : Nat → Int32), ((nh - i) * 16 + (nh - j) < n_38_) → (hi : i < nh) → (hj : j ≤ nh) → (hx : x = (fMax (fun h_ => fCnt (fun j_ => ar1 j_ = ar1 h_) nh) i)) → (hc : c = fCnt (fun j_ => ar1 j_ = ar1 i) j) → (har : ar1 = (fAr (fun h_ => h_ < nh) la ki mi te ar to he sw sd (min 12 (ns - sd)))) → J l G (bdP G 4 (some (FieldType.int)) (some (.int (nI (fAl (fAr (fun h_ => h_ < nh) la ki mi te ar to he sw sd (min 12 (ns - sd))) nh)))) (fun w_ => ∃ (j_2_la : Nat → Int32) (j_2_ns : Nat) (j_2_sd : Nat) (j_2_to : Nat → Int32) (j_2_he : Nat → Int32) (j_2_sw : Nat → Int32) (j_2_nh : Nat) (j_2_ki : Nat → Int32) (j_2_te : Nat → Int32) (j_2_mi : Nat → Int32) (j_2_ar : Nat → Int32) (j_2_z : Int32), w_ = (wF [wMo o rw fr kp tr ik tp tm mso bg en wd va gd rs mu rm ss msz msh mho mhn mhz kd nb tn tc bo ip, wMr G rw la ns sd to he sw nh ki te mi ar z, wMr G tr j_2_la j_2_ns j_2_sd j_2_to j_2_he j_2_sw j_2_nh j_2_ki j_2_te j_2_mi j_2_ar j_2_z]))) cX6_alike 5 "GooseArmsModel" 38 [some (.ref o), some (.int (nI x)), some (.int (nI i)), some (.int (nI c)), some (.int (nI j))] [] (wF [wMo o rw fr kp tr ik tp tm mso bg en wd va gd rs mu rm ss msz msh mho mhn mhz kd nb tn tc bo ip, wMr G rw la ns (sd + min 12 (ns - sd)) to he sw nh ki (fTe (fun h_ => h_ < nh) la ki mi te ar to he sw sd (min 12 (ns - sd))) mi ar1 z, wMr G tr la ns sd to he sw nh ki te mi ar z]) := by
    intro n_38_
    induction n_38_ with
    | zero => intro i x j c ar1 m_38_; exact absurd m_38_ (Nat.not_lt_zero _)
    | succ n_38_ ih_38_ =>
      intro i x j c ar1 m_38_ hi hj hx hc har
      have hxb_ : x ≤ 8 := by rw [hx]; exact fMax_le (fun n_ => Nat.le_trans (fCnt_le _) hnh) _
      have hcb_ : c ≤ j := by rw [hc]; exact fCnt_le _
      refine J_iload 38 dX6_alike_38 rfl ?_
      refine J_aload_n 40 0 dX6_alike_40 rfl rfl ?_
      refine g_789 (v := .ref rw) 41 0 rfl rfl dX6_alike_41 ?_
      refine J_bipush (v := 6) 44 dX6_alike_44 rfl ?_
      refine J_iald 46 1 6 rfl rfl (by omega) (by decide) dX6_alike_46 ?_
      refine J_topi (y := nI nh) 47 (fR_nh rfl) ?_
      refine J_icmp_ge (tgt := 80) 47 dX6_alike_47 (by decide) (fun c_1_ => ?_) (fun c_1_ => ?_)
      · skip
        have c_1_ : nh ≤ j := (nI_leI (a := nh) (b := j) (by omega) (by omega)).mp c_1_
        have hcc_ : c = fCnt (fun j_ => ar1 j_ = ar1 i) nh := by rw [hc, show j = nh by omega]
        refine J_iload_n 80 3 dX6_alike_80 rfl rfl ?_
        refine J_iload_n 81 1 dX6_alike_81 rfl rfl ?_
        refine J_icmp_le (tgt := 89) 82 dX6_alike_82 (by decide) (fun c_2_ => ?_) (fun c_2_ => ?_)
        · skip
          have c_2_ : c ≤ x := (nI_leI (a := c) (b := x) (by omega) (by omega)).mp c_2_
          refine J_iload_n 89 1 dX6_alike_89 rfl rfl ?_
          refine J_istore_n (lv' := [some (.ref o), some (.int (nI x)), some (.int (nI i)), some (.int (nI c)), some (.int (nI j))]) 90 1 dX6_alike_90 rfl (by decide) rfl ?_
          refine J_iinc (v := nI (i + 1)) (lv' := [some (.ref o), some (.int (nI x)), some (.int (nI (i + 1))), some (.int (nI c)), some (.int (nI j))]) 91 dX6_alike_91 rfl (nI_add _ 1) (by decide) rfl ?_
          refine J_goto (tgt := 22) 94 dX6_alike_94 (by decide) ?_
          refine J_iload_n 22 2 dX6_alike_22 rfl rfl ?_
          refine J_aload_n 23 0 dX6_alike_23 rfl rfl ?_
          refine g_789 (v := .ref rw) 24 0 rfl rfl dX6_alike_24 ?_
          refine J_bipush (v := 6) 27 dX6_alike_27 rfl ?_
          refine J_iald 29 1 6 rfl rfl (by omega) (by decide) dX6_alike_29 ?_
          refine J_topi (y := nI nh) 30 (fR_nh rfl) ?_
          refine J_icmp_ge (tgt := 97) 30 dX6_alike_30 (by decide) (fun c_3_ => ?_) (fun c_3_ => ?_)
          · skip
            have c_3_ : nh ≤ (i + 1) := (nI_leI (a := nh) (b := (i + 1)) (by omega) (by omega)).mp c_3_
            refine J_aload_n 97 0 dX6_alike_97 rfl rfl ?_
            refine g_792 (v := .ref tr) 98 0 rfl rfl dX6_alike_98 ?_
            refine J_aload_n 101 0 dX6_alike_101 rfl rfl ?_
            refine g_789 (v := .ref rw) 102 0 rfl rfl dX6_alike_102 ?_
            refine kb_RX6_173 (bs' := [wMo o rw fr kp tr ik tp tm mso bg en wd va gd rs mu rm ss msz msh mho mhn mhz kd nb tn tc bo ip, wMr G rw la ns sd to he sw nh ki te mi ar z, wMr G tr la ns sd to he sw nh ki te mi ar z]) (rest := []) (st' := []) 105 (c_X6_moveAll_r l G tr la ns sd to he sw nh ki te mi ar z rw la ns (sd + min 12 (ns - sd)) to he sw nh ki (fTe (fun h_ => h_ < nh) la ki mi te ar to he sw sd (min 12 (ns - sd))) mi ar1 z ) [2, 1] rfl rfl [[tr], [rw]] rfl rfl rfl rfl rfl rfl (Nat.le_of_ble_eq_true rfl) rfl dX6_alike_105 ?_
            refine J_iload_n 108 1 dX6_alike_108 rfl rfl ?_
            exact J_iretP 109 dX6_alike_109 (congrArg (fun x_ => some (Value.int x_)) (by first | (show nI _ = nI (fAl _ _); congr 1; show _ = fMax _ nh; rw [← har, show nh = i + 1 by omega, fMax_1]; rw [show i + 1 = nh by omega, ← hx, ← hcc_]; omega) | (rw [show nh = 0 by omega]; rfl))) ⟨la, ns, sd, to, he, sw, nh, ki, te, mi, ar, z, rfl⟩
          · skip
            have c_3_ : ¬ nh ≤ (i + 1) := fun z_ => c_3_ ((nI_leI (a := nh) (b := (i + 1)) (by omega) (by omega)).mpr z_)
            refine J_iconst (v := 0) 33 dX6_alike_33 rfl ?_
            refine J_istore_n (lv' := [some (.ref o), some (.int (nI x)), some (.int (nI (i + 1))), some (.int 0), some (.int (nI j))]) 34 3 dX6_alike_34 rfl (by decide) rfl ?_
            refine J_iconst (v := 0) 35 dX6_alike_35 rfl ?_
            refine J_istore (lv' := [some (.ref o), some (.int (nI x)), some (.int (nI (i + 1))), some (.int 0), some (.int 0)]) 36 dX6_alike_36 (by decide) rfl ?_
            exact ih_38_ (i + 1) x 0 0 ar1 (by omega) (by first | assumption | omega | rfl) (by first | assumption | omega | rfl) (by first | assumption | (rw [fMax_1, ← hx, ← hcc_]; omega) | rfl) (by first | rfl | exact fCnt_st hc (by assumption) | exact fCnt_sf hc (by assumption)) (by first | assumption | omega | rfl)
        · skip
          have c_2_ : ¬ c ≤ x := fun z_ => c_2_ ((nI_leI (a := c) (b := x) (by omega) (by omega)).mpr z_)
          refine J_iload_n 85 3 dX6_alike_85 rfl rfl ?_
          refine J_goto (tgt := 90) 86 dX6_alike_86 (by decide) ?_
          refine J_istore_n (lv' := [some (.ref o), some (.int (nI c)), some (.int (nI i)), some (.int (nI c)), some (.int (nI j))]) 90 1 dX6_alike_90 rfl (by decide) rfl ?_
          refine J_iinc (v := nI (i + 1)) (lv' := [some (.ref o), some (.int (nI c)), some (.int (nI (i + 1))), some (.int (nI c)), some (.int (nI j))]) 91 dX6_alike_91 rfl (nI_add _ 1) (by decide) rfl ?_
          refine J_goto (tgt := 22) 94 dX6_alike_94 (by decide) ?_
          refine J_iload_n 22 2 dX6_alike_22 rfl rfl ?_
          refine J_aload_n 23 0 dX6_alike_23 rfl rfl ?_
          refine g_789 (v := .ref rw) 24 0 rfl rfl dX6_alike_24 ?_
          refine J_bipush (v := 6) 27 dX6_alike_27 rfl ?_
          refine J_iald 29 1 6 rfl rfl (by omega) (by decide) dX6_alike_29 ?_
          refine J_topi (y := nI nh) 30 (fR_nh rfl) ?_
          refine J_icmp_ge (tgt := 97) 30 dX6_alike_30 (by decide) (fun c_4_ => ?_) (fun c_4_ => ?_)
          · skip
            have c_4_ : nh ≤ (i + 1) := (nI_leI (a := nh) (b := (i + 1)) (by omega) (by omega)).mp c_4_
            refine J_aload_n 97 0 dX6_alike_97 rfl rfl ?_
            refine g_792 (v := .ref tr) 98 0 rfl rfl dX6_alike_98 ?_
            refine J_aload_n 101 0 dX6_alike_101 rfl rfl ?_
            refine g_789 (v := .ref rw) 102 0 rfl rfl dX6_alike_102 ?_
            refine kb_RX6_173 (bs' := [wMo o rw fr kp tr ik tp tm mso bg en wd va gd rs mu rm ss msz msh mho mhn mhz kd nb tn tc bo ip, wMr G rw la ns sd to he sw nh ki te mi ar z, wMr G tr la ns sd to he sw nh ki te mi ar z]) (rest := []) (st' := []) 105 (c_X6_moveAll_r l G tr la ns sd to he sw nh ki te mi ar z rw la ns (sd + min 12 (ns - sd)) to he sw nh ki (fTe (fun h_ => h_ < nh) la ki mi te ar to he sw sd (min 12 (ns - sd))) mi ar1 z ) [2, 1] rfl rfl [[tr], [rw]] rfl rfl rfl rfl rfl rfl (Nat.le_of_ble_eq_true rfl) rfl dX6_alike_105 ?_
            refine J_iload_n 108 1 dX6_alike_108 rfl rfl ?_
            exact J_iretP 109 dX6_alike_109 (congrArg (fun x_ => some (Value.int x_)) (by first | (show nI _ = nI (fAl _ _); congr 1; show _ = fMax _ nh; rw [← har, show nh = i + 1 by omega, fMax_1]; rw [show i + 1 = nh by omega, ← hx, ← hcc_]; omega) | (rw [show nh = 0 by omega]; rfl))) ⟨la, ns, sd, to, he, sw, nh, ki, te, mi, ar, z, rfl⟩
          · skip
            have c_4_ : ¬ nh ≤ (i + 1) := fun z_ => c_4_ ((nI_leI (a := nh) (b := (i + 1)) (by omega) (by omega)).mpr z_)
            refine J_iconst (v := 0) 33 dX6_alike_33 rfl ?_
            refine J_istore_n (lv' := [some (.ref o), some (.int (nI c)), some (.int (nI (i + 1))), some (.int 0), some (.int (nI j))]) 34 3 dX6_alike_34 rfl (by decide) rfl ?_
            refine J_iconst (v := 0) 35 dX6_alike_35 rfl ?_
            refine J_istore (lv' := [some (.ref o), some (.int (nI c)), some (.int (nI (i + 1))), some (.int 0), some (.int 0)]) 36 dX6_alike_36 (by decide) rfl ?_
            exact ih_38_ (i + 1) c 0 0 ar1 (by omega) (by first | assumption | omega | rfl) (by first | assumption | omega | rfl) (by first | assumption | (rw [fMax_1, ← hx, ← hcc_]; omega) | rfl) (by first | rfl | exact fCnt_st hc (by assumption) | exact fCnt_sf hc (by assumption)) (by first | assumption | omega | rfl)
      · skip
        have c_1_ : ¬ nh ≤ j := fun z_ => c_1_ ((nI_leI (a := nh) (b := j) (by omega) (by omega)).mpr z_)
        refine J_iload_n 50 3 dX6_alike_50 rfl rfl ?_
        refine J_aload_n 51 0 dX6_alike_51 rfl rfl ?_
        refine J_iload 52 dX6_alike_52 rfl ?_
        refine J_iconst (v := 3) 54 dX6_alike_54 rfl ?_
        refine kb_RX6_187 (bs' := [wMo o rw fr kp tr ik tp tm mso bg en wd va gd rs mu rm ss msz msh mho mhn mhz kd nb tn tc bo ip, wMr G rw la ns (sd + min 12 (ns - sd)) to he sw nh ki (fTe (fun h_ => h_ < nh) la ki mi te ar to he sw sd (min 12 (ns - sd))) mi ar1 z, wMr G tr la ns sd to he sw nh ki te mi ar z]) (rest := [.int (nI c)]) (st' := [.int (ar1 j), .int (nI c)]) 55 (c_X6_its_3 l G j o rw fr kp tr ik tp tm mso bg en wd va gd rs mu rm ss msz msh mho mhn mhz kd nb tn tc bo ip la ns (sd + min 12 (ns - sd)) to he sw nh ki (fTe (fun h_ => h_ < nh) la ki mi te ar to he sw sd (min 12 (ns - sd))) mi ar1 z (by first | omega | assumption)) [0, 1] 0 rfl rfl rfl [[o], [rw]] rfl rfl rfl rfl rfl rfl (Nat.le_of_ble_eq_true rfl) rfl dX6_alike_55 ?_
        refine J_aload_n 58 0 dX6_alike_58 rfl rfl ?_
        refine J_iload_n 59 2 dX6_alike_59 rfl rfl ?_
        refine J_iconst (v := 3) 60 dX6_alike_60 rfl ?_
        refine kb_RX6_187 (bs' := [wMo o rw fr kp tr ik tp tm mso bg en wd va gd rs mu rm ss msz msh mho mhn mhz kd nb tn tc bo ip, wMr G rw la ns (sd + min 12 (ns - sd)) to he sw nh ki (fTe (fun h_ => h_ < nh) la ki mi te ar to he sw sd (min 12 (ns - sd))) mi ar1 z, wMr G tr la ns sd to he sw nh ki te mi ar z]) (rest := [.int (ar1 j), .int (nI c)]) (st' := [.int (ar1 i), .int (ar1 j), .int (nI c)]) 61 (c_X6_its_3 l G i o rw fr kp tr ik tp tm mso bg en wd va gd rs mu rm ss msz msh mho mhn mhz kd nb tn tc bo ip la ns (sd + min 12 (ns - sd)) to he sw nh ki (fTe (fun h_ => h_ < nh) la ki mi te ar to he sw sd (min 12 (ns - sd))) mi ar1 z (by first | omega | assumption)) [0, 1] 0 rfl rfl rfl [[o], [rw]] rfl rfl rfl rfl rfl rfl (Nat.le_of_ble_eq_true rfl) rfl dX6_alike_61 ?_
        refine J_icmp_ne (tgt := 71) 64 dX6_alike_64 (by decide) (fun c_5_ => ?_) (fun c_5_ => ?_)
        · skip
          refine J_iconst (v := 0) 71 dX6_alike_71 rfl ?_
          refine J_iadd 72 dX6_alike_72 ?_
          refine J_topi (y := nI (c + 0)) 73 (nI_add c 0) ?_
          refine J_istore_n (lv' := [some (.ref o), some (.int (nI x)), some (.int (nI i)), some (.int (nI (c + 0))), some (.int (nI j))]) 73 3 dX6_alike_73 rfl (by decide) rfl ?_
          refine J_iinc (v := nI (j + 1)) (lv' := [some (.ref o), some (.int (nI x)), some (.int (nI i)), some (.int (nI (c + 0))), some (.int (nI (j + 1)))]) 74 dX6_alike_74 rfl (nI_add _ 1) (by decide) rfl ?_
          refine J_goto (tgt := 38) 77 dX6_alike_77 (by decide) ?_
          exact ih_38_ i x (j + 1) (c + 0) ar1 (by omega) (by first | assumption | omega | rfl) (by first | assumption | omega | rfl) (by first | assumption | (rw [fMax_1, ← hx, ← hcc_]; omega) | rfl) (by first | rfl | exact fCnt_st hc (by assumption) | exact fCnt_sf hc (by assumption)) (by first | assumption | omega | rfl)
        · skip
          refine J_iconst (v := 1) 67 dX6_alike_67 rfl ?_
          refine J_goto (tgt := 72) 68 dX6_alike_68 (by decide) ?_
          refine J_iadd 72 dX6_alike_72 ?_
          refine J_topi (y := nI (c + 1)) 73 (nI_add c 1) ?_
          refine J_istore_n (lv' := [some (.ref o), some (.int (nI x)), some (.int (nI i)), some (.int (nI (c + 1))), some (.int (nI j))]) 73 3 dX6_alike_73 rfl (by decide) rfl ?_
          refine J_iinc (v := nI (j + 1)) (lv' := [some (.ref o), some (.int (nI x)), some (.int (nI i)), some (.int (nI (c + 1))), some (.int (nI (j + 1)))]) 74 dX6_alike_74 rfl (nI_add _ 1) (by decide) rfl ?_
          refine J_goto (tgt := 38) 77 dX6_alike_77 (by decide) ?_
          exact ih_38_ i x (j + 1) (c + 1) ar1 (by omega) (by first | assumption | omega | rfl) (by first | assumption | omega | rfl) (by first | assumption | (rw [fMax_1, ← hx, ← hcc_]; omega) | rfl) (by first | rfl | exact fCnt_st hc (by assumption) | exact fCnt_sf hc (by assumption)) (by first | assumption | omega | rfl)
  refine J_aload_n 0 0 dX6_alike_0 rfl rfl ?_
  refine g_789 (v := .ref rw) 1 0 rfl rfl dX6_alike_1 ?_
  refine J_aload_n 4 0 dX6_alike_4 rfl rfl ?_
  refine g_792 (v := .ref tr) 5 0 rfl rfl dX6_alike_5 ?_
  refine kb_RX6_173 (bs' := [wMo o rw fr kp tr ik tp tm mso bg en wd va gd rs mu rm ss msz msh mho mhn mhz kd nb tn tc bo ip, wMr G rw la ns sd to he sw nh ki te mi ar z, wMr G tr la ns sd to he sw nh ki te mi ar z]) (rest := []) (st' := []) 8 (c_X6_moveAll_r l G rw la ns sd to he sw nh ki te mi ar z tr t_la t_ns t_sd t_to t_he t_sw t_nh t_ki t_te t_mi t_ar t_z ) [1, 2] rfl rfl [[rw], [tr]] rfl rfl rfl rfl rfl rfl (Nat.le_of_ble_eq_true rfl) rfl dX6_alike_8 ?_
  refine J_aload_n 11 0 dX6_alike_11 rfl rfl ?_
  refine J_bipush (v := 12) 12 dX6_alike_12 rfl ?_
  refine kb_RX6_228 (bs' := [wMo o rw fr kp tr ik tp tm mso bg en wd va gd rs mu rm ss msz msh mho mhn mhz kd nb tn tc bo ip, wMr G rw la ns (sd + min 12 (ns - sd)) to he sw nh ki (fTe (fun h_ => h_ < nh) la ki mi te ar to he sw sd (min 12 (ns - sd))) mi (fAr (fun h_ => h_ < nh) la ki mi te ar to he sw sd (min 12 (ns - sd))) z, wMr G tr la ns sd to he sw nh ki te mi ar z]) (rest := []) (st' := [.int (nI (min 12 (ns - sd)))]) 14 (c_X6_says l G 12 o rw fr kp tr ik tp tm mso bg en wd va gd rs mu rm ss msz msh mho mhn mhz kd nb tn tc bo ip la ns sd to he sw nh ki te mi ar z (by first | omega | assumption) (by first | omega | assumption) (by first | omega | assumption) (by first | omega | assumption)) [0, 1] 0 rfl rfl rfl [[o], [rw]] rfl rfl rfl rfl rfl rfl (Nat.le_of_ble_eq_true rfl) rfl dX6_alike_14 ?_
  refine J_pop 17 dX6_alike_17 rfl ?_
  refine J_iconst (v := 0) 18 dX6_alike_18 rfl ?_
  refine J_istore_n (lv' := [some (.ref o), some (.int 0), none, none, none]) 19 1 dX6_alike_19 rfl (by decide) rfl ?_
  refine J_iconst (v := 0) 20 dX6_alike_20 rfl ?_
  refine J_istore_n (lv' := [some (.ref o), some (.int 0), some (.int 0), none, none]) 21 2 dX6_alike_21 rfl (by decide) rfl ?_
  refine J_iload_n 22 2 dX6_alike_22 rfl rfl ?_
  refine J_aload_n 23 0 dX6_alike_23 rfl rfl ?_
  refine g_789 (v := .ref rw) 24 0 rfl rfl dX6_alike_24 ?_
  refine J_bipush (v := 6) 27 dX6_alike_27 rfl ?_
  refine J_iald 29 1 6 rfl rfl (by omega) (by decide) dX6_alike_29 ?_
  refine J_topi (y := nI nh) 30 (fR_nh rfl) ?_
  refine J_icmp_ge (tgt := 97) 30 dX6_alike_30 (by decide) (fun c_6_ => ?_) (fun c_6_ => ?_)
  · skip
    have c_6_ : nh ≤ 0 := (nI_leI (a := nh) (b := 0) (by omega) (by omega)).mp c_6_
    refine J_aload_n 97 0 dX6_alike_97 rfl rfl ?_
    refine g_792 (v := .ref tr) 98 0 rfl rfl dX6_alike_98 ?_
    refine J_aload_n 101 0 dX6_alike_101 rfl rfl ?_
    refine g_789 (v := .ref rw) 102 0 rfl rfl dX6_alike_102 ?_
    refine kb_RX6_173 (bs' := [wMo o rw fr kp tr ik tp tm mso bg en wd va gd rs mu rm ss msz msh mho mhn mhz kd nb tn tc bo ip, wMr G rw la ns sd to he sw nh ki te mi ar z, wMr G tr la ns sd to he sw nh ki te mi ar z]) (rest := []) (st' := []) 105 (c_X6_moveAll_r l G tr la ns sd to he sw nh ki te mi ar z rw la ns (sd + min 12 (ns - sd)) to he sw nh ki (fTe (fun h_ => h_ < nh) la ki mi te ar to he sw sd (min 12 (ns - sd))) mi (fAr (fun h_ => h_ < nh) la ki mi te ar to he sw sd (min 12 (ns - sd))) z ) [2, 1] rfl rfl [[tr], [rw]] rfl rfl rfl rfl rfl rfl (Nat.le_of_ble_eq_true rfl) rfl dX6_alike_105 ?_
    refine J_iload_n 108 1 dX6_alike_108 rfl rfl ?_
    exact J_iretP 109 dX6_alike_109 (congrArg (fun x_ => some (Value.int x_)) (by first | (show nI _ = nI (fAl _ _); congr 1; show _ = fMax _ nh; rw [← har, show nh = i + 1 by omega, fMax_1]; rw [show i + 1 = nh by omega, ← hx, ← hcc_]; omega) | (rw [show nh = 0 by omega]; rfl))) ⟨la, ns, sd, to, he, sw, nh, ki, te, mi, ar, z, rfl⟩
  · skip
    have c_6_ : ¬ nh ≤ 0 := fun z_ => c_6_ ((nI_leI (a := nh) (b := 0) (by omega) (by omega)).mpr z_)
    refine J_iconst (v := 0) 33 dX6_alike_33 rfl ?_
    refine J_istore_n (lv' := [some (.ref o), some (.int 0), some (.int 0), some (.int 0), none]) 34 3 dX6_alike_34 rfl (by decide) rfl ?_
    refine J_iconst (v := 0) 35 dX6_alike_35 rfl ?_
    refine J_istore (lv' := [some (.ref o), some (.int 0), some (.int 0), some (.int 0), some (.int 0)]) 36 dX6_alike_36 (by decide) rfl ?_
    exact cut_38_ (((nh - 0) * 16 + (nh - 0)) + 1) 0 0 0 0 (fAr (fun h_ => h_ < nh) la ki mi te ar to he sw sd (min 12 (ns - sd))) (Nat.lt_succ_self _) (by first | assumption | omega | rfl) (by first | assumption | omega | rfl) (by first | assumption | (rw [fMax_1, ← hx, ← hcc_]; omega) | rfl) (by first | rfl | exact fCnt_st hc (by assumption) | exact fCnt_sf hc (by assumption)) (by first | assumption | omega | rfl)
set_option maxRecDepth 100000 in
set_option maxHeartbeats 4000000 in
theorem c_X6_state_0 (l : Launch) (G : Gd) (o : Nat) (rw : Nat) (fr : Nat) (kp : Nat) (tr : Nat) (ik : Int32) (tp : Nat) (tm : Nat) (mso : Int32) (bg : Nat) (en : Nat) (wd : Int64) (va : Int32) (gd : Int32) (rs : Nat) (mu : Nat) (rm : Nat) (ss : Nat) (msz : Nat) (msh : Nat) (mho : Nat) (mhn : Nat) (mhz : Nat) (kd : Int32) (nb : Int32) (tn : Int32) (tc : Nat) (bo : Nat) (ip : Int32) (la : Nat → Int32) (ns : Nat) (sd : Nat) (to : Nat → Int32) (he : Nat → Int32) (sw : Nat → Int32) (nh : Nat) (ki : Nat → Int32) (te : Nat → Int32) (mi : Nat → Int32) (ar : Nat → Int32) (z : Int32)  : Ct l G yX6_state cX6_state 2 (some (FieldType.int)) 5 [.ref o, .int 0] (wF [wMo o rw fr kp tr ik tp tm mso bg en wd va gd rs mu rm ss msz msh mho mhn mhz kd nb tn tc bo ip, wMr G rw la ns sd to he sw nh ki te mi ar z]) (some (.int (nI sd))) (wF [wMo o rw fr kp tr ik tp tm mso bg en wd va gd rs mu rm ss msz msh mho mhn mhz kd nb tn tc bo ip, wMr G rw la ns sd to he sw nh ki te mi ar z]) := by
  refine Ct.of "GooseArmsModel" [some (.ref o), some (.int 0)] (by decide +kernel) rfl (Nat.le_of_ble_eq_true rfl) rfl ?_
  refine J_iload_n 0 1 dX6_state_0 rfl rfl ?_
  refine J_tableIn (tgt := 40) (off := 39) 1 0 dX6_state_1 rfl (by decide +kernel) (by decide) ?_
  refine J_aload_n 40 0 dX6_state_40 rfl rfl ?_
  refine g_789 (v := .ref rw) 41 0 rfl rfl dX6_state_41 ?_
  refine J_iconst (v := 4) 44 dX6_state_44 rfl ?_
  refine J_iald 45 1 4 rfl rfl (by omega) (by decide) dX6_state_45 ?_
  refine J_topi (y := nI sd) 46 (fR_sd rfl) ?_
  exact J_iret 46 dX6_state_46 rfl rfl
set_option maxRecDepth 100000 in
set_option maxHeartbeats 4000000 in
theorem c_X6_state_1 (l : Launch) (G : Gd) (o : Nat) (rw : Nat) (fr : Nat) (kp : Nat) (tr : Nat) (ik : Int32) (tp : Nat) (tm : Nat) (mso : Int32) (bg : Nat) (en : Nat) (wd : Int64) (va : Int32) (gd : Int32) (rs : Nat) (mu : Nat) (rm : Nat) (ss : Nat) (msz : Nat) (msh : Nat) (mho : Nat) (mhn : Nat) (mhz : Nat) (kd : Int32) (nb : Int32) (tn : Int32) (tc : Nat) (bo : Nat) (ip : Int32) (la : Nat → Int32) (ns : Nat) (sd : Nat) (to : Nat → Int32) (he : Nat → Int32) (sw : Nat → Int32) (nh : Nat) (ki : Nat → Int32) (te : Nat → Int32) (mi : Nat → Int32) (ar : Nat → Int32) (z : Int32)  : Ct l G yX6_state cX6_state 2 (some (FieldType.int)) 5 [.ref o, .int 1] (wF [wMo o rw fr kp tr ik tp tm mso bg en wd va gd rs mu rm ss msz msh mho mhn mhz kd nb tn tc bo ip, wMr G rw la ns sd to he sw nh ki te mi ar z]) (some (.int (nI ns))) (wF [wMo o rw fr kp tr ik tp tm mso bg en wd va gd rs mu rm ss msz msh mho mhn mhz kd nb tn tc bo ip, wMr G rw la ns sd to he sw nh ki te mi ar z]) := by
  refine Ct.of "GooseArmsModel" [some (.ref o), some (.int 1)] (by decide +kernel) rfl (Nat.le_of_ble_eq_true rfl) rfl ?_
  refine J_iload_n 0 1 dX6_state_0 rfl rfl ?_
  refine J_tableIn (tgt := 47) (off := 46) 1 1 dX6_state_1 rfl (by decide +kernel) (by decide) ?_
  refine J_aload_n 47 0 dX6_state_47 rfl rfl ?_
  refine g_789 (v := .ref rw) 48 0 rfl rfl dX6_state_48 ?_
  refine J_iconst (v := 5) 51 dX6_state_51 rfl ?_
  refine J_iald 52 1 5 rfl rfl (by omega) (by decide) dX6_state_52 ?_
  refine J_topi (y := nI ns) 53 (fR_ns rfl) ?_
  exact J_iret 53 dX6_state_53 rfl rfl
set_option maxRecDepth 100000 in
set_option maxHeartbeats 4000000 in
theorem c_X6_state_2 (l : Launch) (G : Gd) (o : Nat) (rw : Nat) (fr : Nat) (kp : Nat) (tr : Nat) (ik : Int32) (tp : Nat) (tm : Nat) (mso : Int32) (bg : Nat) (en : Nat) (wd : Int64) (va : Int32) (gd : Int32) (rs : Nat) (mu : Nat) (rm : Nat) (ss : Nat) (msz : Nat) (msh : Nat) (mho : Nat) (mhn : Nat) (mhz : Nat) (kd : Int32) (nb : Int32) (tn : Int32) (tc : Nat) (bo : Nat) (ip : Int32) (la : Nat → Int32) (ns : Nat) (sd : Nat) (to : Nat → Int32) (he : Nat → Int32) (sw : Nat → Int32) (nh : Nat) (ki : Nat → Int32) (te : Nat → Int32) (mi : Nat → Int32) (ar : Nat → Int32) (z : Int32) (hns : ns ≤ 12) (hb : ∀ s_, s_ < ns → (sw s_ = 0 ∨ sw s_ = 1)) : Ct l G yX6_state cX6_state 2 (some (FieldType.int)) 5 [.ref o, .int 2] (wF [wMo o rw fr kp tr ik tp tm mso bg en wd va gd rs mu rm ss msz msh mho mhn mhz kd nb tn tc bo ip, wMr G rw la ns sd to he sw nh ki te mi ar z]) (some (.int (fMask (fun s_ => sw s_ = 1) ns))) (wF [wMo o rw fr kp tr ik tp tm mso bg en wd va gd rs mu rm ss msz msh mho mhn mhz kd nb tn tc bo ip, wMr G rw la ns sd to he sw nh ki te mi ar z]) := by
  refine Ct.of "GooseArmsModel" [some (.ref o), some (.int 2)] (by decide +kernel) rfl (Nat.le_of_ble_eq_true rfl) rfl ?_
  refine J_iload_n 0 1 dX6_state_0 rfl rfl ?_
  refine J_tableIn (tgt := 54) (off := 53) 1 2 dX6_state_1 rfl (by decide +kernel) (by decide) ?_
  refine J_aload_n 54 0 dX6_state_54 rfl rfl ?_
  refine kb_RX6_241 (bs' := [wMo o rw fr kp tr ik tp tm mso bg en wd va gd rs mu rm ss msz msh mho mhn mhz kd nb tn tc bo ip, wMr G rw la ns sd to he sw nh ki te mi ar z]) (rest := []) (st' := [.int (fMask (fun s_ => sw s_ = 1) ns)]) 55 (c_X6_soSet l G o rw fr kp tr ik tp tm mso bg en wd va gd rs mu rm ss msz msh mho mhn mhz kd nb tn tc bo ip la ns sd to he sw nh ki te mi ar z (by first | omega | assumption) (by first | omega | assumption)) [0, 1] 0 rfl rfl rfl [[o], [rw]] rfl rfl rfl rfl rfl rfl (Nat.le_of_ble_eq_true rfl) rfl dX6_state_55 ?_
  exact J_iret 58 dX6_state_58 rfl rfl
set_option maxRecDepth 100000 in
set_option maxHeartbeats 4000000 in
theorem c_X6_state_3 (l : Launch) (G : Gd) (o : Nat) (rw : Nat) (fr : Nat) (kp : Nat) (tr : Nat) (ik : Int32) (tp : Nat) (tm : Nat) (mso : Int32) (bg : Nat) (en : Nat) (wd : Int64) (va : Int32) (gd : Int32) (rs : Nat) (mu : Nat) (rm : Nat) (ss : Nat) (msz : Nat) (msh : Nat) (mho : Nat) (mhn : Nat) (mhz : Nat) (kd : Int32) (nb : Int32) (tn : Int32) (tc : Nat) (bo : Nat) (ip : Int32) (la : Nat → Int32) (ns : Nat) (sd : Nat) (to : Nat → Int32) (he : Nat → Int32) (sw : Nat → Int32) (nh : Nat) (ki : Nat → Int32) (te : Nat → Int32) (mi : Nat → Int32) (ar : Nat → Int32) (z : Int32) (hnh : nh ≤ 8) : Ct l G yX6_state cX6_state 2 (some (FieldType.int)) 5 [.ref o, .int 3] (wF [wMo o rw fr kp tr ik tp tm mso bg en wd va gd rs mu rm ss msz msh mho mhn mhz kd nb tn tc bo ip, wMr G rw la ns sd to he sw nh ki te mi ar z]) (some (.int (fSum te nh))) (wF [wMo o rw fr kp tr ik tp tm mso bg en wd va gd rs mu rm ss msz msh mho mhn mhz kd nb tn tc bo ip, wMr G rw la ns sd to he sw nh ki te mi ar z]) := by
  refine Ct.of "GooseArmsModel" [some (.ref o), some (.int 3)] (by decide +kernel) rfl (Nat.le_of_ble_eq_true rfl) rfl ?_
  refine J_iload_n 0 1 dX6_state_0 rfl rfl ?_
  refine J_tableIn (tgt := 59) (off := 58) 1 3 dX6_state_1 rfl (by decide +kernel) (by decide) ?_
  refine J_aload_n 59 0 dX6_state_59 rfl rfl ?_
  refine kb_RX6_244 (bs' := [wMo o rw fr kp tr ik tp tm mso bg en wd va gd rs mu rm ss msz msh mho mhn mhz kd nb tn tc bo ip, wMr G rw la ns sd to he sw nh ki te mi ar z]) (rest := []) (st' := [.int (fSum te nh)]) 60 (c_X6_tenderness l G o rw fr kp tr ik tp tm mso bg en wd va gd rs mu rm ss msz msh mho mhn mhz kd nb tn tc bo ip la ns sd to he sw nh ki te mi ar z (by first | omega | assumption)) [0, 1] 0 rfl rfl rfl [[o], [rw]] rfl rfl rfl rfl rfl rfl (Nat.le_of_ble_eq_true rfl) rfl dX6_state_60 ?_
  exact J_iret 63 dX6_state_63 rfl rfl
set_option maxRecDepth 100000 in
set_option maxHeartbeats 4000000 in
theorem c_X6_state_4 (l : Launch) (G : Gd) (o : Nat) (rw : Nat) (fr : Nat) (kp : Nat) (tr : Nat) (ik : Int32) (tp : Nat) (tm : Nat) (mso : Int32) (bg : Nat) (en : Nat) (wd : Int64) (va : Int32) (gd : Int32) (rs : Nat) (mu : Nat) (rm : Nat) (ss : Nat) (msz : Nat) (msh : Nat) (mho : Nat) (mhn : Nat) (mhz : Nat) (kd : Int32) (nb : Int32) (tn : Int32) (tc : Nat) (bo : Nat) (ip : Int32) (la : Nat → Int32) (ns : Nat) (sd : Nat) (to : Nat → Int32) (he : Nat → Int32) (sw : Nat → Int32) (nh : Nat) (ki : Nat → Int32) (te : Nat → Int32) (mi : Nat → Int32) (ar : Nat → Int32) (z : Int32) (hnh : nh ≤ 8) : Ct l G yX6_state cX6_state 2 (some (FieldType.int)) 5 [.ref o, .int 4] (wF [wMo o rw fr kp tr ik tp tm mso bg en wd va gd rs mu rm ss msz msh mho mhn mhz kd nb tn tc bo ip, wMr G rw la ns sd to he sw nh ki te mi ar z]) (some (.int (fMask (fun h_ => ¬ ar h_ = 0) nh))) (wF [wMo o rw fr kp tr ik tp tm mso bg en wd va gd rs mu rm ss msz msh mho mhn mhz kd nb tn tc bo ip, wMr G rw la ns sd to he sw nh ki te mi ar z]) := by
  refine Ct.of "GooseArmsModel" [some (.ref o), some (.int 4)] (by decide +kernel) rfl (Nat.le_of_ble_eq_true rfl) rfl ?_
  refine J_iload_n 0 1 dX6_state_0 rfl rfl ?_
  refine J_tableIn (tgt := 64) (off := 63) 1 4 dX6_state_1 rfl (by decide +kernel) (by decide) ?_
  refine J_aload_n 64 0 dX6_state_64 rfl rfl ?_
  refine kb_RX6_247 (bs' := [wMo o rw fr kp tr ik tp tm mso bg en wd va gd rs mu rm ss msz msh mho mhn mhz kd nb tn tc bo ip, wMr G rw la ns sd to he sw nh ki te mi ar z]) (rest := []) (st' := [.int (fMask (fun h_ => ¬ ar h_ = 0) nh)]) 65 (c_X6_roughSet l G o rw fr kp tr ik tp tm mso bg en wd va gd rs mu rm ss msz msh mho mhn mhz kd nb tn tc bo ip la ns sd to he sw nh ki te mi ar z (by first | omega | assumption)) [0, 1] 0 rfl rfl rfl [[o], [rw]] rfl rfl rfl rfl rfl rfl (Nat.le_of_ble_eq_true rfl) rfl dX6_state_65 ?_
  exact J_iret 68 dX6_state_68 rfl rfl
set_option maxRecDepth 100000 in
set_option maxHeartbeats 4000000 in
theorem c_X6_state_badw (l : Launch) (G : Gd) (w : Int32) (o : Nat) (rw : Nat) (fr : Nat) (kp : Nat) (tr : Nat) (ik : Int32) (tp : Nat) (tm : Nat) (mso : Int32) (bg : Nat) (en : Nat) (wd : Int64) (va : Int32) (gd : Int32) (rs : Nat) (mu : Nat) (rm : Nat) (ss : Nat) (msz : Nat) (msh : Nat) (mho : Nat) (mhn : Nat) (mhz : Nat) (kd : Int32) (nb : Int32) (tn : Int32) (tc : Nat) (bo : Nat) (ip : Int32) (hw : ¬ (0 ≤ w ∧ w ≤ 5)) : Ct l G yX6_state cX6_state 2 (some (FieldType.int)) 5 [.ref o, .int w] (wF [wMo o rw fr kp tr ik tp tm mso bg en wd va gd rs mu rm ss msz msh mho mhn mhz kd nb tn tc bo ip]) (some (.int (-1))) (wF [wMo o rw fr kp tr ik tp tm mso bg en wd va gd rs mu rm ss msz msh mho mhn mhz kd nb tn tc bo ip]) := by
  refine Ct.of "GooseArmsModel" [some (.ref o), some (.int w)] (by decide +kernel) rfl (Nat.le_of_ble_eq_true rfl) rfl ?_
  refine J_iload_n 0 1 dX6_state_0 rfl rfl ?_
  by_cases e_1_ : w = 0
  · skip
    exact (hw (by rw [e_1_]; decide)).elim
  by_cases e_2_ : w = 1
  · skip
    exact (hw (by rw [e_2_]; decide)).elim
  by_cases e_3_ : w = 2
  · skip
    exact (hw (by rw [e_3_]; decide)).elim
  by_cases e_4_ : w = 3
  · skip
    exact (hw (by rw [e_4_]; decide)).elim
  by_cases e_5_ : w = 4
  · skip
    exact (hw (by rw [e_5_]; decide)).elim
  by_cases e_6_ : w = 5
  · skip
    exact (hw (by rw [e_6_]; decide)).elim
  refine J_tableOut (tgt := 74) 1 dX6_state_1 (by have q0_ := lv_neT (a := 0) e_1_ (by decide); have q1_ := lv_neT (a := 1) e_2_ (by decide); have q2_ := lv_neT (a := 2) e_3_ (by decide); have q3_ := lv_neT (a := 3) e_4_ (by decide); have q4_ := lv_neT (a := 4) e_5_ (by decide); have q5_ := lv_neT (a := 5) e_6_ (by decide); omega) (by decide) ?_
  refine J_iconst (v := (-1)) 74 dX6_state_74 rfl ?_
  exact J_iret 75 dX6_state_75 rfl rfl
set_option maxRecDepth 100000 in
set_option maxHeartbeats 4000000 in
theorem c_X6_state_5 (l : Launch) (G : Gd) (o : Nat) (rw : Nat) (fr : Nat) (kp : Nat) (tr : Nat) (ik : Int32) (tp : Nat) (tm : Nat) (mso : Int32) (bg : Nat) (en : Nat) (wd : Int64) (va : Int32) (gd : Int32) (rs : Nat) (mu : Nat) (rm : Nat) (ss : Nat) (msz : Nat) (msh : Nat) (mho : Nat) (mhn : Nat) (mhz : Nat) (kd : Int32) (nb : Int32) (tn : Int32) (tc : Nat) (bo : Nat) (ip : Int32) (la : Nat → Int32) (ns : Nat) (sd : Nat) (to : Nat → Int32) (he : Nat → Int32) (sw : Nat → Int32) (nh : Nat) (ki : Nat → Int32) (te : Nat → Int32) (mi : Nat → Int32) (ar : Nat → Int32) (z : Int32) (t_la : Nat → Int32) (t_ns : Nat) (t_sd : Nat) (t_to : Nat → Int32) (t_he : Nat → Int32) (t_sw : Nat → Int32) (t_nh : Nat) (t_ki : Nat → Int32) (t_te : Nat → Int32) (t_mi : Nat → Int32) (t_ar : Nat → Int32) (t_z : Int32) (hnh : nh ≤ 8) (hns : ns ≤ 12) (hsd : sd ≤ ns) : CtP l G yX6_state cX6_state 2 (some (FieldType.int)) 5 [.ref o, .int 5] (wF [wMo o rw fr kp tr ik tp tm mso bg en wd va gd rs mu rm ss msz msh mho mhn mhz kd nb tn tc bo ip, wMr G rw la ns sd to he sw nh ki te mi ar z, wMr G tr t_la t_ns t_sd t_to t_he t_sw t_nh t_ki t_te t_mi t_ar t_z]) (some (.int (nI (fAl (fAr (fun h_ => h_ < nh) la ki mi te ar to he sw sd (min 12 (ns - sd))) nh)))) (fun w_ => ∃ (j_2_la : Nat → Int32) (j_2_ns : Nat) (j_2_sd : Nat) (j_2_to : Nat → Int32) (j_2_he : Nat → Int32) (j_2_sw : Nat → Int32) (j_2_nh : Nat) (j_2_ki : Nat → Int32) (j_2_te : Nat → Int32) (j_2_mi : Nat → Int32) (j_2_ar : Nat → Int32) (j_2_z : Int32), w_ = (wF [wMo o rw fr kp tr ik tp tm mso bg en wd va gd rs mu rm ss msz msh mho mhn mhz kd nb tn tc bo ip, wMr G rw la ns sd to he sw nh ki te mi ar z, wMr G tr j_2_la j_2_ns j_2_sd j_2_to j_2_he j_2_sw j_2_nh j_2_ki j_2_te j_2_mi j_2_ar j_2_z])) := by
  refine CtP.of "GooseArmsModel" [some (.ref o), some (.int 5)] (by decide +kernel) rfl (Nat.le_of_ble_eq_true rfl) rfl ?_
  refine J_iload_n 0 1 dX6_state_0 rfl rfl ?_
  refine J_tableIn (tgt := 69) (off := 68) 1 5 dX6_state_1 rfl (by decide +kernel) (by decide) ?_
  refine J_aload_n 69 0 dX6_state_69 rfl rfl ?_
  refine J_bVP (rest := []) (st' := [.int (nI (fAl (fAr (fun h_ => h_ < nh) la ki mi te ar to he sw sd (min 12 (ns - sd))) nh))]) 70 (c_X6_alike l G o rw fr kp tr ik tp tm mso bg en wd va gd rs mu rm ss msz msh mho mhn mhz kd nb tn tc bo ip la ns sd to he sw nh ki te mi ar z t_la t_ns t_sd t_to t_he t_sw t_nh t_ki t_te t_mi t_ar t_z (by first | omega | assumption) (by first | omega | assumption) (by first | omega | assumption)) w_1113 w_1115 v_51 w_7 w_1116 ok_X6_alike [0, 1, 2] 0 6 rfl rfl rfl rfl [[o], [rw], [tr]] rfl (fun w1s_ => ∃ (x_70_2_la : Nat → Int32) (x_70_2_ns : Nat) (x_70_2_sd : Nat) (x_70_2_to : Nat → Int32) (x_70_2_he : Nat → Int32) (x_70_2_sw : Nat → Int32) (x_70_2_nh : Nat) (x_70_2_ki : Nat → Int32) (x_70_2_te : Nat → Int32) (x_70_2_mi : Nat → Int32) (x_70_2_ar : Nat → Int32) (x_70_2_z : Int32), w1s_ = [wMo o rw fr kp tr ik tp tm mso bg en wd va gd rs mu rm ss msz msh mho mhn mhz kd nb tn tc bo ip, wMr G rw la ns sd to he sw nh ki te mi ar z, wMr G tr x_70_2_la x_70_2_ns x_70_2_sd x_70_2_to x_70_2_he x_70_2_sw x_70_2_nh x_70_2_ki x_70_2_te x_70_2_mi x_70_2_ar x_70_2_z]) (by rintro _ ⟨x_70_2_la, x_70_2_ns, x_70_2_sd, x_70_2_to, x_70_2_he, x_70_2_sw, x_70_2_nh, x_70_2_ki, x_70_2_te, x_70_2_mi, x_70_2_ar, x_70_2_z, rfl⟩; exact ⟨_, rfl, ⟨x_70_2_la, x_70_2_ns, x_70_2_sd, x_70_2_to, x_70_2_he, x_70_2_sw, x_70_2_nh, x_70_2_ki, x_70_2_te, x_70_2_mi, x_70_2_ar, x_70_2_z, rfl⟩, rfl⟩) rfl rfl rfl (Nat.le_of_ble_eq_true rfl) rfl dX6_state_70 (fun w1_ hw1_ => ?_)
  obtain ⟨x_70_2_la, x_70_2_ns, x_70_2_sd, x_70_2_to, x_70_2_he, x_70_2_sw, x_70_2_nh, x_70_2_ki, x_70_2_te, x_70_2_mi, x_70_2_ar, x_70_2_z, rfl⟩ := hw1_
  refine J_ws (ws' := (wF [wMo o rw fr kp tr ik tp tm mso bg en wd va gd rs mu rm ss msz msh mho mhn mhz kd nb tn tc bo ip, wMr G rw la ns sd to he sw nh ki te mi ar z, wMr G tr x_70_2_la x_70_2_ns x_70_2_sd x_70_2_to x_70_2_he x_70_2_sw x_70_2_nh x_70_2_ki x_70_2_te x_70_2_mi x_70_2_ar x_70_2_z])) 73 rfl ?_
  exact J_iretP 73 dX6_state_73 rfl ⟨x_70_2_la, x_70_2_ns, x_70_2_sd, x_70_2_to, x_70_2_he, x_70_2_sw, x_70_2_nh, x_70_2_ki, x_70_2_te, x_70_2_mi, x_70_2_ar, x_70_2_z, rfl⟩
set_option maxRecDepth 100000 in
set_option maxHeartbeats 4000000 in
theorem c_X6_arm_bad (l : Launch) (G : Gd) (h : Int32) (n : Int32) (o : Nat) (rw : Nat) (fr : Nat) (kp : Nat) (tr : Nat) (ik : Int32) (tp : Nat) (tm : Nat) (mso : Int32) (bg : Nat) (en : Nat) (wd : Int64) (va : Int32) (gd : Int32) (rs : Nat) (mu : Nat) (rm : Nat) (ss : Nat) (msz : Nat) (msh : Nat) (mho : Nat) (mhn : Nat) (mhz : Nat) (kd : Int32) (nb : Int32) (tn : Int32) (tc : Nat) (bo : Nat) (ip : Int32) (la : Nat → Int32) (ns : Nat) (sd : Nat) (to : Nat → Int32) (he : Nat → Int32) (sw : Nat → Int32) (nh : Nat) (ki : Nat → Int32) (te : Nat → Int32) (mi : Nat → Int32) (ar : Nat → Int32) (z : Int32) (hw : ¬ (0 ≤ h ∧ h ≤ nI nh - 1)) : Ct l G yX6_arm cX6_arm 4 (some (FieldType.int)) 4 [.ref o, .int h, .int n] (wF [wMo o rw fr kp tr ik tp tm mso bg en wd va gd rs mu rm ss msz msh mho mhn mhz kd nb tn tc bo ip, wMr G rw la ns sd to he sw nh ki te mi ar z]) (some (.int (-1))) (wF [wMo o rw fr kp tr ik tp tm mso bg en wd va gd rs mu rm ss msz msh mho mhn mhz kd nb tn tc bo ip, wMr G rw la ns sd to he sw nh ki te mi ar z]) := by
  refine Ct.of "GooseArmsModel" [some (.ref o), some (.int h), some (.int n), none] (by decide +kernel) rfl (Nat.le_of_ble_eq_true rfl) rfl ?_
  refine J_aload_n 0 0 dX6_arm_0 rfl rfl ?_
  refine J_iload_n 1 1 dX6_arm_1 rfl rfl ?_
  refine kb_RX6_206 (bs' := [wMo o rw fr kp tr ik tp tm mso bg en wd va gd rs mu rm ss msz msh mho mhn mhz kd nb tn tc bo ip, wMr G rw la ns sd to he sw nh ki te mi ar z]) (rest := []) (st' := [.int 0]) 2 (c_X6_isOne_f l G h o rw fr kp tr ik tp tm mso bg en wd va gd rs mu rm ss msz msh mho mhn mhz kd nb tn tc bo ip la ns sd to he sw nh ki te mi ar z (by first | omega | assumption)) [0, 1] 0 rfl rfl rfl [[o], [rw]] rfl rfl rfl rfl rfl rfl (Nat.le_of_ble_eq_true rfl) rfl dX6_arm_2 ?_
  refine J_if_eq (tgt := 18) 5 dX6_arm_5 (by decide) (fun _ => ?_) (fun c_1_ => absurd c_1_ (by decide))
  refine J_iconst (v := (-1)) 18 dX6_arm_18 rfl ?_
  exact J_iret 19 dX6_arm_19 rfl rfl
set_option maxRecDepth 100000 in
set_option maxHeartbeats 4000000 in
theorem c_X6_arm_badv (l : Launch) (G : Gd) (h : Nat) (n : Int32) (o : Nat) (rw : Nat) (fr : Nat) (kp : Nat) (tr : Nat) (ik : Int32) (tp : Nat) (tm : Nat) (mso : Int32) (bg : Nat) (en : Nat) (wd : Int64) (va : Int32) (gd : Int32) (rs : Nat) (mu : Nat) (rm : Nat) (ss : Nat) (msz : Nat) (msh : Nat) (mho : Nat) (mhn : Nat) (mhz : Nat) (kd : Int32) (nb : Int32) (tn : Int32) (tc : Nat) (bo : Nat) (ip : Int32) (la : Nat → Int32) (ns : Nat) (sd : Nat) (to : Nat → Int32) (he : Nat → Int32) (sw : Nat → Int32) (nh : Nat) (ki : Nat → Int32) (te : Nat → Int32) (mi : Nat → Int32) (ar : Nat → Int32) (z : Int32) (hh : h < nh) (hnh : nh ≤ 8) (hw : ¬ (0 ≤ n ∧ n ≤ 60)) : Ct l G yX6_arm cX6_arm 4 (some (FieldType.int)) 4 [.ref o, .int (nI h), .int n] (wF [wMo o rw fr kp tr ik tp tm mso bg en wd va gd rs mu rm ss msz msh mho mhn mhz kd nb tn tc bo ip, wMr G rw la ns sd to he sw nh ki te mi ar z]) (some (.int (-1))) (wF [wMo o rw fr kp tr ik tp tm mso bg en wd va gd rs mu rm ss msz msh mho mhn mhz kd nb tn tc bo ip, wMr G rw la ns sd to he sw nh ki te mi ar z]) := by
  refine Ct.of "GooseArmsModel" [some (.ref o), some (.int (nI h)), some (.int n), none] (by decide +kernel) rfl (Nat.le_of_ble_eq_true rfl) rfl ?_
  refine J_aload_n 0 0 dX6_arm_0 rfl rfl ?_
  refine J_iload_n 1 1 dX6_arm_1 rfl rfl ?_
  refine kb_RX6_206 (bs' := [wMo o rw fr kp tr ik tp tm mso bg en wd va gd rs mu rm ss msz msh mho mhn mhz kd nb tn tc bo ip, wMr G rw la ns sd to he sw nh ki te mi ar z]) (rest := []) (st' := [.int 1]) 2 (c_X6_isOne_t l G h o rw fr kp tr ik tp tm mso bg en wd va gd rs mu rm ss msz msh mho mhn mhz kd nb tn tc bo ip la ns sd to he sw nh ki te mi ar z (by assumption) (by omega)) [0, 1] 0 rfl rfl rfl [[o], [rw]] rfl rfl rfl rfl rfl rfl (Nat.le_of_ble_eq_true rfl) rfl dX6_arm_2 ?_
  refine J_if_eq (tgt := 18) 5 dX6_arm_5 (by decide) (fun c_1_ => absurd c_1_ (by decide)) (fun _ => ?_)
  refine J_iload_n 8 2 dX6_arm_8 rfl rfl ?_
  refine J_iconst (v := 0) 9 dX6_arm_9 rfl ?_
  refine J_bipush (v := 60) 10 dX6_arm_10 rfl ?_
  refine kb_RX6_57 (bs' := [wMo o rw fr kp tr ik tp tm mso bg en wd va gd rs mu rm ss msz msh mho mhn mhz kd nb tn tc bo ip, wMr G rw la ns sd to he sw nh ki te mi ar z]) (rest := []) (st' := [.int 0]) 12 (c_X6_in_f l G n 0 60 hw) [] rfl rfl [] rfl rfl rfl rfl rfl rfl (Nat.le_of_ble_eq_true rfl) rfl dX6_arm_12 ?_
  refine J_if_ne (tgt := 20) 15 dX6_arm_15 (by decide) (fun c_2_ => absurd c_2_ (by decide)) (fun _ => ?_)
  refine J_iconst (v := (-1)) 18 dX6_arm_18 rfl ?_
  exact J_iret 19 dX6_arm_19 rfl rfl
set_option maxRecDepth 100000 in
set_option maxHeartbeats 4000000 in
theorem c_X6_arm_ok (l : Launch) (G : Gd) (h : Nat) (n : Nat) (o : Nat) (rw : Nat) (fr : Nat) (kp : Nat) (tr : Nat) (ik : Int32) (tp : Nat) (tm : Nat) (mso : Int32) (bg : Nat) (en : Nat) (wd : Int64) (va : Int32) (gd : Int32) (rs : Nat) (mu : Nat) (rm : Nat) (ss : Nat) (msz : Nat) (msh : Nat) (mho : Nat) (mhn : Nat) (mhz : Nat) (kd : Int32) (nb : Int32) (tn : Int32) (tc : Nat) (bo : Nat) (ip : Int32) (la : Nat → Int32) (ns : Nat) (sd : Nat) (to : Nat → Int32) (he : Nat → Int32) (sw : Nat → Int32) (nh : Nat) (ki : Nat → Int32) (te : Nat → Int32) (mi : Nat → Int32) (ar : Nat → Int32) (z : Int32) (t_la : Nat → Int32) (t_ns : Nat) (t_sd : Nat) (t_to : Nat → Int32) (t_he : Nat → Int32) (t_sw : Nat → Int32) (t_nh : Nat) (t_ki : Nat → Int32) (t_te : Nat → Int32) (t_mi : Nat → Int32) (t_ar : Nat → Int32) (t_z : Int32) (hh : h < nh) (hnh : nh ≤ 8) (hns : ns ≤ 12) (hsd : sd ≤ ns) (hn : n ≤ 60) : CtP l G yX6_arm cX6_arm 4 (some (FieldType.int)) 4 [.ref o, .int (nI h), .int (nI n)] (wF [wMo o rw fr kp tr ik tp tm mso bg en wd va gd rs mu rm ss msz msh mho mhn mhz kd nb tn tc bo ip, wMr G rw la ns sd to he sw nh ki te mi ar z, wMr G tr t_la t_ns t_sd t_to t_he t_sw t_nh t_ki t_te t_mi t_ar t_z]) (some (.int ((fAr (fun h_ => h_ < nh) la ki mi te ar to he sw sd (min n (ns - sd))) h))) (fun w_ => ∃ (j_2_la : Nat → Int32) (j_2_ns : Nat) (j_2_sd : Nat) (j_2_to : Nat → Int32) (j_2_he : Nat → Int32) (j_2_sw : Nat → Int32) (j_2_nh : Nat) (j_2_ki : Nat → Int32) (j_2_te : Nat → Int32) (j_2_mi : Nat → Int32) (j_2_ar : Nat → Int32) (j_2_z : Int32), w_ = (wF [wMo o rw fr kp tr ik tp tm mso bg en wd va gd rs mu rm ss msz msh mho mhn mhz kd nb tn tc bo ip, wMr G rw la ns sd to he sw nh ki te mi ar z, wMr G tr j_2_la j_2_ns j_2_sd j_2_to j_2_he j_2_sw j_2_nh j_2_ki j_2_te j_2_mi j_2_ar j_2_z])) := by
  refine CtP.of "GooseArmsModel" [some (.ref o), some (.int (nI h)), some (.int (nI n)), none] (by decide +kernel) rfl (Nat.le_of_ble_eq_true rfl) rfl ?_
  refine J_aload_n 0 0 dX6_arm_0 rfl rfl ?_
  refine J_iload_n 1 1 dX6_arm_1 rfl rfl ?_
  refine kb_RX6_206 (bs' := [wMo o rw fr kp tr ik tp tm mso bg en wd va gd rs mu rm ss msz msh mho mhn mhz kd nb tn tc bo ip, wMr G rw la ns sd to he sw nh ki te mi ar z, wMr G tr t_la t_ns t_sd t_to t_he t_sw t_nh t_ki t_te t_mi t_ar t_z]) (rest := []) (st' := [.int 1]) 2 (c_X6_isOne_t l G h o rw fr kp tr ik tp tm mso bg en wd va gd rs mu rm ss msz msh mho mhn mhz kd nb tn tc bo ip la ns sd to he sw nh ki te mi ar z (by assumption) (by omega)) [0, 1] 0 rfl rfl rfl [[o], [rw]] rfl rfl rfl rfl rfl rfl (Nat.le_of_ble_eq_true rfl) rfl dX6_arm_2 ?_
  refine J_if_eq (tgt := 18) 5 dX6_arm_5 (by decide) (fun c_1_ => absurd c_1_ (by decide)) (fun _ => ?_)
  refine J_iload_n 8 2 dX6_arm_8 rfl rfl ?_
  refine J_iconst (v := 0) 9 dX6_arm_9 rfl ?_
  refine J_bipush (v := 60) 10 dX6_arm_10 rfl ?_
  refine kb_RX6_57 (bs' := [wMo o rw fr kp tr ik tp tm mso bg en wd va gd rs mu rm ss msz msh mho mhn mhz kd nb tn tc bo ip, wMr G rw la ns sd to he sw nh ki te mi ar z, wMr G tr t_la t_ns t_sd t_to t_he t_sw t_nh t_ki t_te t_mi t_ar t_z]) (rest := []) (st' := [.int 1]) 12 (c_X6_in_t l G (nI n) 0 60 (inM_t (a := 0) (m := 60) (Nat.zero_le _) hn (by decide))) [] rfl rfl [] rfl rfl rfl rfl rfl rfl (Nat.le_of_ble_eq_true rfl) rfl dX6_arm_12 ?_
  refine J_if_ne (tgt := 20) 15 dX6_arm_15 (by decide) (fun _ => ?_) (fun c_2_ => absurd c_2_ (by decide))
  refine J_aload_n 20 0 dX6_arm_20 rfl rfl ?_
  refine g_789 (v := .ref rw) 21 0 rfl rfl dX6_arm_21 ?_
  refine J_aload_n 24 0 dX6_arm_24 rfl rfl ?_
  refine g_792 (v := .ref tr) 25 0 rfl rfl dX6_arm_25 ?_
  refine kb_RX6_173 (bs' := [wMo o rw fr kp tr ik tp tm mso bg en wd va gd rs mu rm ss msz msh mho mhn mhz kd nb tn tc bo ip, wMr G rw la ns sd to he sw nh ki te mi ar z, wMr G tr la ns sd to he sw nh ki te mi ar z]) (rest := []) (st' := []) 28 (c_X6_moveAll_r l G rw la ns sd to he sw nh ki te mi ar z tr t_la t_ns t_sd t_to t_he t_sw t_nh t_ki t_te t_mi t_ar t_z ) [1, 2] rfl rfl [[rw], [tr]] rfl rfl rfl rfl rfl rfl (Nat.le_of_ble_eq_true rfl) rfl dX6_arm_28 ?_
  refine J_aload_n 31 0 dX6_arm_31 rfl rfl ?_
  refine J_iload_n 32 2 dX6_arm_32 rfl rfl ?_
  refine kb_RX6_228 (bs' := [wMo o rw fr kp tr ik tp tm mso bg en wd va gd rs mu rm ss msz msh mho mhn mhz kd nb tn tc bo ip, wMr G rw la ns (sd + min n (ns - sd)) to he sw nh ki (fTe (fun h_ => h_ < nh) la ki mi te ar to he sw sd (min n (ns - sd))) mi (fAr (fun h_ => h_ < nh) la ki mi te ar to he sw sd (min n (ns - sd))) z, wMr G tr la ns sd to he sw nh ki te mi ar z]) (rest := []) (st' := [.int (nI (min n (ns - sd)))]) 33 (c_X6_says l G n o rw fr kp tr ik tp tm mso bg en wd va gd rs mu rm ss msz msh mho mhn mhz kd nb tn tc bo ip la ns sd to he sw nh ki te mi ar z (by first | omega | assumption) (by first | omega | assumption) (by first | omega | assumption) (by first | omega | assumption)) [0, 1] 0 rfl rfl rfl [[o], [rw]] rfl rfl rfl rfl rfl rfl (Nat.le_of_ble_eq_true rfl) rfl dX6_arm_33 ?_
  refine J_pop 36 dX6_arm_36 rfl ?_
  refine J_aload_n 37 0 dX6_arm_37 rfl rfl ?_
  refine J_iload_n 38 1 dX6_arm_38 rfl rfl ?_
  refine J_iconst (v := 3) 39 dX6_arm_39 rfl ?_
  refine kb_RX6_187 (bs' := [wMo o rw fr kp tr ik tp tm mso bg en wd va gd rs mu rm ss msz msh mho mhn mhz kd nb tn tc bo ip, wMr G rw la ns (sd + min n (ns - sd)) to he sw nh ki (fTe (fun h_ => h_ < nh) la ki mi te ar to he sw sd (min n (ns - sd))) mi (fAr (fun h_ => h_ < nh) la ki mi te ar to he sw sd (min n (ns - sd))) z, wMr G tr la ns sd to he sw nh ki te mi ar z]) (rest := []) (st' := [.int ((fAr (fun h_ => h_ < nh) la ki mi te ar to he sw sd (min n (ns - sd))) h)]) 40 (c_X6_its_3 l G h o rw fr kp tr ik tp tm mso bg en wd va gd rs mu rm ss msz msh mho mhn mhz kd nb tn tc bo ip la ns (sd + min n (ns - sd)) to he sw nh ki (fTe (fun h_ => h_ < nh) la ki mi te ar to he sw sd (min n (ns - sd))) mi (fAr (fun h_ => h_ < nh) la ki mi te ar to he sw sd (min n (ns - sd))) z (by first | omega | assumption)) [0, 1] 0 rfl rfl rfl [[o], [rw]] rfl rfl rfl rfl rfl rfl (Nat.le_of_ble_eq_true rfl) rfl dX6_arm_40 ?_
  refine J_istore_n (lv' := [some (.ref o), some (.int (nI h)), some (.int (nI n)), some (.int ((fAr (fun h_ => h_ < nh) la ki mi te ar to he sw sd (min n (ns - sd))) h))]) 43 3 dX6_arm_43 rfl (by decide) rfl ?_
  refine J_aload_n 44 0 dX6_arm_44 rfl rfl ?_
  refine g_792 (v := .ref tr) 45 0 rfl rfl dX6_arm_45 ?_
  refine J_aload_n 48 0 dX6_arm_48 rfl rfl ?_
  refine g_789 (v := .ref rw) 49 0 rfl rfl dX6_arm_49 ?_
  refine kb_RX6_173 (bs' := [wMo o rw fr kp tr ik tp tm mso bg en wd va gd rs mu rm ss msz msh mho mhn mhz kd nb tn tc bo ip, wMr G rw la ns sd to he sw nh ki te mi ar z, wMr G tr la ns sd to he sw nh ki te mi ar z]) (rest := []) (st' := []) 52 (c_X6_moveAll_r l G tr la ns sd to he sw nh ki te mi ar z rw la ns (sd + min n (ns - sd)) to he sw nh ki (fTe (fun h_ => h_ < nh) la ki mi te ar to he sw sd (min n (ns - sd))) mi (fAr (fun h_ => h_ < nh) la ki mi te ar to he sw sd (min n (ns - sd))) z ) [2, 1] rfl rfl [[tr], [rw]] rfl rfl rfl rfl rfl rfl (Nat.le_of_ble_eq_true rfl) rfl dX6_arm_52 ?_
  refine J_iload_n 55 3 dX6_arm_55 rfl rfl ?_
  exact J_iretP 56 dX6_arm_56 rfl ⟨la, ns, sd, to, he, sw, nh, ki, te, mi, ar, z, rfl⟩
set_option maxRecDepth 100000 in
set_option maxHeartbeats 4000000 in
theorem c_X6_raised_bad (l : Launch) (G : Gd) (h : Int32) (o : Nat) (rw : Nat) (fr : Nat) (kp : Nat) (tr : Nat) (ik : Int32) (tp : Nat) (tm : Nat) (mso : Int32) (bg : Nat) (en : Nat) (wd : Int64) (va : Int32) (gd : Int32) (rs : Nat) (mu : Nat) (rm : Nat) (ss : Nat) (msz : Nat) (msh : Nat) (mho : Nat) (mhn : Nat) (mhz : Nat) (kd : Int32) (nb : Int32) (tn : Int32) (tc : Nat) (bo : Nat) (ip : Int32) (la : Nat → Int32) (ns : Nat) (sd : Nat) (to : Nat → Int32) (he : Nat → Int32) (sw : Nat → Int32) (nh : Nat) (ki : Nat → Int32) (te : Nat → Int32) (mi : Nat → Int32) (ar : Nat → Int32) (z : Int32) (hw : ¬ (0 ≤ h ∧ h ≤ nI nh - 1)) : Ct l G yX6_raised cX6_raised 4 (some (FieldType.int)) 3 [.ref o, .int h] (wF [wMo o rw fr kp tr ik tp tm mso bg en wd va gd rs mu rm ss msz msh mho mhn mhz kd nb tn tc bo ip, wMr G rw la ns sd to he sw nh ki te mi ar z]) (some (.int (-1))) (wF [wMo o rw fr kp tr ik tp tm mso bg en wd va gd rs mu rm ss msz msh mho mhn mhz kd nb tn tc bo ip, wMr G rw la ns sd to he sw nh ki te mi ar z]) := by
  refine Ct.of "GooseArmsModel" [some (.ref o), some (.int h), none, none] (by decide +kernel) rfl (Nat.le_of_ble_eq_true rfl) rfl ?_
  refine J_aload_n 0 0 dX6_raised_0 rfl rfl ?_
  refine J_iload_n 1 1 dX6_raised_1 rfl rfl ?_
  refine kb_RX6_206 (bs' := [wMo o rw fr kp tr ik tp tm mso bg en wd va gd rs mu rm ss msz msh mho mhn mhz kd nb tn tc bo ip, wMr G rw la ns sd to he sw nh ki te mi ar z]) (rest := []) (st' := [.int 0]) 2 (c_X6_isOne_f l G h o rw fr kp tr ik tp tm mso bg en wd va gd rs mu rm ss msz msh mho mhn mhz kd nb tn tc bo ip la ns sd to he sw nh ki te mi ar z (by first | omega | assumption)) [0, 1] 0 rfl rfl rfl [[o], [rw]] rfl rfl rfl rfl rfl rfl (Nat.le_of_ble_eq_true rfl) rfl dX6_raised_2 ?_
  refine J_if_ne (tgt := 10) 5 dX6_raised_5 (by decide) (fun c_1_ => absurd c_1_ (by decide)) (fun _ => ?_)
  refine J_iconst (v := (-1)) 8 dX6_raised_8 rfl ?_
  exact J_iret 9 dX6_raised_9 rfl rfl
set_option maxRecDepth 100000 in
set_option maxHeartbeats 4000000 in
theorem c_X6_raised_ok (l : Launch) (G : Gd) (h : Nat) (o : Nat) (rw : Nat) (fr : Nat) (kp : Nat) (tr : Nat) (ik : Int32) (tp : Nat) (tm : Nat) (mso : Int32) (bg : Nat) (en : Nat) (wd : Int64) (va : Int32) (gd : Int32) (rs : Nat) (mu : Nat) (rm : Nat) (ss : Nat) (msz : Nat) (msh : Nat) (mho : Nat) (mhn : Nat) (mhz : Nat) (kd : Int32) (nb : Int32) (tn : Int32) (tc : Nat) (bo : Nat) (ip : Int32) (la : Nat → Int32) (ns : Nat) (sd : Nat) (to : Nat → Int32) (he : Nat → Int32) (sw : Nat → Int32) (nh : Nat) (ki : Nat → Int32) (te : Nat → Int32) (mi : Nat → Int32) (ar : Nat → Int32) (z : Int32) (t_la : Nat → Int32) (t_ns : Nat) (t_sd : Nat) (t_to : Nat → Int32) (t_he : Nat → Int32) (t_sw : Nat → Int32) (t_nh : Nat) (t_ki : Nat → Int32) (t_te : Nat → Int32) (t_mi : Nat → Int32) (t_ar : Nat → Int32) (t_z : Int32) (hh : h < nh) (hnh : nh ≤ 8) (hns : ns ≤ 12) (hsd : sd ≤ ns) : CtP l G yX6_raised cX6_raised 4 (some (FieldType.int)) 3 [.ref o, .int (nI h)] (wF [wMo o rw fr kp tr ik tp tm mso bg en wd va gd rs mu rm ss msz msh mho mhn mhz kd nb tn tc bo ip, wMr G rw la ns sd to he sw nh ki te mi ar z, wMr G tr t_la t_ns t_sd t_to t_he t_sw t_nh t_ki t_te t_mi t_ar t_z]) (some (.int (fFst (fun i_ => ¬ (evTA la (ki h) (mi h) to he sw sd (i_) (te h, ar h)).2 = 0) (ns - sd + 1) 0))) (fun w_ => ∃ (j_2_la : Nat → Int32) (j_2_ns : Nat) (j_2_sd : Nat) (j_2_to : Nat → Int32) (j_2_he : Nat → Int32) (j_2_sw : Nat → Int32) (j_2_nh : Nat) (j_2_ki : Nat → Int32) (j_2_te : Nat → Int32) (j_2_mi : Nat → Int32) (j_2_ar : Nat → Int32) (j_2_z : Int32), w_ = (wF [wMo o rw fr kp tr ik tp tm mso bg en wd va gd rs mu rm ss msz msh mho mhn mhz kd nb tn tc bo ip, wMr G rw la ns sd to he sw nh ki te mi ar z, wMr G tr j_2_la j_2_ns j_2_sd j_2_to j_2_he j_2_sw j_2_nh j_2_ki j_2_te j_2_mi j_2_ar j_2_z])) := by
  refine CtP.of "GooseArmsModel" [some (.ref o), some (.int (nI h)), none, none] (by decide +kernel) rfl (Nat.le_of_ble_eq_true rfl) rfl ?_
  have cut_23_ : ∀ (n_23_ : Nat) (i : Nat) (te1 : Nat → Int32) (ar1 : Nat → Int32) (sd1 : Nat), (ns - sd - i < n_23_) → (hi : i ≤ ns - sd) → (hte : te1 = fTe (fun h_ => h_ < nh) la ki mi te ar to he sw sd i) → (har : ar1 = (fAr (fun h_ => h_ < nh) la ki mi te ar to he sw sd (i))) → (hs1 : sd1 = sd + i) → (hf : fFst (fun i_ => ¬ (evTA la (ki h) (mi h) to he sw sd (i_) (te h, ar h)).2 = 0) (ns - sd + 1) 0 = fFst (fun i_ => ¬ (evTA la (ki h) (mi h) to he sw sd (i_) (te h, ar h)).2 = 0) (ns - sd + 1 - i) i) → J l G (bdP G 3 (some (FieldType.int)) (some (.int (fFst (fun i_ => ¬ (evTA la (ki h) (mi h) to he sw sd (i_) (te h, ar h)).2 = 0) (ns - sd + 1) 0))) (fun w_ => ∃ (j_2_la : Nat → Int32) (j_2_ns : Nat) (j_2_sd : Nat) (j_2_to : Nat → Int32) (j_2_he : Nat → Int32) (j_2_sw : Nat → Int32) (j_2_nh : Nat) (j_2_ki : Nat → Int32) (j_2_te : Nat → Int32) (j_2_mi : Nat → Int32) (j_2_ar : Nat → Int32) (j_2_z : Int32), w_ = (wF [wMo o rw fr kp tr ik tp tm mso bg en wd va gd rs mu rm ss msz msh mho mhn mhz kd nb tn tc bo ip, wMr G rw la ns sd to he sw nh ki te mi ar z, wMr G tr j_2_la j_2_ns j_2_sd j_2_to j_2_he j_2_sw j_2_nh j_2_ki j_2_te j_2_mi j_2_ar j_2_z]))) cX6_raised 4 "GooseArmsModel" 23 [some (.ref o), some (.int (nI h)), some (.int (nI i)), none] [] (wF [wMo o rw fr kp tr ik tp tm mso bg en wd va gd rs mu rm ss msz msh mho mhn mhz kd nb tn tc bo ip, wMr G rw la ns sd1 to he sw nh ki te1 mi ar1 z, wMr G tr la ns sd to he sw nh ki te mi ar z]) := by
    intro n_23_
    induction n_23_ with
    | zero => intro i te1 ar1 sd1 m_23_; exact absurd m_23_ (Nat.not_lt_zero _)
    | succ n_23_ ih_23_ =>
      intro i te1 ar1 sd1 m_23_ hi hte har hs1 hf
      have hal_ := (fAr_at (L := (fun h_ => h_ < nh)) (la := la) (ki := ki) (mi := mi) (te := te) (ar := ar) (to := to) (he := he) (sw := sw) (sd := sd) (k := i) hh)
      have harm_ := (congrFun har h).trans hal_
      refine J_aload_n 23 0 dX6_raised_23 rfl rfl ?_
      refine J_iload_n 24 1 dX6_raised_24 rfl rfl ?_
      refine J_iconst (v := 3) 25 dX6_raised_25 rfl ?_
      refine kb_RX6_187 (bs' := [wMo o rw fr kp tr ik tp tm mso bg en wd va gd rs mu rm ss msz msh mho mhn mhz kd nb tn tc bo ip, wMr G rw la ns sd1 to he sw nh ki te1 mi ar1 z, wMr G tr la ns sd to he sw nh ki te mi ar z]) (rest := []) (st' := [.int (ar1 h)]) 26 (c_X6_its_3 l G h o rw fr kp tr ik tp tm mso bg en wd va gd rs mu rm ss msz msh mho mhn mhz kd nb tn tc bo ip la ns sd1 to he sw nh ki te1 mi ar1 z (by first | omega | assumption)) [0, 1] 0 rfl rfl rfl [[o], [rw]] rfl rfl rfl rfl rfl rfl (Nat.le_of_ble_eq_true rfl) rfl dX6_raised_26 ?_
      refine J_if_ne (tgt := 51) 29 dX6_raised_29 (by decide) (fun c_1_ => ?_) (fun c_1_ => ?_)
      · skip
        refine J_aload_n 51 0 dX6_raised_51 rfl rfl ?_
        refine J_iload_n 52 1 dX6_raised_52 rfl rfl ?_
        refine J_iconst (v := 3) 53 dX6_raised_53 rfl ?_
        refine kb_RX6_187 (bs' := [wMo o rw fr kp tr ik tp tm mso bg en wd va gd rs mu rm ss msz msh mho mhn mhz kd nb tn tc bo ip, wMr G rw la ns sd1 to he sw nh ki te1 mi ar1 z, wMr G tr la ns sd to he sw nh ki te mi ar z]) (rest := []) (st' := [.int (ar1 h)]) 54 (c_X6_its_3 l G h o rw fr kp tr ik tp tm mso bg en wd va gd rs mu rm ss msz msh mho mhn mhz kd nb tn tc bo ip la ns sd1 to he sw nh ki te1 mi ar1 z (by first | omega | assumption)) [0, 1] 0 rfl rfl rfl [[o], [rw]] rfl rfl rfl rfl rfl rfl (Nat.le_of_ble_eq_true rfl) rfl dX6_raised_54 ?_
        refine J_if_eq (tgt := 64) 57 dX6_raised_57 (by decide) (fun c_2_ => ?_) (fun c_2_ => ?_)
        · skip
          refine J_iconst (v := 0) 64 dX6_raised_64 rfl ?_
          refine J_istore_n (lv' := [some (.ref o), some (.int (nI h)), some (.int (nI i)), some (.int 0)]) 65 3 dX6_raised_65 rfl (by decide) rfl ?_
          refine J_aload_n 66 0 dX6_raised_66 rfl rfl ?_
          refine g_792 (v := .ref tr) 67 0 rfl rfl dX6_raised_67 ?_
          refine J_aload_n 70 0 dX6_raised_70 rfl rfl ?_
          refine g_789 (v := .ref rw) 71 0 rfl rfl dX6_raised_71 ?_
          refine kb_RX6_173 (bs' := [wMo o rw fr kp tr ik tp tm mso bg en wd va gd rs mu rm ss msz msh mho mhn mhz kd nb tn tc bo ip, wMr G rw la ns sd to he sw nh ki te mi ar z, wMr G tr la ns sd to he sw nh ki te mi ar z]) (rest := []) (st' := []) 74 (c_X6_moveAll_r l G tr la ns sd to he sw nh ki te mi ar z rw la ns sd1 to he sw nh ki te1 mi ar1 z ) [2, 1] rfl rfl [[tr], [rw]] rfl rfl rfl rfl rfl rfl (Nat.le_of_ble_eq_true rfl) rfl dX6_raised_74 ?_
          refine J_iload_n 77 3 dX6_raised_77 rfl rfl ?_
          refine J_if_eq (tgt := 85) 78 dX6_raised_78 (by decide) (fun _ => ?_) (fun c_3_ => absurd c_3_ (by decide))
          refine J_bipush (v := (-3)) 85 dX6_raised_85 rfl ?_
          exact J_iretP 87 dX6_raised_87 (congrArg (fun x_ => some (Value.int x_)) (by first | contradiction | exact (hf.trans (fFst_t (by omega) (fun z_ => (by assumption : ¬ ar1 h = 0) (harm_.trans z_)))).symm | exact (hf.trans ((fFst_f (by omega) (fun z_ => z_ (harm_.symm.trans (by assumption : ar1 h = 0)))).trans (fFst_e (by omega)))).symm)) ⟨la, ns, sd, to, he, sw, nh, ki, te, mi, ar, z, rfl⟩
        · skip
          refine J_iconst (v := 1) 60 dX6_raised_60 rfl ?_
          refine J_goto (tgt := 65) 61 dX6_raised_61 (by decide) ?_
          refine J_istore_n (lv' := [some (.ref o), some (.int (nI h)), some (.int (nI i)), some (.int 1)]) 65 3 dX6_raised_65 rfl (by decide) rfl ?_
          refine J_aload_n 66 0 dX6_raised_66 rfl rfl ?_
          refine g_792 (v := .ref tr) 67 0 rfl rfl dX6_raised_67 ?_
          refine J_aload_n 70 0 dX6_raised_70 rfl rfl ?_
          refine g_789 (v := .ref rw) 71 0 rfl rfl dX6_raised_71 ?_
          refine kb_RX6_173 (bs' := [wMo o rw fr kp tr ik tp tm mso bg en wd va gd rs mu rm ss msz msh mho mhn mhz kd nb tn tc bo ip, wMr G rw la ns sd to he sw nh ki te mi ar z, wMr G tr la ns sd to he sw nh ki te mi ar z]) (rest := []) (st' := []) 74 (c_X6_moveAll_r l G tr la ns sd to he sw nh ki te mi ar z rw la ns sd1 to he sw nh ki te1 mi ar1 z ) [2, 1] rfl rfl [[tr], [rw]] rfl rfl rfl rfl rfl rfl (Nat.le_of_ble_eq_true rfl) rfl dX6_raised_74 ?_
          refine J_iload_n 77 3 dX6_raised_77 rfl rfl ?_
          refine J_if_eq (tgt := 85) 78 dX6_raised_78 (by decide) (fun c_4_ => absurd c_4_ (by decide)) (fun _ => ?_)
          refine J_iload_n 81 2 dX6_raised_81 rfl rfl ?_
          refine J_goto (tgt := 87) 82 dX6_raised_82 (by decide) ?_
          exact J_iretP 87 dX6_raised_87 (congrArg (fun x_ => some (Value.int x_)) (by first | contradiction | exact (hf.trans (fFst_t (by omega) (fun z_ => (by assumption : ¬ ar1 h = 0) (harm_.trans z_)))).symm | exact (hf.trans ((fFst_f (by omega) (fun z_ => z_ (harm_.symm.trans (by assumption : ar1 h = 0)))).trans (fFst_e (by omega)))).symm)) ⟨la, ns, sd, to, he, sw, nh, ki, te, mi, ar, z, rfl⟩
      · skip
        refine J_aload_n 32 0 dX6_raised_32 rfl rfl ?_
        refine kb_RX6_209 (bs' := [wMo o rw fr kp tr ik tp tm mso bg en wd va gd rs mu rm ss msz msh mho mhn mhz kd nb tn tc bo ip, wMr G rw la ns sd1 to he sw nh ki te1 mi ar1 z, wMr G tr la ns sd to he sw nh ki te mi ar z]) (rest := []) (st' := [.int (nI (ns - sd1))]) 33 (c_X6_leftMany l G o rw fr kp tr ik tp tm mso bg en wd va gd rs mu rm ss msz msh mho mhn mhz kd nb tn tc bo ip la ns sd1 to he sw nh ki te1 mi ar1 z (by omega)) [0, 1] 0 rfl rfl rfl [[o], [rw]] rfl rfl rfl rfl rfl rfl (Nat.le_of_ble_eq_true rfl) rfl dX6_raised_33 ?_
        refine J_if_le (tgt := 51) 36 dX6_raised_36 (by decide) (fun c_5_ => ?_) (fun c_5_ => ?_)
        · skip
          have c_5_ : (ns - sd1) ≤ 0 := (nI_leI (a := (ns - sd1)) (b := 0) (by omega) (by omega)).mp c_5_
          refine J_aload_n 51 0 dX6_raised_51 rfl rfl ?_
          refine J_iload_n 52 1 dX6_raised_52 rfl rfl ?_
          refine J_iconst (v := 3) 53 dX6_raised_53 rfl ?_
          refine kb_RX6_187 (bs' := [wMo o rw fr kp tr ik tp tm mso bg en wd va gd rs mu rm ss msz msh mho mhn mhz kd nb tn tc bo ip, wMr G rw la ns sd1 to he sw nh ki te1 mi ar1 z, wMr G tr la ns sd to he sw nh ki te mi ar z]) (rest := []) (st' := [.int (ar1 h)]) 54 (c_X6_its_3 l G h o rw fr kp tr ik tp tm mso bg en wd va gd rs mu rm ss msz msh mho mhn mhz kd nb tn tc bo ip la ns sd1 to he sw nh ki te1 mi ar1 z (by first | omega | assumption)) [0, 1] 0 rfl rfl rfl [[o], [rw]] rfl rfl rfl rfl rfl rfl (Nat.le_of_ble_eq_true rfl) rfl dX6_raised_54 ?_
          refine J_if_eq (tgt := 64) 57 dX6_raised_57 (by decide) (fun c_6_ => ?_) (fun c_6_ => ?_)
          · skip
            refine J_iconst (v := 0) 64 dX6_raised_64 rfl ?_
            refine J_istore_n (lv' := [some (.ref o), some (.int (nI h)), some (.int (nI i)), some (.int 0)]) 65 3 dX6_raised_65 rfl (by decide) rfl ?_
            refine J_aload_n 66 0 dX6_raised_66 rfl rfl ?_
            refine g_792 (v := .ref tr) 67 0 rfl rfl dX6_raised_67 ?_
            refine J_aload_n 70 0 dX6_raised_70 rfl rfl ?_
            refine g_789 (v := .ref rw) 71 0 rfl rfl dX6_raised_71 ?_
            refine kb_RX6_173 (bs' := [wMo o rw fr kp tr ik tp tm mso bg en wd va gd rs mu rm ss msz msh mho mhn mhz kd nb tn tc bo ip, wMr G rw la ns sd to he sw nh ki te mi ar z, wMr G tr la ns sd to he sw nh ki te mi ar z]) (rest := []) (st' := []) 74 (c_X6_moveAll_r l G tr la ns sd to he sw nh ki te mi ar z rw la ns sd1 to he sw nh ki te1 mi ar1 z ) [2, 1] rfl rfl [[tr], [rw]] rfl rfl rfl rfl rfl rfl (Nat.le_of_ble_eq_true rfl) rfl dX6_raised_74 ?_
            refine J_iload_n 77 3 dX6_raised_77 rfl rfl ?_
            refine J_if_eq (tgt := 85) 78 dX6_raised_78 (by decide) (fun _ => ?_) (fun c_7_ => absurd c_7_ (by decide))
            refine J_bipush (v := (-3)) 85 dX6_raised_85 rfl ?_
            exact J_iretP 87 dX6_raised_87 (congrArg (fun x_ => some (Value.int x_)) (by first | contradiction | exact (hf.trans (fFst_t (by omega) (fun z_ => (by assumption : ¬ ar1 h = 0) (harm_.trans z_)))).symm | exact (hf.trans ((fFst_f (by omega) (fun z_ => z_ (harm_.symm.trans (by assumption : ar1 h = 0)))).trans (fFst_e (by omega)))).symm)) ⟨la, ns, sd, to, he, sw, nh, ki, te, mi, ar, z, rfl⟩
          · skip
            refine J_iconst (v := 1) 60 dX6_raised_60 rfl ?_
            refine J_goto (tgt := 65) 61 dX6_raised_61 (by decide) ?_
            refine J_istore_n (lv' := [some (.ref o), some (.int (nI h)), some (.int (nI i)), some (.int 1)]) 65 3 dX6_raised_65 rfl (by decide) rfl ?_
            refine J_aload_n 66 0 dX6_raised_66 rfl rfl ?_
            refine g_792 (v := .ref tr) 67 0 rfl rfl dX6_raised_67 ?_
            refine J_aload_n 70 0 dX6_raised_70 rfl rfl ?_
            refine g_789 (v := .ref rw) 71 0 rfl rfl dX6_raised_71 ?_
            refine kb_RX6_173 (bs' := [wMo o rw fr kp tr ik tp tm mso bg en wd va gd rs mu rm ss msz msh mho mhn mhz kd nb tn tc bo ip, wMr G rw la ns sd to he sw nh ki te mi ar z, wMr G tr la ns sd to he sw nh ki te mi ar z]) (rest := []) (st' := []) 74 (c_X6_moveAll_r l G tr la ns sd to he sw nh ki te mi ar z rw la ns sd1 to he sw nh ki te1 mi ar1 z ) [2, 1] rfl rfl [[tr], [rw]] rfl rfl rfl rfl rfl rfl (Nat.le_of_ble_eq_true rfl) rfl dX6_raised_74 ?_
            refine J_iload_n 77 3 dX6_raised_77 rfl rfl ?_
            refine J_if_eq (tgt := 85) 78 dX6_raised_78 (by decide) (fun c_8_ => absurd c_8_ (by decide)) (fun _ => ?_)
            refine J_iload_n 81 2 dX6_raised_81 rfl rfl ?_
            refine J_goto (tgt := 87) 82 dX6_raised_82 (by decide) ?_
            exact J_iretP 87 dX6_raised_87 (congrArg (fun x_ => some (Value.int x_)) (by first | contradiction | exact (hf.trans (fFst_t (by omega) (fun z_ => (by assumption : ¬ ar1 h = 0) (harm_.trans z_)))).symm | exact (hf.trans ((fFst_f (by omega) (fun z_ => z_ (harm_.symm.trans (by assumption : ar1 h = 0)))).trans (fFst_e (by omega)))).symm)) ⟨la, ns, sd, to, he, sw, nh, ki, te, mi, ar, z, rfl⟩
        · skip
          have c_5_ : ¬ (ns - sd1) ≤ 0 := fun z_ => c_5_ ((nI_leI (a := (ns - sd1)) (b := 0) (by omega) (by omega)).mpr z_)
          refine J_aload_n 39 0 dX6_raised_39 rfl rfl ?_
          refine J_iconst (v := (-1)) 40 dX6_raised_40 rfl ?_
          refine kb_RX6_225 (bs' := [wMo o rw fr kp tr ik tp tm mso bg en wd va gd rs mu rm ss msz msh mho mhn mhz kd nb tn tc bo ip, wMr G rw la ns (sd1 + 1) to he sw nh ki (fSel (fun h_ => h_ < nh ∧ (fun h_ => nI h_ = (-1) ∨ fUp la ki mi te1 to he sw sd1 h_) h_) (fun h_ => heldI (te1 h_ - fWears (ki h_) (la 2))) te1) mi (fSel (fun h_ => h_ < nh ∧ (fun h_ => nI h_ = (-1) ∨ fUp la ki mi te1 to he sw sd1 h_) h_) (fun h_ => ar1 h_ ||| onlyI (nI sd1)) ar1) z, wMr G tr la ns sd to he sw nh ki te mi ar z]) (rest := []) (st' := [.int (fMask (fun h_ => nI h_ = (-1) ∨ fUp la ki mi te1 to he sw sd1 h_) nh)]) 41 (c_X6_isSaid l G (-1) o rw fr kp tr ik tp tm mso bg en wd va gd rs mu rm ss msz msh mho mhn mhz kd nb tn tc bo ip la ns sd1 to he sw nh ki te1 mi ar1 z (by first | omega | assumption) (by first | omega | assumption) (by omega)) [0, 1] 0 rfl rfl rfl [[o], [rw]] rfl rfl rfl rfl rfl rfl (Nat.le_of_ble_eq_true rfl) rfl dX6_raised_41 ?_
          refine J_pop 44 dX6_raised_44 rfl ?_
          refine J_iinc (v := nI (i + 1)) (lv' := [some (.ref o), some (.int (nI h)), some (.int (nI (i + 1))), none]) 45 dX6_raised_45 rfl (nI_add _ 1) (by decide) rfl ?_
          refine J_goto (tgt := 23) 48 dX6_raised_48 (by decide) ?_
          exact ih_23_ (i + 1) (fSel (fun h_ => h_ < nh ∧ (fun h_ => nI h_ = (-1) ∨ fUp la ki mi te1 to he sw sd1 h_) h_) (fun h_ => heldI (te1 h_ - fWears (ki h_) (la 2))) te1) (fSel (fun h_ => h_ < nh ∧ (fun h_ => nI h_ = (-1) ∨ fUp la ki mi te1 to he sw sd1 h_) h_) (fun h_ => ar1 h_ ||| onlyI (nI sd1)) ar1) (sd1 + 1) (by omega) (by first | assumption | omega | rfl) (by first | exact fTe_0 | exact (fTA_s hte har hs1 (mQ_iff hnh)).1) (by first | exact fAr_0 | exact (fTA_s hte har hs1 (mQ_iff hnh)).2) (by first | assumption | omega | rfl) (by first | rfl | exact hf.trans (fFst_f (by omega) (fun z_ => z_ (harm_.symm.trans (by assumption : ar1 h = 0)))))
  refine J_aload_n 0 0 dX6_raised_0 rfl rfl ?_
  refine J_iload_n 1 1 dX6_raised_1 rfl rfl ?_
  refine kb_RX6_206 (bs' := [wMo o rw fr kp tr ik tp tm mso bg en wd va gd rs mu rm ss msz msh mho mhn mhz kd nb tn tc bo ip, wMr G rw la ns sd to he sw nh ki te mi ar z, wMr G tr t_la t_ns t_sd t_to t_he t_sw t_nh t_ki t_te t_mi t_ar t_z]) (rest := []) (st' := [.int 1]) 2 (c_X6_isOne_t l G h o rw fr kp tr ik tp tm mso bg en wd va gd rs mu rm ss msz msh mho mhn mhz kd nb tn tc bo ip la ns sd to he sw nh ki te mi ar z (by assumption) (by omega)) [0, 1] 0 rfl rfl rfl [[o], [rw]] rfl rfl rfl rfl rfl rfl (Nat.le_of_ble_eq_true rfl) rfl dX6_raised_2 ?_
  refine J_if_ne (tgt := 10) 5 dX6_raised_5 (by decide) (fun _ => ?_) (fun c_9_ => absurd c_9_ (by decide))
  refine J_aload_n 10 0 dX6_raised_10 rfl rfl ?_
  refine g_789 (v := .ref rw) 11 0 rfl rfl dX6_raised_11 ?_
  refine J_aload_n 14 0 dX6_raised_14 rfl rfl ?_
  refine g_792 (v := .ref tr) 15 0 rfl rfl dX6_raised_15 ?_
  refine kb_RX6_173 (bs' := [wMo o rw fr kp tr ik tp tm mso bg en wd va gd rs mu rm ss msz msh mho mhn mhz kd nb tn tc bo ip, wMr G rw la ns sd to he sw nh ki te mi ar z, wMr G tr la ns sd to he sw nh ki te mi ar z]) (rest := []) (st' := []) 18 (c_X6_moveAll_r l G rw la ns sd to he sw nh ki te mi ar z tr t_la t_ns t_sd t_to t_he t_sw t_nh t_ki t_te t_mi t_ar t_z ) [1, 2] rfl rfl [[rw], [tr]] rfl rfl rfl rfl rfl rfl (Nat.le_of_ble_eq_true rfl) rfl dX6_raised_18 ?_
  refine J_iconst (v := 0) 21 dX6_raised_21 rfl ?_
  refine J_istore_n (lv' := [some (.ref o), some (.int (nI h)), some (.int 0), none]) 22 2 dX6_raised_22 rfl (by decide) rfl ?_
  exact cut_23_ ((ns - sd - 0) + 1) 0 te ar sd (Nat.lt_succ_self _) (by first | assumption | omega | rfl) (by first | exact fTe_0 | exact (fTA_s hte har hs1 (mQ_iff hnh)).1) (by first | exact fAr_0 | exact (fTA_s hte har hs1 (mQ_iff hnh)).2) (by first | assumption | omega | rfl) (by first | rfl | exact hf.trans (fFst_f (by omega) (fun z_ => z_ (harm_.symm.trans (by assumption : ar1 h = 0)))))
set_option maxRecDepth 100000 in
set_option maxHeartbeats 4000000 in
theorem c_X6_rightOf (l : Launch) (G : Gd) (h : Nat) (o : Nat) (rw : Nat) (fr : Nat) (kp : Nat) (tr : Nat) (ik : Int32) (tp : Nat) (tm : Nat) (mso : Int32) (bg : Nat) (en : Nat) (wd : Int64) (va : Int32) (gd : Int32) (rs : Nat) (mu : Nat) (rm : Nat) (ss : Nat) (msz : Nat) (msh : Nat) (mho : Nat) (mhn : Nat) (mhz : Nat) (kd : Int32) (nb : Int32) (tn : Int32) (tc : Nat) (bo : Nat) (ip : Int32) (la : Nat → Int32) (ns : Nat) (sd : Nat) (to : Nat → Int32) (he : Nat → Int32) (sw : Nat → Int32) (nh : Nat) (ki : Nat → Int32) (te : Nat → Int32) (mi : Nat → Int32) (ar : Nat → Int32) (z : Int32) (t_la : Nat → Int32) (t_sd : Nat) (t_to : Nat → Int32) (t_he : Nat → Int32) (t_sw : Nat → Int32) (t_nh : Nat) (t_ki : Nat → Int32) (t_te : Nat → Int32) (t_mi : Nat → Int32) (t_ar : Nat → Int32) (t_z : Int32) (hh : h < nh) (hnh : nh ≤ 8) (hns : ns ≤ 12) (hsd : sd ≤ ns) (hb : ∀ s_, s_ < ns → (sw s_ = 0 ∨ sw s_ = 1)) (ha : loB sd (ar h)) : Ct l G yX6_rightOf cX6_rightOf 3 (some (FieldType.int)) 4 [.ref o, .int (nI h)] (wF [wMo o rw fr kp tr ik tp tm mso bg en wd va gd rs mu rm ss msz msh mho mhn mhz kd nb tn tc bo ip, wMr G rw la ns sd to he sw nh ki te mi ar z, wMr G tr t_la ns t_sd t_to t_he t_sw t_nh t_ki t_te t_mi t_ar t_z]) (some (.int (mRt la ki mi te ar to he sw ns sd h))) (wF [wMo o rw fr kp tr ik tp tm mso bg en wd va gd rs mu rm ss msz msh mho mhn mhz kd nb tn tc bo ip, wMr G rw t_la ns t_sd t_to t_he t_sw t_nh t_ki t_te t_mi t_ar t_z, wMr G tr t_la ns t_sd t_to t_he t_sw t_nh t_ki t_te t_mi t_ar t_z]) := by
  refine Ct.of "GooseArmsModel" [some (.ref o), some (.int (nI h)), none] (by decide +kernel) rfl (Nat.le_of_ble_eq_true rfl) rfl ?_
  refine J_aload_n 0 0 dX6_rightOf_0 rfl rfl ?_
  refine J_bipush (v := 12) 1 dX6_rightOf_1 rfl ?_
  refine kb_RX6_228 (bs' := [wMo o rw fr kp tr ik tp tm mso bg en wd va gd rs mu rm ss msz msh mho mhn mhz kd nb tn tc bo ip, wMr G rw la ns (sd + min 12 (ns - sd)) to he sw nh ki (fTe (fun h_ => h_ < nh) la ki mi te ar to he sw sd (min 12 (ns - sd))) mi (fAr (fun h_ => h_ < nh) la ki mi te ar to he sw sd (min 12 (ns - sd))) z, wMr G tr t_la ns t_sd t_to t_he t_sw t_nh t_ki t_te t_mi t_ar t_z]) (rest := []) (st' := [.int (nI (min 12 (ns - sd)))]) 3 (c_X6_says l G 12 o rw fr kp tr ik tp tm mso bg en wd va gd rs mu rm ss msz msh mho mhn mhz kd nb tn tc bo ip la ns sd to he sw nh ki te mi ar z (by first | omega | assumption) (by first | omega | assumption) (by first | omega | assumption) (by first | omega | assumption)) [0, 1] 0 rfl rfl rfl [[o], [rw]] rfl rfl rfl rfl rfl rfl (Nat.le_of_ble_eq_true rfl) rfl dX6_rightOf_3 ?_
  refine J_pop 6 dX6_rightOf_6 rfl ?_
  refine J_aload_n 7 0 dX6_rightOf_7 rfl rfl ?_
  refine J_iload_n 8 1 dX6_rightOf_8 rfl rfl ?_
  refine J_iconst (v := 3) 9 dX6_rightOf_9 rfl ?_
  refine kb_RX6_187 (bs' := [wMo o rw fr kp tr ik tp tm mso bg en wd va gd rs mu rm ss msz msh mho mhn mhz kd nb tn tc bo ip, wMr G rw la ns (sd + min 12 (ns - sd)) to he sw nh ki (fTe (fun h_ => h_ < nh) la ki mi te ar to he sw sd (min 12 (ns - sd))) mi (fAr (fun h_ => h_ < nh) la ki mi te ar to he sw sd (min 12 (ns - sd))) z, wMr G tr t_la ns t_sd t_to t_he t_sw t_nh t_ki t_te t_mi t_ar t_z]) (rest := []) (st' := [.int ((fAr (fun h_ => h_ < nh) la ki mi te ar to he sw sd (min 12 (ns - sd))) h)]) 10 (c_X6_its_3 l G h o rw fr kp tr ik tp tm mso bg en wd va gd rs mu rm ss msz msh mho mhn mhz kd nb tn tc bo ip la ns (sd + min 12 (ns - sd)) to he sw nh ki (fTe (fun h_ => h_ < nh) la ki mi te ar to he sw sd (min 12 (ns - sd))) mi (fAr (fun h_ => h_ < nh) la ki mi te ar to he sw sd (min 12 (ns - sd))) z (by first | omega | assumption)) [0, 1] 0 rfl rfl rfl [[o], [rw]] rfl rfl rfl rfl rfl rfl (Nat.le_of_ble_eq_true rfl) rfl dX6_rightOf_10 ?_
  refine J_aload_n 13 0 dX6_rightOf_13 rfl rfl ?_
  refine kb_RX6_241 (bs' := [wMo o rw fr kp tr ik tp tm mso bg en wd va gd rs mu rm ss msz msh mho mhn mhz kd nb tn tc bo ip, wMr G rw la ns (sd + min 12 (ns - sd)) to he sw nh ki (fTe (fun h_ => h_ < nh) la ki mi te ar to he sw sd (min 12 (ns - sd))) mi (fAr (fun h_ => h_ < nh) la ki mi te ar to he sw sd (min 12 (ns - sd))) z, wMr G tr t_la ns t_sd t_to t_he t_sw t_nh t_ki t_te t_mi t_ar t_z]) (rest := [.int ((fAr (fun h_ => h_ < nh) la ki mi te ar to he sw sd (min 12 (ns - sd))) h)]) (st' := [.int (fMask (fun s_ => sw s_ = 1) ns), .int ((fAr (fun h_ => h_ < nh) la ki mi te ar to he sw sd (min 12 (ns - sd))) h)]) 14 (c_X6_soSet l G o rw fr kp tr ik tp tm mso bg en wd va gd rs mu rm ss msz msh mho mhn mhz kd nb tn tc bo ip la ns (sd + min 12 (ns - sd)) to he sw nh ki (fTe (fun h_ => h_ < nh) la ki mi te ar to he sw sd (min 12 (ns - sd))) mi (fAr (fun h_ => h_ < nh) la ki mi te ar to he sw sd (min 12 (ns - sd))) z (by first | omega | assumption) (by first | omega | assumption)) [0, 1] 0 rfl rfl rfl [[o], [rw]] rfl rfl rfl rfl rfl rfl (Nat.le_of_ble_eq_true rfl) rfl dX6_rightOf_14 ?_
  refine J_ixor 17 dX6_rightOf_17 ?_
  refine kb_RX6_238 (bs' := [wMo o rw fr kp tr ik tp tm mso bg en wd va gd rs mu rm ss msz msh mho mhn mhz kd nb tn tc bo ip, wMr G rw la ns (sd + min 12 (ns - sd)) to he sw nh ki (fTe (fun h_ => h_ < nh) la ki mi te ar to he sw sd (min 12 (ns - sd))) mi (fAr (fun h_ => h_ < nh) la ki mi te ar to he sw sd (min 12 (ns - sd))) z, wMr G tr t_la ns t_sd t_to t_he t_sw t_nh t_ki t_te t_mi t_ar t_z]) (rest := []) (st' := [.int (fBC (((fAr (fun h_ => h_ < nh) la ki mi te ar to he sw sd (min 12 (ns - sd))) h) ^^^ (fMask (fun s_ => sw s_ = 1) ns)))]) 18 (c_X6_ones l G (((fAr (fun h_ => h_ < nh) la ki mi te ar to he sw sd (min 12 (ns - sd))) h) ^^^ (fMask (fun s_ => sw s_ = 1) ns)) (lo_ex (lo_xor (arm_lo hh hns hsd ha) (lo_mask hns)))) [] rfl rfl [] rfl rfl rfl rfl rfl rfl (Nat.le_of_ble_eq_true rfl) rfl dX6_rightOf_18 ?_
  refine J_istore_n (lv' := [some (.ref o), some (.int (nI h)), some (.int (fBC (((fAr (fun h_ => h_ < nh) la ki mi te ar to he sw sd (min 12 (ns - sd))) h) ^^^ (fMask (fun s_ => sw s_ = 1) ns))))]) 21 2 dX6_rightOf_21 rfl (by decide) rfl ?_
  refine J_aload_n 22 0 dX6_rightOf_22 rfl rfl ?_
  refine g_792 (v := .ref tr) 23 0 rfl rfl dX6_rightOf_23 ?_
  refine J_aload_n 26 0 dX6_rightOf_26 rfl rfl ?_
  refine g_789 (v := .ref rw) 27 0 rfl rfl dX6_rightOf_27 ?_
  refine kb_RX6_173 (bs' := [wMo o rw fr kp tr ik tp tm mso bg en wd va gd rs mu rm ss msz msh mho mhn mhz kd nb tn tc bo ip, wMr G rw t_la ns t_sd t_to t_he t_sw t_nh t_ki t_te t_mi t_ar t_z, wMr G tr t_la ns t_sd t_to t_he t_sw t_nh t_ki t_te t_mi t_ar t_z]) (rest := []) (st' := []) 30 (c_X6_moveAll_r l G tr t_la ns t_sd t_to t_he t_sw t_nh t_ki t_te t_mi t_ar t_z rw la ns (sd + min 12 (ns - sd)) to he sw nh ki (fTe (fun h_ => h_ < nh) la ki mi te ar to he sw sd (min 12 (ns - sd))) mi (fAr (fun h_ => h_ < nh) la ki mi te ar to he sw sd (min 12 (ns - sd))) z ) [2, 1] rfl rfl [[tr], [rw]] rfl rfl rfl rfl rfl rfl (Nat.le_of_ble_eq_true rfl) rfl dX6_rightOf_30 ?_
  refine J_aload_n 33 0 dX6_rightOf_33 rfl rfl ?_
  refine g_789 (v := .ref rw) 34 0 rfl rfl dX6_rightOf_34 ?_
  refine J_iconst (v := 5) 37 dX6_rightOf_37 rfl ?_
  refine J_iald 38 1 5 rfl rfl (by omega) (by decide) dX6_rightOf_38 ?_
  refine J_topi (y := nI ns) 39 (fR_ns rfl) ?_
  refine J_iload_n 39 2 dX6_rightOf_39 rfl rfl ?_
  refine J_isub 40 dX6_rightOf_40 ?_
  exact J_iret 41 dX6_rightOf_41 (congrArg (fun x_ => some (Value.int x_)) (by unfold mRt; rw [far12 hh hns])) rfl
set_option maxRecDepth 100000 in
set_option maxHeartbeats 4000000 in
theorem c_X6_right_bad (l : Launch) (G : Gd) (h : Int32) (o : Nat) (rw : Nat) (fr : Nat) (kp : Nat) (tr : Nat) (ik : Int32) (tp : Nat) (tm : Nat) (mso : Int32) (bg : Nat) (en : Nat) (wd : Int64) (va : Int32) (gd : Int32) (rs : Nat) (mu : Nat) (rm : Nat) (ss : Nat) (msz : Nat) (msh : Nat) (mho : Nat) (mhn : Nat) (mhz : Nat) (kd : Int32) (nb : Int32) (tn : Int32) (tc : Nat) (bo : Nat) (ip : Int32) (la : Nat → Int32) (ns : Nat) (sd : Nat) (to : Nat → Int32) (he : Nat → Int32) (sw : Nat → Int32) (nh : Nat) (ki : Nat → Int32) (te : Nat → Int32) (mi : Nat → Int32) (ar : Nat → Int32) (z : Int32) (hw : ¬ (0 ≤ h ∧ h ≤ nI nh - 1)) : Ct l G yX6_right cX6_right 2 (some (FieldType.int)) 5 [.ref o, .int h] (wF [wMo o rw fr kp tr ik tp tm mso bg en wd va gd rs mu rm ss msz msh mho mhn mhz kd nb tn tc bo ip, wMr G rw la ns sd to he sw nh ki te mi ar z]) (some (.int (-1))) (wF [wMo o rw fr kp tr ik tp tm mso bg en wd va gd rs mu rm ss msz msh mho mhn mhz kd nb tn tc bo ip, wMr G rw la ns sd to he sw nh ki te mi ar z]) := by
  refine Ct.of "GooseArmsModel" [some (.ref o), some (.int h)] (by decide +kernel) rfl (Nat.le_of_ble_eq_true rfl) rfl ?_
  refine J_aload_n 0 0 dX6_right_0 rfl rfl ?_
  refine J_iload_n 1 1 dX6_right_1 rfl rfl ?_
  refine kb_RX6_206 (bs' := [wMo o rw fr kp tr ik tp tm mso bg en wd va gd rs mu rm ss msz msh mho mhn mhz kd nb tn tc bo ip, wMr G rw la ns sd to he sw nh ki te mi ar z]) (rest := []) (st' := [.int 0]) 2 (c_X6_isOne_f l G h o rw fr kp tr ik tp tm mso bg en wd va gd rs mu rm ss msz msh mho mhn mhz kd nb tn tc bo ip la ns sd to he sw nh ki te mi ar z (by first | omega | assumption)) [0, 1] 0 rfl rfl rfl [[o], [rw]] rfl rfl rfl rfl rfl rfl (Nat.le_of_ble_eq_true rfl) rfl dX6_right_2 ?_
  refine J_if_ne (tgt := 10) 5 dX6_right_5 (by decide) (fun c_1_ => absurd c_1_ (by decide)) (fun _ => ?_)
  refine J_iconst (v := (-1)) 8 dX6_right_8 rfl ?_
  exact J_iret 9 dX6_right_9 rfl rfl
set_option maxRecDepth 100000 in
set_option maxHeartbeats 4000000 in
theorem c_X6_right_ok (l : Launch) (G : Gd) (h : Nat) (o : Nat) (rw : Nat) (fr : Nat) (kp : Nat) (tr : Nat) (ik : Int32) (tp : Nat) (tm : Nat) (mso : Int32) (bg : Nat) (en : Nat) (wd : Int64) (va : Int32) (gd : Int32) (rs : Nat) (mu : Nat) (rm : Nat) (ss : Nat) (msz : Nat) (msh : Nat) (mho : Nat) (mhn : Nat) (mhz : Nat) (kd : Int32) (nb : Int32) (tn : Int32) (tc : Nat) (bo : Nat) (ip : Int32) (la : Nat → Int32) (ns : Nat) (sd : Nat) (to : Nat → Int32) (he : Nat → Int32) (sw : Nat → Int32) (nh : Nat) (ki : Nat → Int32) (te : Nat → Int32) (mi : Nat → Int32) (ar : Nat → Int32) (z : Int32) (t_la : Nat → Int32) (t_ns : Nat) (t_sd : Nat) (t_to : Nat → Int32) (t_he : Nat → Int32) (t_sw : Nat → Int32) (t_nh : Nat) (t_ki : Nat → Int32) (t_te : Nat → Int32) (t_mi : Nat → Int32) (t_ar : Nat → Int32) (t_z : Int32) (hh : h < nh) (hnh : nh ≤ 8) (hns : ns ≤ 12) (hsd : sd ≤ ns) (hb : ∀ s_, s_ < ns → (sw s_ = 0 ∨ sw s_ = 1)) (ha : loB sd (ar h)) : CtP l G yX6_right cX6_right 2 (some (FieldType.int)) 5 [.ref o, .int (nI h)] (wF [wMo o rw fr kp tr ik tp tm mso bg en wd va gd rs mu rm ss msz msh mho mhn mhz kd nb tn tc bo ip, wMr G rw la ns sd to he sw nh ki te mi ar z, wMr G tr t_la t_ns t_sd t_to t_he t_sw t_nh t_ki t_te t_mi t_ar t_z]) (some (.int (mRt la ki mi te ar to he sw ns sd h))) (fun w_ => ∃ (j_2_la : Nat → Int32) (j_2_ns : Nat) (j_2_sd : Nat) (j_2_to : Nat → Int32) (j_2_he : Nat → Int32) (j_2_sw : Nat → Int32) (j_2_nh : Nat) (j_2_ki : Nat → Int32) (j_2_te : Nat → Int32) (j_2_mi : Nat → Int32) (j_2_ar : Nat → Int32) (j_2_z : Int32), w_ = (wF [wMo o rw fr kp tr ik tp tm mso bg en wd va gd rs mu rm ss msz msh mho mhn mhz kd nb tn tc bo ip, wMr G rw la ns sd to he sw nh ki te mi ar z, wMr G tr j_2_la j_2_ns j_2_sd j_2_to j_2_he j_2_sw j_2_nh j_2_ki j_2_te j_2_mi j_2_ar j_2_z])) := by
  refine CtP.of "GooseArmsModel" [some (.ref o), some (.int (nI h))] (by decide +kernel) rfl (Nat.le_of_ble_eq_true rfl) rfl ?_
  refine J_aload_n 0 0 dX6_right_0 rfl rfl ?_
  refine J_iload_n 1 1 dX6_right_1 rfl rfl ?_
  refine kb_RX6_206 (bs' := [wMo o rw fr kp tr ik tp tm mso bg en wd va gd rs mu rm ss msz msh mho mhn mhz kd nb tn tc bo ip, wMr G rw la ns sd to he sw nh ki te mi ar z, wMr G tr t_la t_ns t_sd t_to t_he t_sw t_nh t_ki t_te t_mi t_ar t_z]) (rest := []) (st' := [.int 1]) 2 (c_X6_isOne_t l G h o rw fr kp tr ik tp tm mso bg en wd va gd rs mu rm ss msz msh mho mhn mhz kd nb tn tc bo ip la ns sd to he sw nh ki te mi ar z (by assumption) (by omega)) [0, 1] 0 rfl rfl rfl [[o], [rw]] rfl rfl rfl rfl rfl rfl (Nat.le_of_ble_eq_true rfl) rfl dX6_right_2 ?_
  refine J_if_ne (tgt := 10) 5 dX6_right_5 (by decide) (fun _ => ?_) (fun c_1_ => absurd c_1_ (by decide))
  refine J_aload_n 10 0 dX6_right_10 rfl rfl ?_
  refine g_789 (v := .ref rw) 11 0 rfl rfl dX6_right_11 ?_
  refine J_aload_n 14 0 dX6_right_14 rfl rfl ?_
  refine g_792 (v := .ref tr) 15 0 rfl rfl dX6_right_15 ?_
  refine kb_RX6_173 (bs' := [wMo o rw fr kp tr ik tp tm mso bg en wd va gd rs mu rm ss msz msh mho mhn mhz kd nb tn tc bo ip, wMr G rw la ns sd to he sw nh ki te mi ar z, wMr G tr la ns sd to he sw nh ki te mi ar z]) (rest := []) (st' := []) 18 (c_X6_moveAll_r l G rw la ns sd to he sw nh ki te mi ar z tr t_la t_ns t_sd t_to t_he t_sw t_nh t_ki t_te t_mi t_ar t_z ) [1, 2] rfl rfl [[rw], [tr]] rfl rfl rfl rfl rfl rfl (Nat.le_of_ble_eq_true rfl) rfl dX6_right_18 ?_
  refine J_aload_n 21 0 dX6_right_21 rfl rfl ?_
  refine J_iload_n 22 1 dX6_right_22 rfl rfl ?_
  refine kb_RX6_253 (bs' := [wMo o rw fr kp tr ik tp tm mso bg en wd va gd rs mu rm ss msz msh mho mhn mhz kd nb tn tc bo ip, wMr G rw la ns sd to he sw nh ki te mi ar z, wMr G tr la ns sd to he sw nh ki te mi ar z]) (rest := []) (st' := [.int (mRt la ki mi te ar to he sw ns sd h)]) 23 (c_X6_rightOf l G h o rw fr kp tr ik tp tm mso bg en wd va gd rs mu rm ss msz msh mho mhn mhz kd nb tn tc bo ip la ns sd to he sw nh ki te mi ar z la sd to he sw nh ki te mi ar z (by first | omega | assumption) (by first | omega | assumption) (by first | omega | assumption) (by first | omega | assumption) (by first | omega | assumption) (by first | omega | assumption)) [0, 1, 2] 0 rfl rfl rfl [[o], [rw], [tr]] rfl rfl rfl rfl rfl rfl (Nat.le_of_ble_eq_true rfl) rfl dX6_right_23 ?_
  exact J_iretP 26 dX6_right_26 rfl ⟨la, ns, sd, to, he, sw, nh, ki, te, mi, ar, z, rfl⟩
set_option maxRecDepth 100000 in
set_option maxHeartbeats 4000000 in
theorem c_X6_topicFor_bad (l : Launch) (G : Gd) (i : Int32) (o : Nat) (rw : Nat) (fr : Nat) (kp : Nat) (tr : Nat) (ik : Int32) (tp : Nat) (tm : Nat) (mso : Int32) (bg : Nat) (en : Nat) (wd : Int64) (va : Int32) (gd : Int32) (rs : Nat) (mu : Nat) (rm : Nat) (ss : Nat) (msz : Nat) (msh : Nat) (mho : Nat) (mhn : Nat) (mhz : Nat) (kd : Int32) (nb : Int32) (tn : Int32) (tc : Nat) (bo : Nat) (ip : Int32) (la : Nat → Int32) (ns : Nat) (sd : Nat) (to : Nat → Int32) (he : Nat → Int32) (sw : Nat → Int32) (nh : Nat) (ki : Nat → Int32) (te : Nat → Int32) (mi : Nat → Int32) (ar : Nat → Int32) (z : Int32) (hw : ¬ (0 ≤ i ∧ i ≤ nI ns - 1)) : Ct l G yX6_topicFor cX6_topicFor 6 (some (FieldType.int)) 4 [.ref o, .int i] (wF [wMo o rw fr kp tr ik tp tm mso bg en wd va gd rs mu rm ss msz msh mho mhn mhz kd nb tn tc bo ip, wMr G rw la ns sd to he sw nh ki te mi ar z]) (some (.int (-1))) (wF [wMo o rw fr kp tr ik tp tm mso bg en wd va gd rs mu rm ss msz msh mho mhn mhz kd nb tn tc bo ip, wMr G rw la ns sd to he sw nh ki te mi ar z]) := by
  refine Ct.of "GooseArmsModel" [some (.ref o), some (.int i), none, none, none, none] (by decide +kernel) rfl (Nat.le_of_ble_eq_true rfl) rfl ?_
  refine J_aload_n 0 0 dX6_topicFor_0 rfl rfl ?_
  refine J_iload_n 1 1 dX6_topicFor_1 rfl rfl ?_
  refine kb_RX6_190 (bs' := [wMo o rw fr kp tr ik tp tm mso bg en wd va gd rs mu rm ss msz msh mho mhn mhz kd nb tn tc bo ip, wMr G rw la ns sd to he sw nh ki te mi ar z]) (rest := []) (st' := [.int 0]) 2 (c_X6_isSaying_f l G i o rw fr kp tr ik tp tm mso bg en wd va gd rs mu rm ss msz msh mho mhn mhz kd nb tn tc bo ip la ns sd to he sw nh ki te mi ar z (by first | omega | assumption)) [0, 1] 0 rfl rfl rfl [[o], [rw]] rfl rfl rfl rfl rfl rfl (Nat.le_of_ble_eq_true rfl) rfl dX6_topicFor_2 ?_
  refine J_if_ne (tgt := 10) 5 dX6_topicFor_5 (by decide) (fun c_1_ => absurd c_1_ (by decide)) (fun _ => ?_)
  refine J_iconst (v := (-1)) 8 dX6_topicFor_8 rfl ?_
  exact J_iret 9 dX6_topicFor_9 rfl rfl
set_option maxRecDepth 100000 in
set_option maxHeartbeats 4000000 in
theorem c_X6_topicFor_said (l : Launch) (G : Gd) (i : Nat) (o : Nat) (rw : Nat) (fr : Nat) (kp : Nat) (tr : Nat) (ik : Int32) (tp : Nat) (tm : Nat) (mso : Int32) (bg : Nat) (en : Nat) (wd : Int64) (va : Int32) (gd : Int32) (rs : Nat) (mu : Nat) (rm : Nat) (ss : Nat) (msz : Nat) (msh : Nat) (mho : Nat) (mhn : Nat) (mhz : Nat) (kd : Int32) (nb : Int32) (tn : Int32) (tc : Nat) (bo : Nat) (ip : Int32) (la : Nat → Int32) (ns : Nat) (sd : Nat) (to : Nat → Int32) (he : Nat → Int32) (sw : Nat → Int32) (nh : Nat) (ki : Nat → Int32) (te : Nat → Int32) (mi : Nat → Int32) (ar : Nat → Int32) (z : Int32) (hi : i < ns) (hns : ns ≤ 12) (hsd : sd ≤ ns) (hz : i < sd) : Ct l G yX6_topicFor cX6_topicFor 6 (some (FieldType.int)) 4 [.ref o, .int (nI i)] (wF [wMo o rw fr kp tr ik tp tm mso bg en wd va gd rs mu rm ss msz msh mho mhn mhz kd nb tn tc bo ip, wMr G rw la ns sd to he sw nh ki te mi ar z]) (some (.int (-3))) (wF [wMo o rw fr kp tr ik tp tm mso bg en wd va gd rs mu rm ss msz msh mho mhn mhz kd nb tn tc bo ip, wMr G rw la ns sd to he sw nh ki te mi ar z]) := by
  refine Ct.of "GooseArmsModel" [some (.ref o), some (.int (nI i)), none, none, none, none] (by decide +kernel) rfl (Nat.le_of_ble_eq_true rfl) rfl ?_
  refine J_aload_n 0 0 dX6_topicFor_0 rfl rfl ?_
  refine J_iload_n 1 1 dX6_topicFor_1 rfl rfl ?_
  refine kb_RX6_190 (bs' := [wMo o rw fr kp tr ik tp tm mso bg en wd va gd rs mu rm ss msz msh mho mhn mhz kd nb tn tc bo ip, wMr G rw la ns sd to he sw nh ki te mi ar z]) (rest := []) (st' := [.int 1]) 2 (c_X6_isSaying_t l G i o rw fr kp tr ik tp tm mso bg en wd va gd rs mu rm ss msz msh mho mhn mhz kd nb tn tc bo ip la ns sd to he sw nh ki te mi ar z (by assumption) (by omega)) [0, 1] 0 rfl rfl rfl [[o], [rw]] rfl rfl rfl rfl rfl rfl (Nat.le_of_ble_eq_true rfl) rfl dX6_topicFor_2 ?_
  refine J_if_ne (tgt := 10) 5 dX6_topicFor_5 (by decide) (fun _ => ?_) (fun c_1_ => absurd c_1_ (by decide))
  refine J_iload_n 10 1 dX6_topicFor_10 rfl rfl ?_
  refine J_aload_n 11 0 dX6_topicFor_11 rfl rfl ?_
  refine g_789 (v := .ref rw) 12 0 rfl rfl dX6_topicFor_12 ?_
  refine J_iconst (v := 4) 15 dX6_topicFor_15 rfl ?_
  refine J_iald 16 1 4 rfl rfl (by omega) (by decide) dX6_topicFor_16 ?_
  refine J_topi (y := nI sd) 17 (fR_sd rfl) ?_
  refine J_icmp_ge (tgt := 23) 17 dX6_topicFor_17 (by decide) (fun c_2_ => ?_) (fun c_2_ => ?_)
  · skip
    have c_2_ : sd ≤ i := (nI_leI (a := sd) (b := i) (by omega) (by omega)).mp c_2_
    omega
  · skip
    have c_2_ : ¬ sd ≤ i := fun z_ => c_2_ ((nI_leI (a := sd) (b := i) (by omega) (by omega)).mpr z_)
    refine J_bipush (v := (-3)) 20 dX6_topicFor_20 rfl ?_
    exact J_iret 22 dX6_topicFor_22 rfl rfl
set_option maxRecDepth 100000 in
set_option maxHeartbeats 4000000 in
theorem c_X6_topicFor_ok (l : Launch) (G : Gd) (i : Nat) (o : Nat) (rw : Nat) (fr : Nat) (kp : Nat) (tr : Nat) (ik : Int32) (tp : Nat) (tm : Nat) (mso : Int32) (bg : Nat) (en : Nat) (wd : Int64) (va : Int32) (gd : Int32) (rs : Nat) (mu : Nat) (rm : Nat) (ss : Nat) (msz : Nat) (msh : Nat) (mho : Nat) (mhn : Nat) (mhz : Nat) (kd : Int32) (nb : Int32) (tn : Int32) (tc : Nat) (bo : Nat) (ip : Int32) (la : Nat → Int32) (ns : Nat) (sd : Nat) (to : Nat → Int32) (he : Nat → Int32) (sw : Nat → Int32) (nh : Nat) (ki : Nat → Int32) (te : Nat → Int32) (mi : Nat → Int32) (ar : Nat → Int32) (z : Int32) (t_la : Nat → Int32) (t_ns : Nat) (t_sd : Nat) (t_to : Nat → Int32) (t_he : Nat → Int32) (t_sw : Nat → Int32) (t_nh : Nat) (t_ki : Nat → Int32) (t_te : Nat → Int32) (t_mi : Nat → Int32) (t_ar : Nat → Int32) (t_z : Int32) (hi : i < ns) (hnh : nh ≤ 8) (hns : ns ≤ 12) (hsd : sd ≤ ns) (hz : sd ≤ i) : CtP l G yX6_topicFor cX6_topicFor 6 (some (FieldType.int)) 4 [.ref o, .int (nI i)] (wF [wMo o rw fr kp tr ik tp tm mso bg en wd va gd rs mu rm ss msz msh mho mhn mhz kd nb tn tc bo ip, wMr G rw la ns sd to he sw nh ki te mi ar z, wMr G tr t_la t_ns t_sd t_to t_he t_sw t_nh t_ki t_te t_mi t_ar t_z]) (some (.int ((fBest 0 0 (fun j_ => fBC (fMask (fun h_ => hasP ((fAr (fun h_ => h_ < nh) la ki mi te ar (upd to i (nI j_)) he sw sd (min 12 (ns - sd))) h_) (nI i)) nh)) 8).1))) (fun w_ => ∃ (j_2_la : Nat → Int32) (j_2_ns : Nat) (j_2_sd : Nat) (j_2_to : Nat → Int32) (j_2_he : Nat → Int32) (j_2_sw : Nat → Int32) (j_2_nh : Nat) (j_2_ki : Nat → Int32) (j_2_te : Nat → Int32) (j_2_mi : Nat → Int32) (j_2_ar : Nat → Int32) (j_2_z : Int32), w_ = (wF [wMo o rw fr kp tr ik tp tm mso bg en wd va gd rs mu rm ss msz msh mho mhn mhz kd nb tn tc bo ip, wMr G rw la ns sd to he sw nh ki te mi ar z, wMr G tr j_2_la j_2_ns j_2_sd j_2_to j_2_he j_2_sw j_2_nh j_2_ki j_2_te j_2_mi j_2_ar j_2_z])) := by
  refine CtP.of "GooseArmsModel" [some (.ref o), some (.int (nI i)), none, none, none, none] (by decide +kernel) rfl (Nat.le_of_ble_eq_true rfl) rfl ?_
  have cut_41_ : ∀ (n_41_ : Nat) (j : Nat) (b : Int32) (mm : Int32), (8 - j < n_41_) → (hj : j ≤ 8) → (hb : fBest 0 0 (fun j_ => fBC (fMask (fun h_ => hasP ((fAr (fun h_ => h_ < nh) la ki mi te ar (upd to i (nI j_)) he sw sd (min 12 (ns - sd))) h_) (nI i)) nh)) j = (b, mm)) → J l G (bdP G 4 (some (FieldType.int)) (some (.int ((fBest 0 0 (fun j_ => fBC (fMask (fun h_ => hasP ((fAr (fun h_ => h_ < nh) la ki mi te ar (upd to i (nI j_)) he sw sd (min 12 (ns - sd))) h_) (nI i)) nh)) 8).1))) (fun w_ => ∃ (j_2_la : Nat → Int32) (j_2_ns : Nat) (j_2_sd : Nat) (j_2_to : Nat → Int32) (j_2_he : Nat → Int32) (j_2_sw : Nat → Int32) (j_2_nh : Nat) (j_2_ki : Nat → Int32) (j_2_te : Nat → Int32) (j_2_mi : Nat → Int32) (j_2_ar : Nat → Int32) (j_2_z : Int32), w_ = (wF [wMo o rw fr kp tr ik tp tm mso bg en wd va gd rs mu rm ss msz msh mho mhn mhz kd nb tn tc bo ip, wMr G rw la ns sd to he sw nh ki te mi ar z, wMr G tr j_2_la j_2_ns j_2_sd j_2_to j_2_he j_2_sw j_2_nh j_2_ki j_2_te j_2_mi j_2_ar j_2_z]))) cX6_topicFor 6 "GooseArmsModel" 41 [some (.ref o), some (.int (nI i)), some (.int b), some (.int mm), some (.int (nI j)), none] [] (wF [wMo o rw fr kp tr ik tp tm mso bg en wd va gd rs mu rm ss msz msh mho mhn mhz kd nb tn tc bo ip, wMr G rw la ns sd to he sw nh ki te mi ar z, wMr G tr la ns sd to he sw nh ki te mi ar z]) := by
    intro n_41_
    induction n_41_ with
    | zero => intro j b mm m_41_; exact absurd m_41_ (Nat.not_lt_zero _)
    | succ n_41_ ih_41_ =>
      intro j b mm m_41_ hj hb
      refine J_iload 41 dX6_topicFor_41 rfl ?_
      refine J_bipush (v := 8) 43 dX6_topicFor_43 rfl ?_
      refine J_icmp_ge (tgt := 121) 45 dX6_topicFor_45 (by decide) (fun c_1_ => ?_) (fun c_1_ => ?_)
      · skip
        have c_1_ : 8 ≤ j := (nI_leI (a := 8) (b := j) (by omega) (by omega)).mp c_1_
        refine J_iload_n 121 2 dX6_topicFor_121 rfl rfl ?_
        exact J_iretP 122 dX6_topicFor_122 (congrArg (fun x_ => some (Value.int x_)) (by rw [← show j = 8 by omega, hb])) ⟨la, ns, sd, to, he, sw, nh, ki, te, mi, ar, z, rfl⟩
      · skip
        have c_1_ : ¬ 8 ≤ j := fun z_ => c_1_ ((nI_leI (a := 8) (b := j) (by omega) (by omega)).mpr z_)
        refine J_aload_n 48 0 dX6_topicFor_48 rfl rfl ?_
        refine g_789 (v := .ref rw) 49 0 rfl rfl dX6_topicFor_49 ?_
        refine J_bipush (v := 8) 52 dX6_topicFor_52 rfl ?_
        refine J_iconst (v := 3) 54 dX6_topicFor_54 rfl ?_
        refine J_iload_n 55 1 dX6_topicFor_55 rfl rfl ?_
        refine J_imul 56 dX6_topicFor_56 ?_
        refine J_topi (y := nI (3 * i)) 57 (pk_mul 3 i) ?_
        refine J_iadd 57 dX6_topicFor_57 ?_
        refine J_topi (y := nI (8 + (3 * i))) 58 (nI_add 8 (3 * i)) ?_
        refine J_iload 58 dX6_topicFor_58 rfl ?_
        refine J_iast (ws' := (wF [wMo o rw fr kp tr ik tp tm mso bg en wd va gd rs mu rm ss msz msh mho mhn mhz kd nb tn tc bo ip, wI G rw 76 (upd (fRow la ns sd to he sw nh ki te mi ar z) (8 + (3 * i)) (nI j)), wMr G tr la ns sd to he sw nh ki te mi ar z])) 60 1 (8 + (3 * i)) rfl rfl (by omega) (by decide) rfl dX6_topicFor_60 ?_
        refine J_ws (ws' := (wF [wMo o rw fr kp tr ik tp tm mso bg en wd va gd rs mu rm ss msz msh mho mhn mhz kd nb tn tc bo ip, wMr G rw la ns sd (upd to i (nI j)) he sw nh ki te mi ar z, wMr G tr la ns sd to he sw nh ki te mi ar z])) 61 (congrArg (fun x_ => (wF [wMo o rw fr kp tr ik tp tm mso bg en wd va gd rs mu rm ss msz msh mho mhn mhz kd nb tn tc bo ip, wI G rw 76 x_, wMr G tr la ns sd to he sw nh ki te mi ar z])) (fU_to (i := i) (by omega) (by omega))) ?_
        refine J_aload_n 61 0 dX6_topicFor_61 rfl rfl ?_
        refine J_bipush (v := 12) 62 dX6_topicFor_62 rfl ?_
        refine kb_RX6_228 (bs' := [wMo o rw fr kp tr ik tp tm mso bg en wd va gd rs mu rm ss msz msh mho mhn mhz kd nb tn tc bo ip, wMr G rw la ns (sd + min 12 (ns - sd)) (upd to i (nI j)) he sw nh ki (fTe (fun h_ => h_ < nh) la ki mi te ar (upd to i (nI j)) he sw sd (min 12 (ns - sd))) mi (fAr (fun h_ => h_ < nh) la ki mi te ar (upd to i (nI j)) he sw sd (min 12 (ns - sd))) z, wMr G tr la ns sd to he sw nh ki te mi ar z]) (rest := []) (st' := [.int (nI (min 12 (ns - sd)))]) 64 (c_X6_says l G 12 o rw fr kp tr ik tp tm mso bg en wd va gd rs mu rm ss msz msh mho mhn mhz kd nb tn tc bo ip la ns sd (upd to i (nI j)) he sw nh ki te mi ar z (by first | omega | assumption) (by first | omega | assumption) (by first | omega | assumption) (by first | omega | assumption)) [0, 1] 0 rfl rfl rfl [[o], [rw]] rfl rfl rfl rfl rfl rfl (Nat.le_of_ble_eq_true rfl) rfl dX6_topicFor_64 ?_
        refine J_pop 67 dX6_topicFor_67 rfl ?_
        refine J_aload_n 68 0 dX6_topicFor_68 rfl rfl ?_
        refine J_iload_n 69 1 dX6_topicFor_69 rfl rfl ?_
        refine kb_RX6_196 (bs' := [wMo o rw fr kp tr ik tp tm mso bg en wd va gd rs mu rm ss msz msh mho mhn mhz kd nb tn tc bo ip, wMr G rw la ns (sd + min 12 (ns - sd)) (upd to i (nI j)) he sw nh ki (fTe (fun h_ => h_ < nh) la ki mi te ar (upd to i (nI j)) he sw sd (min 12 (ns - sd))) mi (fAr (fun h_ => h_ < nh) la ki mi te ar (upd to i (nI j)) he sw sd (min 12 (ns - sd))) z, wMr G tr la ns sd to he sw nh ki te mi ar z]) (rest := []) (st' := [.int (fMask (fun h_ => hasP ((fAr (fun h_ => h_ < nh) la ki mi te ar (upd to i (nI j)) he sw sd (min 12 (ns - sd))) h_) (nI i)) nh)]) 70 (c_X6_raisedBy l G i o rw fr kp tr ik tp tm mso bg en wd va gd rs mu rm ss msz msh mho mhn mhz kd nb tn tc bo ip la ns (sd + min 12 (ns - sd)) (upd to i (nI j)) he sw nh ki (fTe (fun h_ => h_ < nh) la ki mi te ar (upd to i (nI j)) he sw sd (min 12 (ns - sd))) mi (fAr (fun h_ => h_ < nh) la ki mi te ar (upd to i (nI j)) he sw sd (min 12 (ns - sd))) z (by first | omega | assumption)) [0, 1] 0 rfl rfl rfl [[o], [rw]] rfl rfl rfl rfl rfl rfl (Nat.le_of_ble_eq_true rfl) rfl dX6_topicFor_70 ?_
        refine kb_RX6_238 (bs' := [wMo o rw fr kp tr ik tp tm mso bg en wd va gd rs mu rm ss msz msh mho mhn mhz kd nb tn tc bo ip, wMr G rw la ns (sd + min 12 (ns - sd)) (upd to i (nI j)) he sw nh ki (fTe (fun h_ => h_ < nh) la ki mi te ar (upd to i (nI j)) he sw sd (min 12 (ns - sd))) mi (fAr (fun h_ => h_ < nh) la ki mi te ar (upd to i (nI j)) he sw sd (min 12 (ns - sd))) z, wMr G tr la ns sd to he sw nh ki te mi ar z]) (rest := []) (st' := [.int (fBC (fMask (fun h_ => hasP ((fAr (fun h_ => h_ < nh) la ki mi te ar (upd to i (nI j)) he sw sd (min 12 (ns - sd))) h_) (nI i)) nh))]) 73 (c_X6_ones l G (fMask (fun h_ => hasP ((fAr (fun h_ => h_ < nh) la ki mi te ar (upd to i (nI j)) he sw sd (min 12 (ns - sd))) h_) (nI i)) nh) (lo_ex (lo_mask (by omega)))) [] rfl rfl [] rfl rfl rfl rfl rfl rfl (Nat.le_of_ble_eq_true rfl) rfl dX6_topicFor_73 ?_
        refine J_istore (lv' := [some (.ref o), some (.int (nI i)), some (.int b), some (.int mm), some (.int (nI j)), some (.int (fBC (fMask (fun h_ => hasP ((fAr (fun h_ => h_ < nh) la ki mi te ar (upd to i (nI j)) he sw sd (min 12 (ns - sd))) h_) (nI i)) nh)))]) 76 dX6_topicFor_76 (by decide) rfl ?_
        refine J_aload_n 78 0 dX6_topicFor_78 rfl rfl ?_
        refine g_792 (v := .ref tr) 79 0 rfl rfl dX6_topicFor_79 ?_
        refine J_aload_n 82 0 dX6_topicFor_82 rfl rfl ?_
        refine g_789 (v := .ref rw) 83 0 rfl rfl dX6_topicFor_83 ?_
        refine kb_RX6_173 (bs' := [wMo o rw fr kp tr ik tp tm mso bg en wd va gd rs mu rm ss msz msh mho mhn mhz kd nb tn tc bo ip, wMr G rw la ns sd to he sw nh ki te mi ar z, wMr G tr la ns sd to he sw nh ki te mi ar z]) (rest := []) (st' := []) 86 (c_X6_moveAll_r l G tr la ns sd to he sw nh ki te mi ar z rw la ns (sd + min 12 (ns - sd)) (upd to i (nI j)) he sw nh ki (fTe (fun h_ => h_ < nh) la ki mi te ar (upd to i (nI j)) he sw sd (min 12 (ns - sd))) mi (fAr (fun h_ => h_ < nh) la ki mi te ar (upd to i (nI j)) he sw sd (min 12 (ns - sd))) z ) [2, 1] rfl rfl [[tr], [rw]] rfl rfl rfl rfl rfl rfl (Nat.le_of_ble_eq_true rfl) rfl dX6_topicFor_86 ?_
        refine J_iload 89 dX6_topicFor_89 rfl ?_
        refine J_iload_n 91 3 dX6_topicFor_91 rfl rfl ?_
        refine J_icmp_le (tgt := 100) 92 dX6_topicFor_92 (by decide) (fun c_2_ => ?_) (fun c_2_ => ?_)
        · skip
          refine J_iload_n 100 2 dX6_topicFor_100 rfl rfl ?_
          refine J_istore_n (lv' := [some (.ref o), some (.int (nI i)), some (.int b), some (.int mm), some (.int (nI j)), some (.int (fBC (fMask (fun h_ => hasP ((fAr (fun h_ => h_ < nh) la ki mi te ar (upd to i (nI j)) he sw sd (min 12 (ns - sd))) h_) (nI i)) nh)))]) 101 2 dX6_topicFor_101 rfl (by decide) rfl ?_
          refine J_iload 102 dX6_topicFor_102 rfl ?_
          refine J_iload_n 104 3 dX6_topicFor_104 rfl rfl ?_
          refine J_icmp_le (tgt := 113) 105 dX6_topicFor_105 (by decide) (fun c_3_ => ?_) (fun c_3_ => ?_)
          · skip
            refine J_iload_n 113 3 dX6_topicFor_113 rfl rfl ?_
            refine J_istore_n (lv' := [some (.ref o), some (.int (nI i)), some (.int b), some (.int mm), some (.int (nI j)), some (.int (fBC (fMask (fun h_ => hasP ((fAr (fun h_ => h_ < nh) la ki mi te ar (upd to i (nI j)) he sw sd (min 12 (ns - sd))) h_) (nI i)) nh)))]) 114 3 dX6_topicFor_114 rfl (by decide) rfl ?_
            refine J_iinc (v := nI (j + 1)) (lv' := [some (.ref o), some (.int (nI i)), some (.int b), some (.int mm), some (.int (nI (j + 1))), some (.int (fBC (fMask (fun h_ => hasP ((fAr (fun h_ => h_ < nh) la ki mi te ar (upd to i (nI j)) he sw sd (min 12 (ns - sd))) h_) (nI i)) nh)))]) 115 dX6_topicFor_115 rfl (nI_add _ 1) (by decide) rfl ?_
            refine J_goto (tgt := 41) 118 dX6_topicFor_118 (by decide) ?_
            refine J_mask (lv' := [some (.ref o), some (.int (nI i)), some (.int b), some (.int mm), some (.int (nI (j + 1))), none]) 41 [true, true, true, true, true, false] rfl ?_
            exact ih_41_ (j + 1) b mm (by omega) (by first | assumption | omega | rfl) (by first | contradiction | rfl | exact fBest_t hb (by rw [Nat.zero_add]) (by assumption) | exact fBest_f hb (by rw [Nat.zero_add]) (by assumption) | (rw [fBest_t hb (by rw [Nat.zero_add]) (by assumption), Nat.zero_add]))
          · skip
            refine J_iload 108 dX6_topicFor_108 rfl ?_
            refine J_goto (tgt := 114) 110 dX6_topicFor_110 (by decide) ?_
            refine J_istore_n (lv' := [some (.ref o), some (.int (nI i)), some (.int b), some (.int (fBC (fMask (fun h_ => hasP ((fAr (fun h_ => h_ < nh) la ki mi te ar (upd to i (nI j)) he sw sd (min 12 (ns - sd))) h_) (nI i)) nh))), some (.int (nI j)), some (.int (fBC (fMask (fun h_ => hasP ((fAr (fun h_ => h_ < nh) la ki mi te ar (upd to i (nI j)) he sw sd (min 12 (ns - sd))) h_) (nI i)) nh)))]) 114 3 dX6_topicFor_114 rfl (by decide) rfl ?_
            refine J_iinc (v := nI (j + 1)) (lv' := [some (.ref o), some (.int (nI i)), some (.int b), some (.int (fBC (fMask (fun h_ => hasP ((fAr (fun h_ => h_ < nh) la ki mi te ar (upd to i (nI j)) he sw sd (min 12 (ns - sd))) h_) (nI i)) nh))), some (.int (nI (j + 1))), some (.int (fBC (fMask (fun h_ => hasP ((fAr (fun h_ => h_ < nh) la ki mi te ar (upd to i (nI j)) he sw sd (min 12 (ns - sd))) h_) (nI i)) nh)))]) 115 dX6_topicFor_115 rfl (nI_add _ 1) (by decide) rfl ?_
            refine J_goto (tgt := 41) 118 dX6_topicFor_118 (by decide) ?_
            refine J_mask (lv' := [some (.ref o), some (.int (nI i)), some (.int b), some (.int (fBC (fMask (fun h_ => hasP ((fAr (fun h_ => h_ < nh) la ki mi te ar (upd to i (nI j)) he sw sd (min 12 (ns - sd))) h_) (nI i)) nh))), some (.int (nI (j + 1))), none]) 41 [true, true, true, true, true, false] rfl ?_
            exact ih_41_ (j + 1) b (fBC (fMask (fun h_ => hasP ((fAr (fun h_ => h_ < nh) la ki mi te ar (upd to i (nI j)) he sw sd (min 12 (ns - sd))) h_) (nI i)) nh)) (by omega) (by first | assumption | omega | rfl) (by first | contradiction | rfl | exact fBest_t hb (by rw [Nat.zero_add]) (by assumption) | exact fBest_f hb (by rw [Nat.zero_add]) (by assumption) | (rw [fBest_t hb (by rw [Nat.zero_add]) (by assumption), Nat.zero_add]))
        · skip
          refine J_iload 95 dX6_topicFor_95 rfl ?_
          refine J_goto (tgt := 101) 97 dX6_topicFor_97 (by decide) ?_
          refine J_istore_n (lv' := [some (.ref o), some (.int (nI i)), some (.int (nI j)), some (.int mm), some (.int (nI j)), some (.int (fBC (fMask (fun h_ => hasP ((fAr (fun h_ => h_ < nh) la ki mi te ar (upd to i (nI j)) he sw sd (min 12 (ns - sd))) h_) (nI i)) nh)))]) 101 2 dX6_topicFor_101 rfl (by decide) rfl ?_
          refine J_iload 102 dX6_topicFor_102 rfl ?_
          refine J_iload_n 104 3 dX6_topicFor_104 rfl rfl ?_
          refine J_icmp_le (tgt := 113) 105 dX6_topicFor_105 (by decide) (fun c_4_ => ?_) (fun c_4_ => ?_)
          · skip
            refine J_iload_n 113 3 dX6_topicFor_113 rfl rfl ?_
            refine J_istore_n (lv' := [some (.ref o), some (.int (nI i)), some (.int (nI j)), some (.int mm), some (.int (nI j)), some (.int (fBC (fMask (fun h_ => hasP ((fAr (fun h_ => h_ < nh) la ki mi te ar (upd to i (nI j)) he sw sd (min 12 (ns - sd))) h_) (nI i)) nh)))]) 114 3 dX6_topicFor_114 rfl (by decide) rfl ?_
            refine J_iinc (v := nI (j + 1)) (lv' := [some (.ref o), some (.int (nI i)), some (.int (nI j)), some (.int mm), some (.int (nI (j + 1))), some (.int (fBC (fMask (fun h_ => hasP ((fAr (fun h_ => h_ < nh) la ki mi te ar (upd to i (nI j)) he sw sd (min 12 (ns - sd))) h_) (nI i)) nh)))]) 115 dX6_topicFor_115 rfl (nI_add _ 1) (by decide) rfl ?_
            refine J_goto (tgt := 41) 118 dX6_topicFor_118 (by decide) ?_
            refine J_mask (lv' := [some (.ref o), some (.int (nI i)), some (.int (nI j)), some (.int mm), some (.int (nI (j + 1))), none]) 41 [true, true, true, true, true, false] rfl ?_
            exact ih_41_ (j + 1) (nI j) mm (by omega) (by first | assumption | omega | rfl) (by first | contradiction | rfl | exact fBest_t hb (by rw [Nat.zero_add]) (by assumption) | exact fBest_f hb (by rw [Nat.zero_add]) (by assumption) | (rw [fBest_t hb (by rw [Nat.zero_add]) (by assumption), Nat.zero_add]))
          · skip
            refine J_iload 108 dX6_topicFor_108 rfl ?_
            refine J_goto (tgt := 114) 110 dX6_topicFor_110 (by decide) ?_
            refine J_istore_n (lv' := [some (.ref o), some (.int (nI i)), some (.int (nI j)), some (.int (fBC (fMask (fun h_ => hasP ((fAr (fun h_ => h_ < nh) la ki mi te ar (upd to i (nI j)) he sw sd (min 12 (ns - sd))) h_) (nI i)) nh))), some (.int (nI j)), some (.int (fBC (fMask (fun h_ => hasP ((fAr (fun h_ => h_ < nh) la ki mi te ar (upd to i (nI j)) he sw sd (min 12 (ns - sd))) h_) (nI i)) nh)))]) 114 3 dX6_topicFor_114 rfl (by decide) rfl ?_
            refine J_iinc (v := nI (j + 1)) (lv' := [some (.ref o), some (.int (nI i)), some (.int (nI j)), some (.int (fBC (fMask (fun h_ => hasP ((fAr (fun h_ => h_ < nh) la ki mi te ar (upd to i (nI j)) he sw sd (min 12 (ns - sd))) h_) (nI i)) nh))), some (.int (nI (j + 1))), some (.int (fBC (fMask (fun h_ => hasP ((fAr (fun h_ => h_ < nh) la ki mi te ar (upd to i (nI j)) he sw sd (min 12 (ns - sd))) h_) (nI i)) nh)))]) 115 dX6_topicFor_115 rfl (nI_add _ 1) (by decide) rfl ?_
            refine J_goto (tgt := 41) 118 dX6_topicFor_118 (by decide) ?_
            refine J_mask (lv' := [some (.ref o), some (.int (nI i)), some (.int (nI j)), some (.int (fBC (fMask (fun h_ => hasP ((fAr (fun h_ => h_ < nh) la ki mi te ar (upd to i (nI j)) he sw sd (min 12 (ns - sd))) h_) (nI i)) nh))), some (.int (nI (j + 1))), none]) 41 [true, true, true, true, true, false] rfl ?_
            exact ih_41_ (j + 1) (nI j) (fBC (fMask (fun h_ => hasP ((fAr (fun h_ => h_ < nh) la ki mi te ar (upd to i (nI j)) he sw sd (min 12 (ns - sd))) h_) (nI i)) nh)) (by omega) (by first | assumption | omega | rfl) (by first | contradiction | rfl | exact fBest_t hb (by rw [Nat.zero_add]) (by assumption) | exact fBest_f hb (by rw [Nat.zero_add]) (by assumption) | (rw [fBest_t hb (by rw [Nat.zero_add]) (by assumption), Nat.zero_add]))
  refine J_aload_n 0 0 dX6_topicFor_0 rfl rfl ?_
  refine J_iload_n 1 1 dX6_topicFor_1 rfl rfl ?_
  refine kb_RX6_190 (bs' := [wMo o rw fr kp tr ik tp tm mso bg en wd va gd rs mu rm ss msz msh mho mhn mhz kd nb tn tc bo ip, wMr G rw la ns sd to he sw nh ki te mi ar z, wMr G tr t_la t_ns t_sd t_to t_he t_sw t_nh t_ki t_te t_mi t_ar t_z]) (rest := []) (st' := [.int 1]) 2 (c_X6_isSaying_t l G i o rw fr kp tr ik tp tm mso bg en wd va gd rs mu rm ss msz msh mho mhn mhz kd nb tn tc bo ip la ns sd to he sw nh ki te mi ar z (by assumption) (by omega)) [0, 1] 0 rfl rfl rfl [[o], [rw]] rfl rfl rfl rfl rfl rfl (Nat.le_of_ble_eq_true rfl) rfl dX6_topicFor_2 ?_
  refine J_if_ne (tgt := 10) 5 dX6_topicFor_5 (by decide) (fun _ => ?_) (fun c_5_ => absurd c_5_ (by decide))
  refine J_iload_n 10 1 dX6_topicFor_10 rfl rfl ?_
  refine J_aload_n 11 0 dX6_topicFor_11 rfl rfl ?_
  refine g_789 (v := .ref rw) 12 0 rfl rfl dX6_topicFor_12 ?_
  refine J_iconst (v := 4) 15 dX6_topicFor_15 rfl ?_
  refine J_iald 16 1 4 rfl rfl (by omega) (by decide) dX6_topicFor_16 ?_
  refine J_topi (y := nI sd) 17 (fR_sd rfl) ?_
  refine J_icmp_ge (tgt := 23) 17 dX6_topicFor_17 (by decide) (fun c_6_ => ?_) (fun c_6_ => ?_)
  · skip
    have c_6_ : sd ≤ i := (nI_leI (a := sd) (b := i) (by omega) (by omega)).mp c_6_
    refine J_aload_n 23 0 dX6_topicFor_23 rfl rfl ?_
    refine g_789 (v := .ref rw) 24 0 rfl rfl dX6_topicFor_24 ?_
    refine J_aload_n 27 0 dX6_topicFor_27 rfl rfl ?_
    refine g_792 (v := .ref tr) 28 0 rfl rfl dX6_topicFor_28 ?_
    refine kb_RX6_173 (bs' := [wMo o rw fr kp tr ik tp tm mso bg en wd va gd rs mu rm ss msz msh mho mhn mhz kd nb tn tc bo ip, wMr G rw la ns sd to he sw nh ki te mi ar z, wMr G tr la ns sd to he sw nh ki te mi ar z]) (rest := []) (st' := []) 31 (c_X6_moveAll_r l G rw la ns sd to he sw nh ki te mi ar z tr t_la t_ns t_sd t_to t_he t_sw t_nh t_ki t_te t_mi t_ar t_z ) [1, 2] rfl rfl [[rw], [tr]] rfl rfl rfl rfl rfl rfl (Nat.le_of_ble_eq_true rfl) rfl dX6_topicFor_31 ?_
    refine J_iconst (v := 0) 34 dX6_topicFor_34 rfl ?_
    refine J_istore_n (lv' := [some (.ref o), some (.int (nI i)), some (.int 0), none, none, none]) 35 2 dX6_topicFor_35 rfl (by decide) rfl ?_
    refine J_iconst (v := (-1)) 36 dX6_topicFor_36 rfl ?_
    refine J_istore_n (lv' := [some (.ref o), some (.int (nI i)), some (.int 0), some (.int (-1)), none, none]) 37 3 dX6_topicFor_37 rfl (by decide) rfl ?_
    refine J_iconst (v := 0) 38 dX6_topicFor_38 rfl ?_
    refine J_istore (lv' := [some (.ref o), some (.int (nI i)), some (.int 0), some (.int (-1)), some (.int 0), none]) 39 dX6_topicFor_39 (by decide) rfl ?_
    exact cut_41_ ((8 - 0) + 1) 0 0 (-1) (Nat.lt_succ_self _) (by first | assumption | omega | rfl) (by first | contradiction | rfl | exact fBest_t hb (by rw [Nat.zero_add]) (by assumption) | exact fBest_f hb (by rw [Nat.zero_add]) (by assumption) | (rw [fBest_t hb (by rw [Nat.zero_add]) (by assumption), Nat.zero_add]))
  · skip
    have c_6_ : ¬ sd ≤ i := fun z_ => c_6_ ((nI_leI (a := sd) (b := i) (by omega) (by omega)).mpr z_)
    omega
set_option maxRecDepth 100000 in
set_option maxHeartbeats 4000000 in
theorem c_X6_heatFor_bad (l : Launch) (G : Gd) (i : Int32) (h : Int32) (o : Nat) (rw : Nat) (fr : Nat) (kp : Nat) (tr : Nat) (ik : Int32) (tp : Nat) (tm : Nat) (mso : Int32) (bg : Nat) (en : Nat) (wd : Int64) (va : Int32) (gd : Int32) (rs : Nat) (mu : Nat) (rm : Nat) (ss : Nat) (msz : Nat) (msh : Nat) (mho : Nat) (mhn : Nat) (mhz : Nat) (kd : Int32) (nb : Int32) (tn : Int32) (tc : Nat) (bo : Nat) (ip : Int32) (la : Nat → Int32) (ns : Nat) (sd : Nat) (to : Nat → Int32) (he : Nat → Int32) (sw : Nat → Int32) (nh : Nat) (ki : Nat → Int32) (te : Nat → Int32) (mi : Nat → Int32) (ar : Nat → Int32) (z : Int32) (hw : ¬ (0 ≤ i ∧ i ≤ nI ns - 1)) : Ct l G yX6_heatFor cX6_heatFor 5 (some (FieldType.int)) 4 [.ref o, .int i, .int h] (wF [wMo o rw fr kp tr ik tp tm mso bg en wd va gd rs mu rm ss msz msh mho mhn mhz kd nb tn tc bo ip, wMr G rw la ns sd to he sw nh ki te mi ar z]) (some (.int (-1))) (wF [wMo o rw fr kp tr ik tp tm mso bg en wd va gd rs mu rm ss msz msh mho mhn mhz kd nb tn tc bo ip, wMr G rw la ns sd to he sw nh ki te mi ar z]) := by
  refine Ct.of "GooseArmsModel" [some (.ref o), some (.int i), some (.int h), none, none] (by decide +kernel) rfl (Nat.le_of_ble_eq_true rfl) rfl ?_
  refine J_aload_n 0 0 dX6_heatFor_0 rfl rfl ?_
  refine J_iload_n 1 1 dX6_heatFor_1 rfl rfl ?_
  refine kb_RX6_190 (bs' := [wMo o rw fr kp tr ik tp tm mso bg en wd va gd rs mu rm ss msz msh mho mhn mhz kd nb tn tc bo ip, wMr G rw la ns sd to he sw nh ki te mi ar z]) (rest := []) (st' := [.int 0]) 2 (c_X6_isSaying_f l G i o rw fr kp tr ik tp tm mso bg en wd va gd rs mu rm ss msz msh mho mhn mhz kd nb tn tc bo ip la ns sd to he sw nh ki te mi ar z (by first | omega | assumption)) [0, 1] 0 rfl rfl rfl [[o], [rw]] rfl rfl rfl rfl rfl rfl (Nat.le_of_ble_eq_true rfl) rfl dX6_heatFor_2 ?_
  refine J_if_eq (tgt := 16) 5 dX6_heatFor_5 (by decide) (fun _ => ?_) (fun c_1_ => absurd c_1_ (by decide))
  refine J_iconst (v := (-1)) 16 dX6_heatFor_16 rfl ?_
  exact J_iret 17 dX6_heatFor_17 rfl rfl
set_option maxRecDepth 100000 in
set_option maxHeartbeats 4000000 in
theorem c_X6_heatFor_badh (l : Launch) (G : Gd) (i : Nat) (h : Int32) (o : Nat) (rw : Nat) (fr : Nat) (kp : Nat) (tr : Nat) (ik : Int32) (tp : Nat) (tm : Nat) (mso : Int32) (bg : Nat) (en : Nat) (wd : Int64) (va : Int32) (gd : Int32) (rs : Nat) (mu : Nat) (rm : Nat) (ss : Nat) (msz : Nat) (msh : Nat) (mho : Nat) (mhn : Nat) (mhz : Nat) (kd : Int32) (nb : Int32) (tn : Int32) (tc : Nat) (bo : Nat) (ip : Int32) (la : Nat → Int32) (ns : Nat) (sd : Nat) (to : Nat → Int32) (he : Nat → Int32) (sw : Nat → Int32) (nh : Nat) (ki : Nat → Int32) (te : Nat → Int32) (mi : Nat → Int32) (ar : Nat → Int32) (z : Int32) (hi : i < ns) (hns : ns ≤ 12) (hw : ¬ (0 ≤ h ∧ h ≤ nI nh - 1)) : Ct l G yX6_heatFor cX6_heatFor 5 (some (FieldType.int)) 4 [.ref o, .int (nI i), .int h] (wF [wMo o rw fr kp tr ik tp tm mso bg en wd va gd rs mu rm ss msz msh mho mhn mhz kd nb tn tc bo ip, wMr G rw la ns sd to he sw nh ki te mi ar z]) (some (.int (-1))) (wF [wMo o rw fr kp tr ik tp tm mso bg en wd va gd rs mu rm ss msz msh mho mhn mhz kd nb tn tc bo ip, wMr G rw la ns sd to he sw nh ki te mi ar z]) := by
  refine Ct.of "GooseArmsModel" [some (.ref o), some (.int (nI i)), some (.int h), none, none] (by decide +kernel) rfl (Nat.le_of_ble_eq_true rfl) rfl ?_
  refine J_aload_n 0 0 dX6_heatFor_0 rfl rfl ?_
  refine J_iload_n 1 1 dX6_heatFor_1 rfl rfl ?_
  refine kb_RX6_190 (bs' := [wMo o rw fr kp tr ik tp tm mso bg en wd va gd rs mu rm ss msz msh mho mhn mhz kd nb tn tc bo ip, wMr G rw la ns sd to he sw nh ki te mi ar z]) (rest := []) (st' := [.int 1]) 2 (c_X6_isSaying_t l G i o rw fr kp tr ik tp tm mso bg en wd va gd rs mu rm ss msz msh mho mhn mhz kd nb tn tc bo ip la ns sd to he sw nh ki te mi ar z (by assumption) (by omega)) [0, 1] 0 rfl rfl rfl [[o], [rw]] rfl rfl rfl rfl rfl rfl (Nat.le_of_ble_eq_true rfl) rfl dX6_heatFor_2 ?_
  refine J_if_eq (tgt := 16) 5 dX6_heatFor_5 (by decide) (fun c_1_ => absurd c_1_ (by decide)) (fun _ => ?_)
  refine J_aload_n 8 0 dX6_heatFor_8 rfl rfl ?_
  refine J_iload_n 9 2 dX6_heatFor_9 rfl rfl ?_
  refine kb_RX6_206 (bs' := [wMo o rw fr kp tr ik tp tm mso bg en wd va gd rs mu rm ss msz msh mho mhn mhz kd nb tn tc bo ip, wMr G rw la ns sd to he sw nh ki te mi ar z]) (rest := []) (st' := [.int 0]) 10 (c_X6_isOne_f l G h o rw fr kp tr ik tp tm mso bg en wd va gd rs mu rm ss msz msh mho mhn mhz kd nb tn tc bo ip la ns sd to he sw nh ki te mi ar z (by first | omega | assumption)) [0, 1] 0 rfl rfl rfl [[o], [rw]] rfl rfl rfl rfl rfl rfl (Nat.le_of_ble_eq_true rfl) rfl dX6_heatFor_10 ?_
  refine J_if_ne (tgt := 18) 13 dX6_heatFor_13 (by decide) (fun c_2_ => absurd c_2_ (by decide)) (fun _ => ?_)
  refine J_iconst (v := (-1)) 16 dX6_heatFor_16 rfl ?_
  exact J_iret 17 dX6_heatFor_17 rfl rfl
set_option maxRecDepth 100000 in
set_option maxHeartbeats 4000000 in
theorem c_X6_heatFor_said (l : Launch) (G : Gd) (i : Nat) (h : Nat) (o : Nat) (rw : Nat) (fr : Nat) (kp : Nat) (tr : Nat) (ik : Int32) (tp : Nat) (tm : Nat) (mso : Int32) (bg : Nat) (en : Nat) (wd : Int64) (va : Int32) (gd : Int32) (rs : Nat) (mu : Nat) (rm : Nat) (ss : Nat) (msz : Nat) (msh : Nat) (mho : Nat) (mhn : Nat) (mhz : Nat) (kd : Int32) (nb : Int32) (tn : Int32) (tc : Nat) (bo : Nat) (ip : Int32) (la : Nat → Int32) (ns : Nat) (sd : Nat) (to : Nat → Int32) (he : Nat → Int32) (sw : Nat → Int32) (nh : Nat) (ki : Nat → Int32) (te : Nat → Int32) (mi : Nat → Int32) (ar : Nat → Int32) (z : Int32) (hi : i < ns) (hh : h < nh) (hnh : nh ≤ 8) (hns : ns ≤ 12) (hsd : sd ≤ ns) (hz : i < sd) : Ct l G yX6_heatFor cX6_heatFor 5 (some (FieldType.int)) 4 [.ref o, .int (nI i), .int (nI h)] (wF [wMo o rw fr kp tr ik tp tm mso bg en wd va gd rs mu rm ss msz msh mho mhn mhz kd nb tn tc bo ip, wMr G rw la ns sd to he sw nh ki te mi ar z]) (some (.int (-3))) (wF [wMo o rw fr kp tr ik tp tm mso bg en wd va gd rs mu rm ss msz msh mho mhn mhz kd nb tn tc bo ip, wMr G rw la ns sd to he sw nh ki te mi ar z]) := by
  refine Ct.of "GooseArmsModel" [some (.ref o), some (.int (nI i)), some (.int (nI h)), none, none] (by decide +kernel) rfl (Nat.le_of_ble_eq_true rfl) rfl ?_
  refine J_aload_n 0 0 dX6_heatFor_0 rfl rfl ?_
  refine J_iload_n 1 1 dX6_heatFor_1 rfl rfl ?_
  refine kb_RX6_190 (bs' := [wMo o rw fr kp tr ik tp tm mso bg en wd va gd rs mu rm ss msz msh mho mhn mhz kd nb tn tc bo ip, wMr G rw la ns sd to he sw nh ki te mi ar z]) (rest := []) (st' := [.int 1]) 2 (c_X6_isSaying_t l G i o rw fr kp tr ik tp tm mso bg en wd va gd rs mu rm ss msz msh mho mhn mhz kd nb tn tc bo ip la ns sd to he sw nh ki te mi ar z (by assumption) (by omega)) [0, 1] 0 rfl rfl rfl [[o], [rw]] rfl rfl rfl rfl rfl rfl (Nat.le_of_ble_eq_true rfl) rfl dX6_heatFor_2 ?_
  refine J_if_eq (tgt := 16) 5 dX6_heatFor_5 (by decide) (fun c_1_ => absurd c_1_ (by decide)) (fun _ => ?_)
  refine J_aload_n 8 0 dX6_heatFor_8 rfl rfl ?_
  refine J_iload_n 9 2 dX6_heatFor_9 rfl rfl ?_
  refine kb_RX6_206 (bs' := [wMo o rw fr kp tr ik tp tm mso bg en wd va gd rs mu rm ss msz msh mho mhn mhz kd nb tn tc bo ip, wMr G rw la ns sd to he sw nh ki te mi ar z]) (rest := []) (st' := [.int 1]) 10 (c_X6_isOne_t l G h o rw fr kp tr ik tp tm mso bg en wd va gd rs mu rm ss msz msh mho mhn mhz kd nb tn tc bo ip la ns sd to he sw nh ki te mi ar z (by assumption) (by omega)) [0, 1] 0 rfl rfl rfl [[o], [rw]] rfl rfl rfl rfl rfl rfl (Nat.le_of_ble_eq_true rfl) rfl dX6_heatFor_10 ?_
  refine J_if_ne (tgt := 18) 13 dX6_heatFor_13 (by decide) (fun _ => ?_) (fun c_2_ => absurd c_2_ (by decide))
  refine J_iload_n 18 1 dX6_heatFor_18 rfl rfl ?_
  refine J_aload_n 19 0 dX6_heatFor_19 rfl rfl ?_
  refine g_789 (v := .ref rw) 20 0 rfl rfl dX6_heatFor_20 ?_
  refine J_iconst (v := 4) 23 dX6_heatFor_23 rfl ?_
  refine J_iald 24 1 4 rfl rfl (by omega) (by decide) dX6_heatFor_24 ?_
  refine J_topi (y := nI sd) 25 (fR_sd rfl) ?_
  refine J_icmp_ge (tgt := 31) 25 dX6_heatFor_25 (by decide) (fun c_3_ => ?_) (fun c_3_ => ?_)
  · skip
    have c_3_ : sd ≤ i := (nI_leI (a := sd) (b := i) (by omega) (by omega)).mp c_3_
    omega
  · skip
    have c_3_ : ¬ sd ≤ i := fun z_ => c_3_ ((nI_leI (a := sd) (b := i) (by omega) (by omega)).mpr z_)
    refine J_bipush (v := (-3)) 28 dX6_heatFor_28 rfl ?_
    exact J_iret 30 dX6_heatFor_30 rfl rfl
set_option maxRecDepth 100000 in
set_option maxHeartbeats 4000000 in
theorem c_X6_heatFor_ok (l : Launch) (G : Gd) (i : Nat) (h : Nat) (o : Nat) (rw : Nat) (fr : Nat) (kp : Nat) (tr : Nat) (ik : Int32) (tp : Nat) (tm : Nat) (mso : Int32) (bg : Nat) (en : Nat) (wd : Int64) (va : Int32) (gd : Int32) (rs : Nat) (mu : Nat) (rm : Nat) (ss : Nat) (msz : Nat) (msh : Nat) (mho : Nat) (mhn : Nat) (mhz : Nat) (kd : Int32) (nb : Int32) (tn : Int32) (tc : Nat) (bo : Nat) (ip : Int32) (la : Nat → Int32) (ns : Nat) (sd : Nat) (to : Nat → Int32) (he : Nat → Int32) (sw : Nat → Int32) (nh : Nat) (ki : Nat → Int32) (te : Nat → Int32) (mi : Nat → Int32) (ar : Nat → Int32) (z : Int32) (t_la : Nat → Int32) (t_ns : Nat) (t_sd : Nat) (t_to : Nat → Int32) (t_he : Nat → Int32) (t_sw : Nat → Int32) (t_nh : Nat) (t_ki : Nat → Int32) (t_te : Nat → Int32) (t_mi : Nat → Int32) (t_ar : Nat → Int32) (t_z : Int32) (hi : i < ns) (hh : h < nh) (hnh : nh ≤ 8) (hns : ns ≤ 12) (hsd : sd ≤ ns) (hz : sd ≤ i) : CtP l G yX6_heatFor cX6_heatFor 5 (some (FieldType.int)) 4 [.ref o, .int (nI i), .int (nI h)] (wF [wMo o rw fr kp tr ik tp tm mso bg en wd va gd rs mu rm ss msz msh mho mhn mhz kd nb tn tc bo ip, wMr G rw la ns sd to he sw nh ki te mi ar z, wMr G tr t_la t_ns t_sd t_to t_he t_sw t_nh t_ki t_te t_mi t_ar t_z]) (some (.int (fFst (fun j_ => hasP (evTA la (ki h) (mi h) to (upd he i (nI j_)) sw sd (ns - sd) (te h, ar h)).2 (nI i)) 10 0))) (fun w_ => ∃ (j_2_la : Nat → Int32) (j_2_ns : Nat) (j_2_sd : Nat) (j_2_to : Nat → Int32) (j_2_he : Nat → Int32) (j_2_sw : Nat → Int32) (j_2_nh : Nat) (j_2_ki : Nat → Int32) (j_2_te : Nat → Int32) (j_2_mi : Nat → Int32) (j_2_ar : Nat → Int32) (j_2_z : Int32), w_ = (wF [wMo o rw fr kp tr ik tp tm mso bg en wd va gd rs mu rm ss msz msh mho mhn mhz kd nb tn tc bo ip, wMr G rw la ns sd to he sw nh ki te mi ar z, wMr G tr j_2_la j_2_ns j_2_sd j_2_to j_2_he j_2_sw j_2_nh j_2_ki j_2_te j_2_mi j_2_ar j_2_z])) := by
  refine CtP.of "GooseArmsModel" [some (.ref o), some (.int (nI i)), some (.int (nI h)), none, none] (by decide +kernel) rfl (Nat.le_of_ble_eq_true rfl) rfl ?_
  have cut_47_ : ∀ (n_47_ : Nat) (j : Nat) (v : Int32), (10 - j < n_47_) → (hj : j ≤ 10) → (hf : (v = 0 ∧ fFst (fun j_ => hasP (evTA la (ki h) (mi h) to (upd he i (nI j_)) sw sd (ns - sd) (te h, ar h)).2 (nI i)) 10 0 = fFst (fun j_ => hasP (evTA la (ki h) (mi h) to (upd he i (nI j_)) sw sd (ns - sd) (te h, ar h)).2 (nI i)) (10 - j) j) ∨ (v = 1 ∧ fFst (fun j_ => hasP (evTA la (ki h) (mi h) to (upd he i (nI j_)) sw sd (ns - sd) (te h, ar h)).2 (nI i)) 10 0 = nI j - 1)) → J l G (bdP G 4 (some (FieldType.int)) (some (.int (fFst (fun j_ => hasP (evTA la (ki h) (mi h) to (upd he i (nI j_)) sw sd (ns - sd) (te h, ar h)).2 (nI i)) 10 0))) (fun w_ => ∃ (j_2_la : Nat → Int32) (j_2_ns : Nat) (j_2_sd : Nat) (j_2_to : Nat → Int32) (j_2_he : Nat → Int32) (j_2_sw : Nat → Int32) (j_2_nh : Nat) (j_2_ki : Nat → Int32) (j_2_te : Nat → Int32) (j_2_mi : Nat → Int32) (j_2_ar : Nat → Int32) (j_2_z : Int32), w_ = (wF [wMo o rw fr kp tr ik tp tm mso bg en wd va gd rs mu rm ss msz msh mho mhn mhz kd nb tn tc bo ip, wMr G rw la ns sd to he sw nh ki te mi ar z, wMr G tr j_2_la j_2_ns j_2_sd j_2_to j_2_he j_2_sw j_2_nh j_2_ki j_2_te j_2_mi j_2_ar j_2_z]))) cX6_heatFor 5 "GooseArmsModel" 47 [some (.ref o), some (.int (nI i)), some (.int (nI h)), some (.int (nI j - 1)), some (.int v)] [] (wF [wMo o rw fr kp tr ik tp tm mso bg en wd va gd rs mu rm ss msz msh mho mhn mhz kd nb tn tc bo ip, wMr G rw la ns sd to he sw nh ki te mi ar z, wMr G tr la ns sd to he sw nh ki te mi ar z]) := by
    intro n_47_
    induction n_47_ with
    | zero => intro j v m_47_; exact absurd m_47_ (Nat.not_lt_zero _)
    | succ n_47_ ih_47_ =>
      intro j v m_47_ hj hf
      refine J_iload_n 47 3 dX6_heatFor_47 rfl rfl ?_
      refine J_bipush (v := 9) 48 dX6_heatFor_48 rfl ?_
      refine J_icmp_ge (tgt := 117) 50 dX6_heatFor_50 (by decide) (fun c_1_ => ?_) (fun c_1_ => ?_)
      · skip
        refine J_iload 117 dX6_heatFor_117 rfl ?_
        refine J_if_eq (tgt := 126) 119 dX6_heatFor_119 (by decide) (fun c_2_ => ?_) (fun c_2_ => ?_)
        · skip
          refine J_bipush (v := (-3)) 126 dX6_heatFor_126 rfl ?_
          exact J_iretP 128 dX6_heatFor_128 (congrArg (fun x_ => some (Value.int x_)) (by first | exact (hf.resolve_left (fun z_ => absurd z_.1 (by assumption))).2.symm | exact ((hf.resolve_right (fun z_ => absurd (z_.1.symm.trans (by assumption : v = 0)) (by decide))).2.trans (fFst_e (by have z_ := (hn_all j (by omega)).2.mp (by assumption); omega))).symm | exact absurd (by assumption) (by assumption))) ⟨la, ns, sd, to, he, sw, nh, ki, te, mi, ar, z, rfl⟩
        · skip
          refine J_iload_n 122 3 dX6_heatFor_122 rfl rfl ?_
          refine J_goto (tgt := 128) 123 dX6_heatFor_123 (by decide) ?_
          exact J_iretP 128 dX6_heatFor_128 (congrArg (fun x_ => some (Value.int x_)) (by first | exact (hf.resolve_left (fun z_ => absurd z_.1 (by assumption))).2.symm | exact ((hf.resolve_right (fun z_ => absurd (z_.1.symm.trans (by assumption : v = 0)) (by decide))).2.trans (fFst_e (by have z_ := (hn_all j (by omega)).2.mp (by assumption); omega))).symm | exact absurd (by assumption) (by assumption))) ⟨la, ns, sd, to, he, sw, nh, ki, te, mi, ar, z, rfl⟩
      · skip
        refine J_iload 53 dX6_heatFor_53 rfl ?_
        refine J_if_ne (tgt := 117) 55 dX6_heatFor_55 (by decide) (fun c_3_ => ?_) (fun c_3_ => ?_)
        · skip
          refine J_iload 117 dX6_heatFor_117 rfl ?_
          refine J_if_eq (tgt := 126) 119 dX6_heatFor_119 (by decide) (fun c_4_ => ?_) (fun c_4_ => ?_)
          · skip
            refine J_bipush (v := (-3)) 126 dX6_heatFor_126 rfl ?_
            exact J_iretP 128 dX6_heatFor_128 (congrArg (fun x_ => some (Value.int x_)) (by first | exact (hf.resolve_left (fun z_ => absurd z_.1 (by assumption))).2.symm | exact ((hf.resolve_right (fun z_ => absurd (z_.1.symm.trans (by assumption : v = 0)) (by decide))).2.trans (fFst_e (by have z_ := (hn_all j (by omega)).2.mp (by assumption); omega))).symm | exact absurd (by assumption) (by assumption))) ⟨la, ns, sd, to, he, sw, nh, ki, te, mi, ar, z, rfl⟩
          · skip
            refine J_iload_n 122 3 dX6_heatFor_122 rfl rfl ?_
            refine J_goto (tgt := 128) 123 dX6_heatFor_123 (by decide) ?_
            exact J_iretP 128 dX6_heatFor_128 (congrArg (fun x_ => some (Value.int x_)) (by first | exact (hf.resolve_left (fun z_ => absurd z_.1 (by assumption))).2.symm | exact ((hf.resolve_right (fun z_ => absurd (z_.1.symm.trans (by assumption : v = 0)) (by decide))).2.trans (fFst_e (by have z_ := (hn_all j (by omega)).2.mp (by assumption); omega))).symm | exact absurd (by assumption) (by assumption))) ⟨la, ns, sd, to, he, sw, nh, ki, te, mi, ar, z, rfl⟩
        · skip
          have hj10_ : j < 10 := by
            have z_ := (hn_all j (by omega)).2
            have y_ : ¬ j = 10 := fun w_ => absurd (z_.mpr w_) (by assumption)
            omega
          have hf_ := (hf.resolve_right (fun z_ => absurd (z_.1.symm.trans (by assumption : v = 0)) (by decide))).2
          refine J_iinc (v := nI (j + 1) - 1) (lv' := [some (.ref o), some (.int (nI i)), some (.int (nI h)), some (.int (nI (j + 1) - 1)), some (.int v)]) 58 dX6_heatFor_58 rfl (hn_all j (by omega)).1 (by decide) rfl ?_
          refine J_aload_n 61 0 dX6_heatFor_61 rfl rfl ?_
          refine g_789 (v := .ref rw) 62 0 rfl rfl dX6_heatFor_62 ?_
          refine J_bipush (v := 8) 65 dX6_heatFor_65 rfl ?_
          refine J_iconst (v := 3) 67 dX6_heatFor_67 rfl ?_
          refine J_iload_n 68 1 dX6_heatFor_68 rfl rfl ?_
          refine J_imul 69 dX6_heatFor_69 ?_
          refine J_topi (y := nI (3 * i)) 70 (pk_mul 3 i) ?_
          refine J_iadd 70 dX6_heatFor_70 ?_
          refine J_topi (y := nI (8 + (3 * i))) 71 (nI_add 8 (3 * i)) ?_
          refine J_iconst (v := 1) 71 dX6_heatFor_71 rfl ?_
          refine J_iadd 72 dX6_heatFor_72 ?_
          refine J_topi (y := nI ((8 + (3 * i)) + 1)) 73 (nI_add (8 + (3 * i)) 1) ?_
          refine J_iload_n 73 3 dX6_heatFor_73 rfl rfl ?_
          refine J_topi (y := nI j) 74 (nI_pred j) ?_
          refine J_iast (ws' := (wF [wMo o rw fr kp tr ik tp tm mso bg en wd va gd rs mu rm ss msz msh mho mhn mhz kd nb tn tc bo ip, wI G rw 76 (upd (fRow la ns sd to he sw nh ki te mi ar z) ((8 + (3 * i)) + 1) (nI j)), wMr G tr la ns sd to he sw nh ki te mi ar z])) 74 1 ((8 + (3 * i)) + 1) rfl rfl (by omega) (by decide) rfl dX6_heatFor_74 ?_
          refine J_ws (ws' := (wF [wMo o rw fr kp tr ik tp tm mso bg en wd va gd rs mu rm ss msz msh mho mhn mhz kd nb tn tc bo ip, wMr G rw la ns sd to (upd he i (nI j)) sw nh ki te mi ar z, wMr G tr la ns sd to he sw nh ki te mi ar z])) 75 (congrArg (fun x_ => (wF [wMo o rw fr kp tr ik tp tm mso bg en wd va gd rs mu rm ss msz msh mho mhn mhz kd nb tn tc bo ip, wI G rw 76 x_, wMr G tr la ns sd to he sw nh ki te mi ar z])) (fU_he (i := i) (by omega) (by omega))) ?_
          refine J_aload_n 75 0 dX6_heatFor_75 rfl rfl ?_
          refine J_bipush (v := 12) 76 dX6_heatFor_76 rfl ?_
          refine kb_RX6_228 (bs' := [wMo o rw fr kp tr ik tp tm mso bg en wd va gd rs mu rm ss msz msh mho mhn mhz kd nb tn tc bo ip, wMr G rw la ns (sd + min 12 (ns - sd)) to (upd he i (nI j)) sw nh ki (fTe (fun h_ => h_ < nh) la ki mi te ar to (upd he i (nI j)) sw sd (min 12 (ns - sd))) mi (fAr (fun h_ => h_ < nh) la ki mi te ar to (upd he i (nI j)) sw sd (min 12 (ns - sd))) z, wMr G tr la ns sd to he sw nh ki te mi ar z]) (rest := []) (st' := [.int (nI (min 12 (ns - sd)))]) 78 (c_X6_says l G 12 o rw fr kp tr ik tp tm mso bg en wd va gd rs mu rm ss msz msh mho mhn mhz kd nb tn tc bo ip la ns sd to (upd he i (nI j)) sw nh ki te mi ar z (by first | omega | assumption) (by first | omega | assumption) (by first | omega | assumption) (by first | omega | assumption)) [0, 1] 0 rfl rfl rfl [[o], [rw]] rfl rfl rfl rfl rfl rfl (Nat.le_of_ble_eq_true rfl) rfl dX6_heatFor_78 ?_
          refine J_pop 81 dX6_heatFor_81 rfl ?_
          refine J_aload_n 82 0 dX6_heatFor_82 rfl rfl ?_
          refine J_iload_n 83 2 dX6_heatFor_83 rfl rfl ?_
          refine J_iconst (v := 3) 84 dX6_heatFor_84 rfl ?_
          refine kb_RX6_187 (bs' := [wMo o rw fr kp tr ik tp tm mso bg en wd va gd rs mu rm ss msz msh mho mhn mhz kd nb tn tc bo ip, wMr G rw la ns (sd + min 12 (ns - sd)) to (upd he i (nI j)) sw nh ki (fTe (fun h_ => h_ < nh) la ki mi te ar to (upd he i (nI j)) sw sd (min 12 (ns - sd))) mi (fAr (fun h_ => h_ < nh) la ki mi te ar to (upd he i (nI j)) sw sd (min 12 (ns - sd))) z, wMr G tr la ns sd to he sw nh ki te mi ar z]) (rest := []) (st' := [.int ((fAr (fun h_ => h_ < nh) la ki mi te ar to (upd he i (nI j)) sw sd (min 12 (ns - sd))) h)]) 85 (c_X6_its_3 l G h o rw fr kp tr ik tp tm mso bg en wd va gd rs mu rm ss msz msh mho mhn mhz kd nb tn tc bo ip la ns (sd + min 12 (ns - sd)) to (upd he i (nI j)) sw nh ki (fTe (fun h_ => h_ < nh) la ki mi te ar to (upd he i (nI j)) sw sd (min 12 (ns - sd))) mi (fAr (fun h_ => h_ < nh) la ki mi te ar to (upd he i (nI j)) sw sd (min 12 (ns - sd))) z (by first | omega | assumption)) [0, 1] 0 rfl rfl rfl [[o], [rw]] rfl rfl rfl rfl rfl rfl (Nat.le_of_ble_eq_true rfl) rfl dX6_heatFor_85 ?_
          refine J_iload_n 88 1 dX6_heatFor_88 rfl rfl ?_
          refine J_ishr 89 dX6_heatFor_89 ?_
          refine J_iconst (v := 1) 90 dX6_heatFor_90 rfl ?_
          refine J_iand 91 dX6_heatFor_91 ?_
          refine J_iconst (v := 1) 92 dX6_heatFor_92 rfl ?_
          refine J_icmp_ne (tgt := 100) 93 dX6_heatFor_93 (by decide) (fun c_5_ => ?_) (fun c_5_ => ?_)
          · skip
            refine J_iconst (v := 0) 100 dX6_heatFor_100 rfl ?_
            refine J_istore (lv' := [some (.ref o), some (.int (nI i)), some (.int (nI h)), some (.int (nI (j + 1) - 1)), some (.int 0)]) 101 dX6_heatFor_101 (by decide) rfl ?_
            refine J_aload_n 103 0 dX6_heatFor_103 rfl rfl ?_
            refine g_792 (v := .ref tr) 104 0 rfl rfl dX6_heatFor_104 ?_
            refine J_aload_n 107 0 dX6_heatFor_107 rfl rfl ?_
            refine g_789 (v := .ref rw) 108 0 rfl rfl dX6_heatFor_108 ?_
            refine kb_RX6_173 (bs' := [wMo o rw fr kp tr ik tp tm mso bg en wd va gd rs mu rm ss msz msh mho mhn mhz kd nb tn tc bo ip, wMr G rw la ns sd to he sw nh ki te mi ar z, wMr G tr la ns sd to he sw nh ki te mi ar z]) (rest := []) (st' := []) 111 (c_X6_moveAll_r l G tr la ns sd to he sw nh ki te mi ar z rw la ns (sd + min 12 (ns - sd)) to (upd he i (nI j)) sw nh ki (fTe (fun h_ => h_ < nh) la ki mi te ar to (upd he i (nI j)) sw sd (min 12 (ns - sd))) mi (fAr (fun h_ => h_ < nh) la ki mi te ar to (upd he i (nI j)) sw sd (min 12 (ns - sd))) z ) [2, 1] rfl rfl [[tr], [rw]] rfl rfl rfl rfl rfl rfl (Nat.le_of_ble_eq_true rfl) rfl dX6_heatFor_111 ?_
            refine J_goto (tgt := 47) 114 dX6_heatFor_114 (by decide) ?_
            exact ih_47_ (j + 1) 0 (by omega) (by first | assumption | omega | rfl) (by first | exact Or.inl ⟨rfl, rfl⟩ | exact Or.inr ⟨rfl, (hf_.trans (fFst_t hj10_ (by show hasP _ _; rw [← far12 hh hns]; assumption))).trans (nI_pred j).symm⟩ | exact Or.inl ⟨rfl, hf_.trans (fFst_f hj10_ (fun z_ => absurd (show hasP _ _ from (far12 hh hns).symm ▸ z_) (by assumption)))⟩)
          · skip
            refine J_iconst (v := 1) 96 dX6_heatFor_96 rfl ?_
            refine J_goto (tgt := 101) 97 dX6_heatFor_97 (by decide) ?_
            refine J_istore (lv' := [some (.ref o), some (.int (nI i)), some (.int (nI h)), some (.int (nI (j + 1) - 1)), some (.int 1)]) 101 dX6_heatFor_101 (by decide) rfl ?_
            refine J_aload_n 103 0 dX6_heatFor_103 rfl rfl ?_
            refine g_792 (v := .ref tr) 104 0 rfl rfl dX6_heatFor_104 ?_
            refine J_aload_n 107 0 dX6_heatFor_107 rfl rfl ?_
            refine g_789 (v := .ref rw) 108 0 rfl rfl dX6_heatFor_108 ?_
            refine kb_RX6_173 (bs' := [wMo o rw fr kp tr ik tp tm mso bg en wd va gd rs mu rm ss msz msh mho mhn mhz kd nb tn tc bo ip, wMr G rw la ns sd to he sw nh ki te mi ar z, wMr G tr la ns sd to he sw nh ki te mi ar z]) (rest := []) (st' := []) 111 (c_X6_moveAll_r l G tr la ns sd to he sw nh ki te mi ar z rw la ns (sd + min 12 (ns - sd)) to (upd he i (nI j)) sw nh ki (fTe (fun h_ => h_ < nh) la ki mi te ar to (upd he i (nI j)) sw sd (min 12 (ns - sd))) mi (fAr (fun h_ => h_ < nh) la ki mi te ar to (upd he i (nI j)) sw sd (min 12 (ns - sd))) z ) [2, 1] rfl rfl [[tr], [rw]] rfl rfl rfl rfl rfl rfl (Nat.le_of_ble_eq_true rfl) rfl dX6_heatFor_111 ?_
            refine J_goto (tgt := 47) 114 dX6_heatFor_114 (by decide) ?_
            exact ih_47_ (j + 1) 1 (by omega) (by first | assumption | omega | rfl) (by first | exact Or.inl ⟨rfl, rfl⟩ | exact Or.inr ⟨rfl, (hf_.trans (fFst_t hj10_ (by show hasP _ _; rw [← far12 hh hns]; assumption))).trans (nI_pred j).symm⟩ | exact Or.inl ⟨rfl, hf_.trans (fFst_f hj10_ (fun z_ => absurd (show hasP _ _ from (far12 hh hns).symm ▸ z_) (by assumption)))⟩)
  refine J_aload_n 0 0 dX6_heatFor_0 rfl rfl ?_
  refine J_iload_n 1 1 dX6_heatFor_1 rfl rfl ?_
  refine kb_RX6_190 (bs' := [wMo o rw fr kp tr ik tp tm mso bg en wd va gd rs mu rm ss msz msh mho mhn mhz kd nb tn tc bo ip, wMr G rw la ns sd to he sw nh ki te mi ar z, wMr G tr t_la t_ns t_sd t_to t_he t_sw t_nh t_ki t_te t_mi t_ar t_z]) (rest := []) (st' := [.int 1]) 2 (c_X6_isSaying_t l G i o rw fr kp tr ik tp tm mso bg en wd va gd rs mu rm ss msz msh mho mhn mhz kd nb tn tc bo ip la ns sd to he sw nh ki te mi ar z (by assumption) (by omega)) [0, 1] 0 rfl rfl rfl [[o], [rw]] rfl rfl rfl rfl rfl rfl (Nat.le_of_ble_eq_true rfl) rfl dX6_heatFor_2 ?_
  refine J_if_eq (tgt := 16) 5 dX6_heatFor_5 (by decide) (fun c_6_ => absurd c_6_ (by decide)) (fun _ => ?_)
  refine J_aload_n 8 0 dX6_heatFor_8 rfl rfl ?_
  refine J_iload_n 9 2 dX6_heatFor_9 rfl rfl ?_
  refine kb_RX6_206 (bs' := [wMo o rw fr kp tr ik tp tm mso bg en wd va gd rs mu rm ss msz msh mho mhn mhz kd nb tn tc bo ip, wMr G rw la ns sd to he sw nh ki te mi ar z, wMr G tr t_la t_ns t_sd t_to t_he t_sw t_nh t_ki t_te t_mi t_ar t_z]) (rest := []) (st' := [.int 1]) 10 (c_X6_isOne_t l G h o rw fr kp tr ik tp tm mso bg en wd va gd rs mu rm ss msz msh mho mhn mhz kd nb tn tc bo ip la ns sd to he sw nh ki te mi ar z (by assumption) (by omega)) [0, 1] 0 rfl rfl rfl [[o], [rw]] rfl rfl rfl rfl rfl rfl (Nat.le_of_ble_eq_true rfl) rfl dX6_heatFor_10 ?_
  refine J_if_ne (tgt := 18) 13 dX6_heatFor_13 (by decide) (fun _ => ?_) (fun c_7_ => absurd c_7_ (by decide))
  refine J_iload_n 18 1 dX6_heatFor_18 rfl rfl ?_
  refine J_aload_n 19 0 dX6_heatFor_19 rfl rfl ?_
  refine g_789 (v := .ref rw) 20 0 rfl rfl dX6_heatFor_20 ?_
  refine J_iconst (v := 4) 23 dX6_heatFor_23 rfl ?_
  refine J_iald 24 1 4 rfl rfl (by omega) (by decide) dX6_heatFor_24 ?_
  refine J_topi (y := nI sd) 25 (fR_sd rfl) ?_
  refine J_icmp_ge (tgt := 31) 25 dX6_heatFor_25 (by decide) (fun c_8_ => ?_) (fun c_8_ => ?_)
  · skip
    have c_8_ : sd ≤ i := (nI_leI (a := sd) (b := i) (by omega) (by omega)).mp c_8_
    refine J_aload_n 31 0 dX6_heatFor_31 rfl rfl ?_
    refine g_789 (v := .ref rw) 32 0 rfl rfl dX6_heatFor_32 ?_
    refine J_aload_n 35 0 dX6_heatFor_35 rfl rfl ?_
    refine g_792 (v := .ref tr) 36 0 rfl rfl dX6_heatFor_36 ?_
    refine kb_RX6_173 (bs' := [wMo o rw fr kp tr ik tp tm mso bg en wd va gd rs mu rm ss msz msh mho mhn mhz kd nb tn tc bo ip, wMr G rw la ns sd to he sw nh ki te mi ar z, wMr G tr la ns sd to he sw nh ki te mi ar z]) (rest := []) (st' := []) 39 (c_X6_moveAll_r l G rw la ns sd to he sw nh ki te mi ar z tr t_la t_ns t_sd t_to t_he t_sw t_nh t_ki t_te t_mi t_ar t_z ) [1, 2] rfl rfl [[rw], [tr]] rfl rfl rfl rfl rfl rfl (Nat.le_of_ble_eq_true rfl) rfl dX6_heatFor_39 ?_
    refine J_iconst (v := (-1)) 42 dX6_heatFor_42 rfl ?_
    refine J_topi (y := nI 0 - 1) 43 rfl ?_
    refine J_istore_n (lv' := [some (.ref o), some (.int (nI i)), some (.int (nI h)), some (.int (nI 0 - 1)), none]) 43 3 dX6_heatFor_43 rfl (by decide) rfl ?_
    refine J_iconst (v := 0) 44 dX6_heatFor_44 rfl ?_
    refine J_istore (lv' := [some (.ref o), some (.int (nI i)), some (.int (nI h)), some (.int (nI 0 - 1)), some (.int 0)]) 45 dX6_heatFor_45 (by decide) rfl ?_
    exact cut_47_ ((10 - 0) + 1) 0 0 (Nat.lt_succ_self _) (by first | assumption | omega | rfl) (by first | exact Or.inl ⟨rfl, rfl⟩ | exact Or.inr ⟨rfl, (hf_.trans (fFst_t hj10_ (by show hasP _ _; rw [← far12 hh hns]; assumption))).trans (nI_pred j).symm⟩ | exact Or.inl ⟨rfl, hf_.trans (fFst_f hj10_ (fun z_ => absurd (show hasP _ _ from (far12 hh hns).symm ▸ z_) (by assumption)))⟩)
  · skip
    have c_8_ : ¬ sd ≤ i := fun z_ => c_8_ ((nI_leI (a := sd) (b := i) (by omega) (by omega)).mpr z_)
    omega
set_option maxRecDepth 100000 in
set_option maxHeartbeats 4000000 in
theorem c_X6_bestOf_0 (l : Launch) (G : Gd) (h : Nat) (o : Nat) (rw : Nat) (fr : Nat) (kp : Nat) (tr : Nat) (ik : Int32) (tp : Nat) (tm : Nat) (mso : Int32) (bg : Nat) (en : Nat) (wd : Int64) (va : Int32) (gd : Int32) (rs : Nat) (mu : Nat) (rm : Nat) (ss : Nat) (msz : Nat) (msh : Nat) (mho : Nat) (mhn : Nat) (mhz : Nat) (kd : Int32) (nb : Int32) (tn : Int32) (tc : Nat) (bo : Nat) (ip : Int32) (la : Nat → Int32) (ns : Nat) (sd : Nat) (to : Nat → Int32) (he : Nat → Int32) (sw : Nat → Int32) (nh : Nat) (ki : Nat → Int32) (te : Nat → Int32) (mi : Nat → Int32) (ar : Nat → Int32) (z : Int32) (t_la : Nat → Int32) (t_ns : Nat) (t_sd : Nat) (t_to : Nat → Int32) (t_he : Nat → Int32) (t_sw : Nat → Int32) (t_nh : Nat) (t_ki : Nat → Int32) (t_te : Nat → Int32) (t_mi : Nat → Int32) (t_ar : Nat → Int32) (t_z : Int32) (hh : h < nh) (hnh : nh ≤ 8) (hns : ns ≤ 12) (hsd : sd ≤ ns) (hb : ∀ s_, s_ < ns → (sw s_ = 0 ∨ sw s_ = 1)) (ha : loB sd (ar h)) : CtP l G yX6_bestOf cX6_bestOf 8 (some (FieldType.int)) 5 [.ref o, .int (nI h), .int 0, .int 5] (wF [wMo o rw fr kp tr ik tp tm mso bg en wd va gd rs mu rm ss msz msh mho mhn mhz kd nb tn tc bo ip, wMr G rw la ns sd to he sw nh ki te mi ar z, wMr G tr t_la t_ns t_sd t_to t_he t_sw t_nh t_ki t_te t_mi t_ar t_z]) (some (.int ((fBest 0 0 (fun j_ => mRt la (upd ki h (nI j_)) mi te ar to he sw ns sd h) 6).1))) (fun w_ => ∃ (j_2_la : Nat → Int32) (j_2_ns : Nat) (j_2_sd : Nat) (j_2_to : Nat → Int32) (j_2_he : Nat → Int32) (j_2_sw : Nat → Int32) (j_2_nh : Nat) (j_2_ki : Nat → Int32) (j_2_te : Nat → Int32) (j_2_mi : Nat → Int32) (j_2_ar : Nat → Int32) (j_2_z : Int32), w_ = (wF [wMo o rw fr kp tr ik tp tm mso bg en wd va gd rs mu rm ss msz msh mho mhn mhz kd nb tn tc bo ip, wMr G rw la ns sd to he sw nh ki te mi ar z, wMr G tr j_2_la j_2_ns j_2_sd j_2_to j_2_he j_2_sw j_2_nh j_2_ki j_2_te j_2_mi j_2_ar j_2_z])) := by
  refine CtP.of "GooseArmsModel" [some (.ref o), some (.int (nI h)), some (.int 0), some (.int 5), none, none, none, none] (by decide +kernel) rfl (Nat.le_of_ble_eq_true rfl) rfl ?_
  have cut_20_ : ∀ (n_20_ : Nat) (j : Nat) (b : Int32) (mm : Int32), (6 - j < n_20_) → (hj : j ≤ 6) → (hb : fBest 0 0 (fun j_ => mRt la (upd ki h (nI j_)) mi te ar to he sw ns sd h) j = (b, mm)) → J l G (bdP G 5 (some (FieldType.int)) (some (.int ((fBest 0 0 (fun j_ => mRt la (upd ki h (nI j_)) mi te ar to he sw ns sd h) 6).1))) (fun w_ => ∃ (j_2_la : Nat → Int32) (j_2_ns : Nat) (j_2_sd : Nat) (j_2_to : Nat → Int32) (j_2_he : Nat → Int32) (j_2_sw : Nat → Int32) (j_2_nh : Nat) (j_2_ki : Nat → Int32) (j_2_te : Nat → Int32) (j_2_mi : Nat → Int32) (j_2_ar : Nat → Int32) (j_2_z : Int32), w_ = (wF [wMo o rw fr kp tr ik tp tm mso bg en wd va gd rs mu rm ss msz msh mho mhn mhz kd nb tn tc bo ip, wMr G rw la ns sd to he sw nh ki te mi ar z, wMr G tr j_2_la j_2_ns j_2_sd j_2_to j_2_he j_2_sw j_2_nh j_2_ki j_2_te j_2_mi j_2_ar j_2_z]))) cX6_bestOf 8 "GooseArmsModel" 20 [some (.ref o), some (.int (nI h)), some (.int 0), some (.int 5), some (.int b), some (.int mm), some (.int (nI j)), none] [] (wF [wMo o rw fr kp tr ik tp tm mso bg en wd va gd rs mu rm ss msz msh mho mhn mhz kd nb tn tc bo ip, wMr G rw la ns sd to he sw nh ki te mi ar z, wMr G tr la ns sd to he sw nh ki te mi ar z]) := by
    intro n_20_
    induction n_20_ with
    | zero => intro j b mm m_20_; exact absurd m_20_ (Nat.not_lt_zero _)
    | succ n_20_ ih_20_ =>
      intro j b mm m_20_ hj hb
      refine J_iload 20 dX6_bestOf_20 rfl ?_
      refine J_iload_n 22 3 dX6_bestOf_22 rfl rfl ?_
      refine J_icmp_gt (tgt := 79) 23 dX6_bestOf_23 (by decide) (fun c_1_ => ?_) (fun c_1_ => ?_)
      · skip
        have c_1_ : 5 < j := (nI_ltI (a := 5) (b := j) (by omega) (by omega)).mp c_1_
        refine J_iload 79 dX6_bestOf_79 rfl ?_
        exact J_iretP 81 dX6_bestOf_81 (congrArg (fun x_ => some (Value.int x_)) (by rw [← show j = 6 by omega, hb])) ⟨la, ns, sd, to, he, sw, nh, ki, te, mi, ar, z, rfl⟩
      · skip
        have c_1_ : ¬ 5 < j := fun z_ => c_1_ ((nI_ltI (a := 5) (b := j) (by omega) (by omega)).mpr z_)
        refine J_aload_n 26 0 dX6_bestOf_26 rfl rfl ?_
        refine J_iload_n 27 1 dX6_bestOf_27 rfl rfl ?_
        refine J_iload_n 28 2 dX6_bestOf_28 rfl rfl ?_
        refine J_iload 29 dX6_bestOf_29 rfl ?_
        refine kb_RX6_202 (bs' := [wMo o rw fr kp tr ik tp tm mso bg en wd va gd rs mu rm ss msz msh mho mhn mhz kd nb tn tc bo ip, wMr G rw la ns sd to he sw nh (upd ki h (nI j)) te mi ar z, wMr G tr la ns sd to he sw nh ki te mi ar z]) (rest := []) (st' := []) 31 (c_X6_sets_0 l G h (nI j) o rw fr kp tr ik tp tm mso bg en wd va gd rs mu rm ss msz msh mho mhn mhz kd nb tn tc bo ip la ns sd to he sw nh ki te mi ar z (by first | omega | assumption)) [0, 1] 0 rfl rfl rfl [[o], [rw]] rfl rfl rfl rfl rfl rfl (Nat.le_of_ble_eq_true rfl) rfl dX6_bestOf_31 ?_
        refine J_aload_n 34 0 dX6_bestOf_34 rfl rfl ?_
        refine J_iload_n 35 1 dX6_bestOf_35 rfl rfl ?_
        refine kb_RX6_253 (bs' := [wMo o rw fr kp tr ik tp tm mso bg en wd va gd rs mu rm ss msz msh mho mhn mhz kd nb tn tc bo ip, wMr G rw la ns sd to he sw nh ki te mi ar z, wMr G tr la ns sd to he sw nh ki te mi ar z]) (rest := []) (st' := [.int (mRt la (upd ki h (nI j)) mi te ar to he sw ns sd h)]) 36 (c_X6_rightOf l G h o rw fr kp tr ik tp tm mso bg en wd va gd rs mu rm ss msz msh mho mhn mhz kd nb tn tc bo ip la ns sd to he sw nh (upd ki h (nI j)) te mi ar z la sd to he sw nh ki te mi ar z (by first | omega | assumption) (by first | omega | assumption) (by first | omega | assumption) (by first | omega | assumption) (by first | omega | assumption) (by first | omega | assumption)) [0, 1, 2] 0 rfl rfl rfl [[o], [rw], [tr]] rfl rfl rfl rfl rfl rfl (Nat.le_of_ble_eq_true rfl) rfl dX6_bestOf_36 ?_
        refine J_istore (lv' := [some (.ref o), some (.int (nI h)), some (.int 0), some (.int 5), some (.int b), some (.int mm), some (.int (nI j)), some (.int (mRt la (upd ki h (nI j)) mi te ar to he sw ns sd h))]) 39 dX6_bestOf_39 (by decide) rfl ?_
        refine J_iload 41 dX6_bestOf_41 rfl ?_
        refine J_iload 43 dX6_bestOf_43 rfl ?_
        refine J_icmp_le (tgt := 53) 45 dX6_bestOf_45 (by decide) (fun c_2_ => ?_) (fun c_2_ => ?_)
        · skip
          refine J_iload 53 dX6_bestOf_53 rfl ?_
          refine J_istore (lv' := [some (.ref o), some (.int (nI h)), some (.int 0), some (.int 5), some (.int b), some (.int mm), some (.int (nI j)), some (.int (mRt la (upd ki h (nI j)) mi te ar to he sw ns sd h))]) 55 dX6_bestOf_55 (by decide) rfl ?_
          refine J_iload 57 dX6_bestOf_57 rfl ?_
          refine J_iload 59 dX6_bestOf_59 rfl ?_
          refine J_icmp_le (tgt := 69) 61 dX6_bestOf_61 (by decide) (fun c_3_ => ?_) (fun c_3_ => ?_)
          · skip
            refine J_iload 69 dX6_bestOf_69 rfl ?_
            refine J_istore (lv' := [some (.ref o), some (.int (nI h)), some (.int 0), some (.int 5), some (.int b), some (.int mm), some (.int (nI j)), some (.int (mRt la (upd ki h (nI j)) mi te ar to he sw ns sd h))]) 71 dX6_bestOf_71 (by decide) rfl ?_
            refine J_iinc (v := nI (j + 1)) (lv' := [some (.ref o), some (.int (nI h)), some (.int 0), some (.int 5), some (.int b), some (.int mm), some (.int (nI (j + 1))), some (.int (mRt la (upd ki h (nI j)) mi te ar to he sw ns sd h))]) 73 dX6_bestOf_73 rfl (nI_add _ 1) (by decide) rfl ?_
            refine J_goto (tgt := 20) 76 dX6_bestOf_76 (by decide) ?_
            refine J_mask (lv' := [some (.ref o), some (.int (nI h)), some (.int 0), some (.int 5), some (.int b), some (.int mm), some (.int (nI (j + 1))), none]) 20 [true, true, true, true, true, true, true, false] rfl ?_
            exact ih_20_ (j + 1) b mm (by omega) (by first | assumption | omega | rfl) (by first | contradiction | rfl | exact fBest_t hb (by rw [Nat.zero_add]) (by assumption) | exact fBest_f hb (by rw [Nat.zero_add]) (by assumption) | (rw [fBest_t hb (by rw [Nat.zero_add]) (by assumption), Nat.zero_add]))
          · skip
            refine J_iload 64 dX6_bestOf_64 rfl ?_
            refine J_goto (tgt := 71) 66 dX6_bestOf_66 (by decide) ?_
            refine J_istore (lv' := [some (.ref o), some (.int (nI h)), some (.int 0), some (.int 5), some (.int b), some (.int (mRt la (upd ki h (nI j)) mi te ar to he sw ns sd h)), some (.int (nI j)), some (.int (mRt la (upd ki h (nI j)) mi te ar to he sw ns sd h))]) 71 dX6_bestOf_71 (by decide) rfl ?_
            refine J_iinc (v := nI (j + 1)) (lv' := [some (.ref o), some (.int (nI h)), some (.int 0), some (.int 5), some (.int b), some (.int (mRt la (upd ki h (nI j)) mi te ar to he sw ns sd h)), some (.int (nI (j + 1))), some (.int (mRt la (upd ki h (nI j)) mi te ar to he sw ns sd h))]) 73 dX6_bestOf_73 rfl (nI_add _ 1) (by decide) rfl ?_
            refine J_goto (tgt := 20) 76 dX6_bestOf_76 (by decide) ?_
            refine J_mask (lv' := [some (.ref o), some (.int (nI h)), some (.int 0), some (.int 5), some (.int b), some (.int (mRt la (upd ki h (nI j)) mi te ar to he sw ns sd h)), some (.int (nI (j + 1))), none]) 20 [true, true, true, true, true, true, true, false] rfl ?_
            exact ih_20_ (j + 1) b (mRt la (upd ki h (nI j)) mi te ar to he sw ns sd h) (by omega) (by first | assumption | omega | rfl) (by first | contradiction | rfl | exact fBest_t hb (by rw [Nat.zero_add]) (by assumption) | exact fBest_f hb (by rw [Nat.zero_add]) (by assumption) | (rw [fBest_t hb (by rw [Nat.zero_add]) (by assumption), Nat.zero_add]))
        · skip
          refine J_iload 48 dX6_bestOf_48 rfl ?_
          refine J_goto (tgt := 55) 50 dX6_bestOf_50 (by decide) ?_
          refine J_istore (lv' := [some (.ref o), some (.int (nI h)), some (.int 0), some (.int 5), some (.int (nI j)), some (.int mm), some (.int (nI j)), some (.int (mRt la (upd ki h (nI j)) mi te ar to he sw ns sd h))]) 55 dX6_bestOf_55 (by decide) rfl ?_
          refine J_iload 57 dX6_bestOf_57 rfl ?_
          refine J_iload 59 dX6_bestOf_59 rfl ?_
          refine J_icmp_le (tgt := 69) 61 dX6_bestOf_61 (by decide) (fun c_4_ => ?_) (fun c_4_ => ?_)
          · skip
            refine J_iload 69 dX6_bestOf_69 rfl ?_
            refine J_istore (lv' := [some (.ref o), some (.int (nI h)), some (.int 0), some (.int 5), some (.int (nI j)), some (.int mm), some (.int (nI j)), some (.int (mRt la (upd ki h (nI j)) mi te ar to he sw ns sd h))]) 71 dX6_bestOf_71 (by decide) rfl ?_
            refine J_iinc (v := nI (j + 1)) (lv' := [some (.ref o), some (.int (nI h)), some (.int 0), some (.int 5), some (.int (nI j)), some (.int mm), some (.int (nI (j + 1))), some (.int (mRt la (upd ki h (nI j)) mi te ar to he sw ns sd h))]) 73 dX6_bestOf_73 rfl (nI_add _ 1) (by decide) rfl ?_
            refine J_goto (tgt := 20) 76 dX6_bestOf_76 (by decide) ?_
            refine J_mask (lv' := [some (.ref o), some (.int (nI h)), some (.int 0), some (.int 5), some (.int (nI j)), some (.int mm), some (.int (nI (j + 1))), none]) 20 [true, true, true, true, true, true, true, false] rfl ?_
            exact ih_20_ (j + 1) (nI j) mm (by omega) (by first | assumption | omega | rfl) (by first | contradiction | rfl | exact fBest_t hb (by rw [Nat.zero_add]) (by assumption) | exact fBest_f hb (by rw [Nat.zero_add]) (by assumption) | (rw [fBest_t hb (by rw [Nat.zero_add]) (by assumption), Nat.zero_add]))
          · skip
            refine J_iload 64 dX6_bestOf_64 rfl ?_
            refine J_goto (tgt := 71) 66 dX6_bestOf_66 (by decide) ?_
            refine J_istore (lv' := [some (.ref o), some (.int (nI h)), some (.int 0), some (.int 5), some (.int (nI j)), some (.int (mRt la (upd ki h (nI j)) mi te ar to he sw ns sd h)), some (.int (nI j)), some (.int (mRt la (upd ki h (nI j)) mi te ar to he sw ns sd h))]) 71 dX6_bestOf_71 (by decide) rfl ?_
            refine J_iinc (v := nI (j + 1)) (lv' := [some (.ref o), some (.int (nI h)), some (.int 0), some (.int 5), some (.int (nI j)), some (.int (mRt la (upd ki h (nI j)) mi te ar to he sw ns sd h)), some (.int (nI (j + 1))), some (.int (mRt la (upd ki h (nI j)) mi te ar to he sw ns sd h))]) 73 dX6_bestOf_73 rfl (nI_add _ 1) (by decide) rfl ?_
            refine J_goto (tgt := 20) 76 dX6_bestOf_76 (by decide) ?_
            refine J_mask (lv' := [some (.ref o), some (.int (nI h)), some (.int 0), some (.int 5), some (.int (nI j)), some (.int (mRt la (upd ki h (nI j)) mi te ar to he sw ns sd h)), some (.int (nI (j + 1))), none]) 20 [true, true, true, true, true, true, true, false] rfl ?_
            exact ih_20_ (j + 1) (nI j) (mRt la (upd ki h (nI j)) mi te ar to he sw ns sd h) (by omega) (by first | assumption | omega | rfl) (by first | contradiction | rfl | exact fBest_t hb (by rw [Nat.zero_add]) (by assumption) | exact fBest_f hb (by rw [Nat.zero_add]) (by assumption) | (rw [fBest_t hb (by rw [Nat.zero_add]) (by assumption), Nat.zero_add]))
  refine J_aload_n 0 0 dX6_bestOf_0 rfl rfl ?_
  refine g_789 (v := .ref rw) 1 0 rfl rfl dX6_bestOf_1 ?_
  refine J_aload_n 4 0 dX6_bestOf_4 rfl rfl ?_
  refine g_792 (v := .ref tr) 5 0 rfl rfl dX6_bestOf_5 ?_
  refine kb_RX6_173 (bs' := [wMo o rw fr kp tr ik tp tm mso bg en wd va gd rs mu rm ss msz msh mho mhn mhz kd nb tn tc bo ip, wMr G rw la ns sd to he sw nh ki te mi ar z, wMr G tr la ns sd to he sw nh ki te mi ar z]) (rest := []) (st' := []) 8 (c_X6_moveAll_r l G rw la ns sd to he sw nh ki te mi ar z tr t_la t_ns t_sd t_to t_he t_sw t_nh t_ki t_te t_mi t_ar t_z ) [1, 2] rfl rfl [[rw], [tr]] rfl rfl rfl rfl rfl rfl (Nat.le_of_ble_eq_true rfl) rfl dX6_bestOf_8 ?_
  refine J_iconst (v := 0) 11 dX6_bestOf_11 rfl ?_
  refine J_istore (lv' := [some (.ref o), some (.int (nI h)), some (.int 0), some (.int 5), some (.int 0), none, none, none]) 12 dX6_bestOf_12 (by decide) rfl ?_
  refine J_iconst (v := (-1)) 14 dX6_bestOf_14 rfl ?_
  refine J_istore (lv' := [some (.ref o), some (.int (nI h)), some (.int 0), some (.int 5), some (.int 0), some (.int (-1)), none, none]) 15 dX6_bestOf_15 (by decide) rfl ?_
  refine J_iconst (v := 0) 17 dX6_bestOf_17 rfl ?_
  refine J_istore (lv' := [some (.ref o), some (.int (nI h)), some (.int 0), some (.int 5), some (.int 0), some (.int (-1)), some (.int 0), none]) 18 dX6_bestOf_18 (by decide) rfl ?_
  exact cut_20_ ((6 - 0) + 1) 0 0 (-1) (Nat.lt_succ_self _) (by first | assumption | omega | rfl) (by first | contradiction | rfl | exact fBest_t hb (by rw [Nat.zero_add]) (by assumption) | exact fBest_f hb (by rw [Nat.zero_add]) (by assumption) | (rw [fBest_t hb (by rw [Nat.zero_add]) (by assumption), Nat.zero_add]))
set_option maxRecDepth 100000 in
set_option maxHeartbeats 4000000 in
theorem c_X6_kindFor_bad (l : Launch) (G : Gd) (h : Int32) (o : Nat) (rw : Nat) (fr : Nat) (kp : Nat) (tr : Nat) (ik : Int32) (tp : Nat) (tm : Nat) (mso : Int32) (bg : Nat) (en : Nat) (wd : Int64) (va : Int32) (gd : Int32) (rs : Nat) (mu : Nat) (rm : Nat) (ss : Nat) (msz : Nat) (msh : Nat) (mho : Nat) (mhn : Nat) (mhz : Nat) (kd : Int32) (nb : Int32) (tn : Int32) (tc : Nat) (bo : Nat) (ip : Int32) (la : Nat → Int32) (ns : Nat) (sd : Nat) (to : Nat → Int32) (he : Nat → Int32) (sw : Nat → Int32) (nh : Nat) (ki : Nat → Int32) (te : Nat → Int32) (mi : Nat → Int32) (ar : Nat → Int32) (z : Int32) (hw : ¬ (0 ≤ h ∧ h ≤ nI nh - 1)) : Ct l G yX6_kindFor cX6_kindFor 2 (some (FieldType.int)) 6 [.ref o, .int h] (wF [wMo o rw fr kp tr ik tp tm mso bg en wd va gd rs mu rm ss msz msh mho mhn mhz kd nb tn tc bo ip, wMr G rw la ns sd to he sw nh ki te mi ar z]) (some (.int (-1))) (wF [wMo o rw fr kp tr ik tp tm mso bg en wd va gd rs mu rm ss msz msh mho mhn mhz kd nb tn tc bo ip, wMr G rw la ns sd to he sw nh ki te mi ar z]) := by
  refine Ct.of "GooseArmsModel" [some (.ref o), some (.int h)] (by decide +kernel) rfl (Nat.le_of_ble_eq_true rfl) rfl ?_
  refine J_aload_n 0 0 dX6_kindFor_0 rfl rfl ?_
  refine J_iload_n 1 1 dX6_kindFor_1 rfl rfl ?_
  refine kb_RX6_206 (bs' := [wMo o rw fr kp tr ik tp tm mso bg en wd va gd rs mu rm ss msz msh mho mhn mhz kd nb tn tc bo ip, wMr G rw la ns sd to he sw nh ki te mi ar z]) (rest := []) (st' := [.int 0]) 2 (c_X6_isOne_f l G h o rw fr kp tr ik tp tm mso bg en wd va gd rs mu rm ss msz msh mho mhn mhz kd nb tn tc bo ip la ns sd to he sw nh ki te mi ar z (by first | omega | assumption)) [0, 1] 0 rfl rfl rfl [[o], [rw]] rfl rfl rfl rfl rfl rfl (Nat.le_of_ble_eq_true rfl) rfl dX6_kindFor_2 ?_
  refine J_if_eq (tgt := 18) 5 dX6_kindFor_5 (by decide) (fun _ => ?_) (fun c_1_ => absurd c_1_ (by decide))
  refine J_iconst (v := (-1)) 18 dX6_kindFor_18 rfl ?_
  exact J_iret 19 dX6_kindFor_19 rfl rfl
set_option maxRecDepth 100000 in
set_option maxHeartbeats 4000000 in
theorem c_X6_kindFor_ok (l : Launch) (G : Gd) (h : Nat) (o : Nat) (rw : Nat) (fr : Nat) (kp : Nat) (tr : Nat) (ik : Int32) (tp : Nat) (tm : Nat) (mso : Int32) (bg : Nat) (en : Nat) (wd : Int64) (va : Int32) (gd : Int32) (rs : Nat) (mu : Nat) (rm : Nat) (ss : Nat) (msz : Nat) (msh : Nat) (mho : Nat) (mhn : Nat) (mhz : Nat) (kd : Int32) (nb : Int32) (tn : Int32) (tc : Nat) (bo : Nat) (ip : Int32) (la : Nat → Int32) (ns : Nat) (sd : Nat) (to : Nat → Int32) (he : Nat → Int32) (sw : Nat → Int32) (nh : Nat) (ki : Nat → Int32) (te : Nat → Int32) (mi : Nat → Int32) (ar : Nat → Int32) (z : Int32) (t_la : Nat → Int32) (t_ns : Nat) (t_sd : Nat) (t_to : Nat → Int32) (t_he : Nat → Int32) (t_sw : Nat → Int32) (t_nh : Nat) (t_ki : Nat → Int32) (t_te : Nat → Int32) (t_mi : Nat → Int32) (t_ar : Nat → Int32) (t_z : Int32) (hh : h < nh) (hnh : nh ≤ 8) (hns : ns ≤ 12) (hsd : sd ≤ ns) (hb : ∀ s_, s_ < ns → (sw s_ = 0 ∨ sw s_ = 1)) (ha : loB sd (ar h)) : CtP l G yX6_kindFor cX6_kindFor 2 (some (FieldType.int)) 6 [.ref o, .int (nI h)] (wF [wMo o rw fr kp tr ik tp tm mso bg en wd va gd rs mu rm ss msz msh mho mhn mhz kd nb tn tc bo ip, wMr G rw la ns sd to he sw nh ki te mi ar z, wMr G tr t_la t_ns t_sd t_to t_he t_sw t_nh t_ki t_te t_mi t_ar t_z]) (some (.int ((fBest 0 0 (fun j_ => mRt la (upd ki h (nI j_)) mi te ar to he sw ns sd h) 6).1))) (fun w_ => ∃ (j_2_la : Nat → Int32) (j_2_ns : Nat) (j_2_sd : Nat) (j_2_to : Nat → Int32) (j_2_he : Nat → Int32) (j_2_sw : Nat → Int32) (j_2_nh : Nat) (j_2_ki : Nat → Int32) (j_2_te : Nat → Int32) (j_2_mi : Nat → Int32) (j_2_ar : Nat → Int32) (j_2_z : Int32), w_ = (wF [wMo o rw fr kp tr ik tp tm mso bg en wd va gd rs mu rm ss msz msh mho mhn mhz kd nb tn tc bo ip, wMr G rw la ns sd to he sw nh ki te mi ar z, wMr G tr j_2_la j_2_ns j_2_sd j_2_to j_2_he j_2_sw j_2_nh j_2_ki j_2_te j_2_mi j_2_ar j_2_z])) := by
  refine CtP.of "GooseArmsModel" [some (.ref o), some (.int (nI h))] (by decide +kernel) rfl (Nat.le_of_ble_eq_true rfl) rfl ?_
  refine J_aload_n 0 0 dX6_kindFor_0 rfl rfl ?_
  refine J_iload_n 1 1 dX6_kindFor_1 rfl rfl ?_
  refine kb_RX6_206 (bs' := [wMo o rw fr kp tr ik tp tm mso bg en wd va gd rs mu rm ss msz msh mho mhn mhz kd nb tn tc bo ip, wMr G rw la ns sd to he sw nh ki te mi ar z, wMr G tr t_la t_ns t_sd t_to t_he t_sw t_nh t_ki t_te t_mi t_ar t_z]) (rest := []) (st' := [.int 1]) 2 (c_X6_isOne_t l G h o rw fr kp tr ik tp tm mso bg en wd va gd rs mu rm ss msz msh mho mhn mhz kd nb tn tc bo ip la ns sd to he sw nh ki te mi ar z (by assumption) (by omega)) [0, 1] 0 rfl rfl rfl [[o], [rw]] rfl rfl rfl rfl rfl rfl (Nat.le_of_ble_eq_true rfl) rfl dX6_kindFor_2 ?_
  refine J_if_eq (tgt := 18) 5 dX6_kindFor_5 (by decide) (fun c_1_ => absurd c_1_ (by decide)) (fun _ => ?_)
  refine J_aload_n 8 0 dX6_kindFor_8 rfl rfl ?_
  refine J_iload_n 9 1 dX6_kindFor_9 rfl rfl ?_
  refine J_iconst (v := 0) 10 dX6_kindFor_10 rfl ?_
  refine J_iconst (v := 5) 11 dX6_kindFor_11 rfl ?_
  refine J_bVP (rest := []) (st' := [.int ((fBest 0 0 (fun j_ => mRt la (upd ki h (nI j_)) mi te ar to he sw ns sd h) 6).1)]) 12 (c_X6_bestOf_0 l G h o rw fr kp tr ik tp tm mso bg en wd va gd rs mu rm ss msz msh mho mhn mhz kd nb tn tc bo ip la ns sd to he sw nh ki te mi ar z t_la t_ns t_sd t_to t_he t_sw t_nh t_ki t_te t_mi t_ar t_z (by first | omega | assumption) (by first | omega | assumption) (by first | omega | assumption) (by first | omega | assumption) (by first | omega | assumption) (by first | omega | assumption)) w_1145 w_1147 v_53 w_7 w_1148 ok_X6_bestOf [0, 1, 2] 0 6 rfl rfl rfl rfl [[o], [rw], [tr]] rfl (fun w1s_ => ∃ (x_12_2_la : Nat → Int32) (x_12_2_ns : Nat) (x_12_2_sd : Nat) (x_12_2_to : Nat → Int32) (x_12_2_he : Nat → Int32) (x_12_2_sw : Nat → Int32) (x_12_2_nh : Nat) (x_12_2_ki : Nat → Int32) (x_12_2_te : Nat → Int32) (x_12_2_mi : Nat → Int32) (x_12_2_ar : Nat → Int32) (x_12_2_z : Int32), w1s_ = [wMo o rw fr kp tr ik tp tm mso bg en wd va gd rs mu rm ss msz msh mho mhn mhz kd nb tn tc bo ip, wMr G rw la ns sd to he sw nh ki te mi ar z, wMr G tr x_12_2_la x_12_2_ns x_12_2_sd x_12_2_to x_12_2_he x_12_2_sw x_12_2_nh x_12_2_ki x_12_2_te x_12_2_mi x_12_2_ar x_12_2_z]) (by rintro _ ⟨x_12_2_la, x_12_2_ns, x_12_2_sd, x_12_2_to, x_12_2_he, x_12_2_sw, x_12_2_nh, x_12_2_ki, x_12_2_te, x_12_2_mi, x_12_2_ar, x_12_2_z, rfl⟩; exact ⟨_, rfl, ⟨x_12_2_la, x_12_2_ns, x_12_2_sd, x_12_2_to, x_12_2_he, x_12_2_sw, x_12_2_nh, x_12_2_ki, x_12_2_te, x_12_2_mi, x_12_2_ar, x_12_2_z, rfl⟩, rfl⟩) rfl rfl rfl (Nat.le_of_ble_eq_true rfl) rfl dX6_kindFor_12 (fun w1_ hw1_ => ?_)
  obtain ⟨x_12_2_la, x_12_2_ns, x_12_2_sd, x_12_2_to, x_12_2_he, x_12_2_sw, x_12_2_nh, x_12_2_ki, x_12_2_te, x_12_2_mi, x_12_2_ar, x_12_2_z, rfl⟩ := hw1_
  refine J_ws (ws' := (wF [wMo o rw fr kp tr ik tp tm mso bg en wd va gd rs mu rm ss msz msh mho mhn mhz kd nb tn tc bo ip, wMr G rw la ns sd to he sw nh ki te mi ar z, wMr G tr x_12_2_la x_12_2_ns x_12_2_sd x_12_2_to x_12_2_he x_12_2_sw x_12_2_nh x_12_2_ki x_12_2_te x_12_2_mi x_12_2_ar x_12_2_z])) 15 rfl ?_
  refine J_goto (tgt := 19) 15 dX6_kindFor_15 (by decide) ?_
  exact J_iretP 19 dX6_kindFor_19 rfl ⟨x_12_2_la, x_12_2_ns, x_12_2_sd, x_12_2_to, x_12_2_he, x_12_2_sw, x_12_2_nh, x_12_2_ki, x_12_2_te, x_12_2_mi, x_12_2_ar, x_12_2_z, rfl⟩
set_option maxRecDepth 100000 in
set_option maxHeartbeats 4000000 in
theorem c_X6_bestOf_1 (l : Launch) (G : Gd) (h : Nat) (o : Nat) (rw : Nat) (fr : Nat) (kp : Nat) (tr : Nat) (ik : Int32) (tp : Nat) (tm : Nat) (mso : Int32) (bg : Nat) (en : Nat) (wd : Int64) (va : Int32) (gd : Int32) (rs : Nat) (mu : Nat) (rm : Nat) (ss : Nat) (msz : Nat) (msh : Nat) (mho : Nat) (mhn : Nat) (mhz : Nat) (kd : Int32) (nb : Int32) (tn : Int32) (tc : Nat) (bo : Nat) (ip : Int32) (la : Nat → Int32) (ns : Nat) (sd : Nat) (to : Nat → Int32) (he : Nat → Int32) (sw : Nat → Int32) (nh : Nat) (ki : Nat → Int32) (te : Nat → Int32) (mi : Nat → Int32) (ar : Nat → Int32) (z : Int32) (t_la : Nat → Int32) (t_ns : Nat) (t_sd : Nat) (t_to : Nat → Int32) (t_he : Nat → Int32) (t_sw : Nat → Int32) (t_nh : Nat) (t_ki : Nat → Int32) (t_te : Nat → Int32) (t_mi : Nat → Int32) (t_ar : Nat → Int32) (t_z : Int32) (hh : h < nh) (hnh : nh ≤ 8) (hns : ns ≤ 12) (hsd : sd ≤ ns) (hb : ∀ s_, s_ < ns → (sw s_ = 0 ∨ sw s_ = 1)) (ha : loB sd (ar h)) : CtP l G yX6_bestOf cX6_bestOf 8 (some (FieldType.int)) 5 [.ref o, .int (nI h), .int 1, .int 99] (wF [wMo o rw fr kp tr ik tp tm mso bg en wd va gd rs mu rm ss msz msh mho mhn mhz kd nb tn tc bo ip, wMr G rw la ns sd to he sw nh ki te mi ar z, wMr G tr t_la t_ns t_sd t_to t_he t_sw t_nh t_ki t_te t_mi t_ar t_z]) (some (.int ((fBest 0 0 (fun j_ => mRt la ki mi (upd te h (nI j_)) ar to he sw ns sd h) 100).1))) (fun w_ => ∃ (j_2_la : Nat → Int32) (j_2_ns : Nat) (j_2_sd : Nat) (j_2_to : Nat → Int32) (j_2_he : Nat → Int32) (j_2_sw : Nat → Int32) (j_2_nh : Nat) (j_2_ki : Nat → Int32) (j_2_te : Nat → Int32) (j_2_mi : Nat → Int32) (j_2_ar : Nat → Int32) (j_2_z : Int32), w_ = (wF [wMo o rw fr kp tr ik tp tm mso bg en wd va gd rs mu rm ss msz msh mho mhn mhz kd nb tn tc bo ip, wMr G rw la ns sd to he sw nh ki te mi ar z, wMr G tr j_2_la j_2_ns j_2_sd j_2_to j_2_he j_2_sw j_2_nh j_2_ki j_2_te j_2_mi j_2_ar j_2_z])) := by
  refine CtP.of "GooseArmsModel" [some (.ref o), some (.int (nI h)), some (.int 1), some (.int 99), none, none, none, none] (by decide +kernel) rfl (Nat.le_of_ble_eq_true rfl) rfl ?_
  have cut_20_ : ∀ (n_20_ : Nat) (j : Nat) (b : Int32) (mm : Int32), (100 - j < n_20_) → (hj : j ≤ 100) → (hb : fBest 0 0 (fun j_ => mRt la ki mi (upd te h (nI j_)) ar to he sw ns sd h) j = (b, mm)) → J l G (bdP G 5 (some (FieldType.int)) (some (.int ((fBest 0 0 (fun j_ => mRt la ki mi (upd te h (nI j_)) ar to he sw ns sd h) 100).1))) (fun w_ => ∃ (j_2_la : Nat → Int32) (j_2_ns : Nat) (j_2_sd : Nat) (j_2_to : Nat → Int32) (j_2_he : Nat → Int32) (j_2_sw : Nat → Int32) (j_2_nh : Nat) (j_2_ki : Nat → Int32) (j_2_te : Nat → Int32) (j_2_mi : Nat → Int32) (j_2_ar : Nat → Int32) (j_2_z : Int32), w_ = (wF [wMo o rw fr kp tr ik tp tm mso bg en wd va gd rs mu rm ss msz msh mho mhn mhz kd nb tn tc bo ip, wMr G rw la ns sd to he sw nh ki te mi ar z, wMr G tr j_2_la j_2_ns j_2_sd j_2_to j_2_he j_2_sw j_2_nh j_2_ki j_2_te j_2_mi j_2_ar j_2_z]))) cX6_bestOf 8 "GooseArmsModel" 20 [some (.ref o), some (.int (nI h)), some (.int 1), some (.int 99), some (.int b), some (.int mm), some (.int (nI j)), none] [] (wF [wMo o rw fr kp tr ik tp tm mso bg en wd va gd rs mu rm ss msz msh mho mhn mhz kd nb tn tc bo ip, wMr G rw la ns sd to he sw nh ki te mi ar z, wMr G tr la ns sd to he sw nh ki te mi ar z]) := by
    intro n_20_
    induction n_20_ with
    | zero => intro j b mm m_20_; exact absurd m_20_ (Nat.not_lt_zero _)
    | succ n_20_ ih_20_ =>
      intro j b mm m_20_ hj hb
      refine J_iload 20 dX6_bestOf_20 rfl ?_
      refine J_iload_n 22 3 dX6_bestOf_22 rfl rfl ?_
      refine J_icmp_gt (tgt := 79) 23 dX6_bestOf_23 (by decide) (fun c_1_ => ?_) (fun c_1_ => ?_)
      · skip
        have c_1_ : 99 < j := (nI_ltI (a := 99) (b := j) (by omega) (by omega)).mp c_1_
        refine J_iload 79 dX6_bestOf_79 rfl ?_
        exact J_iretP 81 dX6_bestOf_81 (congrArg (fun x_ => some (Value.int x_)) (by rw [← show j = 100 by omega, hb])) ⟨la, ns, sd, to, he, sw, nh, ki, te, mi, ar, z, rfl⟩
      · skip
        have c_1_ : ¬ 99 < j := fun z_ => c_1_ ((nI_ltI (a := 99) (b := j) (by omega) (by omega)).mpr z_)
        refine J_aload_n 26 0 dX6_bestOf_26 rfl rfl ?_
        refine J_iload_n 27 1 dX6_bestOf_27 rfl rfl ?_
        refine J_iload_n 28 2 dX6_bestOf_28 rfl rfl ?_
        refine J_iload 29 dX6_bestOf_29 rfl ?_
        refine kb_RX6_202 (bs' := [wMo o rw fr kp tr ik tp tm mso bg en wd va gd rs mu rm ss msz msh mho mhn mhz kd nb tn tc bo ip, wMr G rw la ns sd to he sw nh ki (upd te h (nI j)) mi ar z, wMr G tr la ns sd to he sw nh ki te mi ar z]) (rest := []) (st' := []) 31 (c_X6_sets_1 l G h (nI j) o rw fr kp tr ik tp tm mso bg en wd va gd rs mu rm ss msz msh mho mhn mhz kd nb tn tc bo ip la ns sd to he sw nh ki te mi ar z (by first | omega | assumption)) [0, 1] 0 rfl rfl rfl [[o], [rw]] rfl rfl rfl rfl rfl rfl (Nat.le_of_ble_eq_true rfl) rfl dX6_bestOf_31 ?_
        refine J_aload_n 34 0 dX6_bestOf_34 rfl rfl ?_
        refine J_iload_n 35 1 dX6_bestOf_35 rfl rfl ?_
        refine kb_RX6_253 (bs' := [wMo o rw fr kp tr ik tp tm mso bg en wd va gd rs mu rm ss msz msh mho mhn mhz kd nb tn tc bo ip, wMr G rw la ns sd to he sw nh ki te mi ar z, wMr G tr la ns sd to he sw nh ki te mi ar z]) (rest := []) (st' := [.int (mRt la ki mi (upd te h (nI j)) ar to he sw ns sd h)]) 36 (c_X6_rightOf l G h o rw fr kp tr ik tp tm mso bg en wd va gd rs mu rm ss msz msh mho mhn mhz kd nb tn tc bo ip la ns sd to he sw nh ki (upd te h (nI j)) mi ar z la sd to he sw nh ki te mi ar z (by first | omega | assumption) (by first | omega | assumption) (by first | omega | assumption) (by first | omega | assumption) (by first | omega | assumption) (by first | omega | assumption)) [0, 1, 2] 0 rfl rfl rfl [[o], [rw], [tr]] rfl rfl rfl rfl rfl rfl (Nat.le_of_ble_eq_true rfl) rfl dX6_bestOf_36 ?_
        refine J_istore (lv' := [some (.ref o), some (.int (nI h)), some (.int 1), some (.int 99), some (.int b), some (.int mm), some (.int (nI j)), some (.int (mRt la ki mi (upd te h (nI j)) ar to he sw ns sd h))]) 39 dX6_bestOf_39 (by decide) rfl ?_
        refine J_iload 41 dX6_bestOf_41 rfl ?_
        refine J_iload 43 dX6_bestOf_43 rfl ?_
        refine J_icmp_le (tgt := 53) 45 dX6_bestOf_45 (by decide) (fun c_2_ => ?_) (fun c_2_ => ?_)
        · skip
          refine J_iload 53 dX6_bestOf_53 rfl ?_
          refine J_istore (lv' := [some (.ref o), some (.int (nI h)), some (.int 1), some (.int 99), some (.int b), some (.int mm), some (.int (nI j)), some (.int (mRt la ki mi (upd te h (nI j)) ar to he sw ns sd h))]) 55 dX6_bestOf_55 (by decide) rfl ?_
          refine J_iload 57 dX6_bestOf_57 rfl ?_
          refine J_iload 59 dX6_bestOf_59 rfl ?_
          refine J_icmp_le (tgt := 69) 61 dX6_bestOf_61 (by decide) (fun c_3_ => ?_) (fun c_3_ => ?_)
          · skip
            refine J_iload 69 dX6_bestOf_69 rfl ?_
            refine J_istore (lv' := [some (.ref o), some (.int (nI h)), some (.int 1), some (.int 99), some (.int b), some (.int mm), some (.int (nI j)), some (.int (mRt la ki mi (upd te h (nI j)) ar to he sw ns sd h))]) 71 dX6_bestOf_71 (by decide) rfl ?_
            refine J_iinc (v := nI (j + 1)) (lv' := [some (.ref o), some (.int (nI h)), some (.int 1), some (.int 99), some (.int b), some (.int mm), some (.int (nI (j + 1))), some (.int (mRt la ki mi (upd te h (nI j)) ar to he sw ns sd h))]) 73 dX6_bestOf_73 rfl (nI_add _ 1) (by decide) rfl ?_
            refine J_goto (tgt := 20) 76 dX6_bestOf_76 (by decide) ?_
            refine J_mask (lv' := [some (.ref o), some (.int (nI h)), some (.int 1), some (.int 99), some (.int b), some (.int mm), some (.int (nI (j + 1))), none]) 20 [true, true, true, true, true, true, true, false] rfl ?_
            exact ih_20_ (j + 1) b mm (by omega) (by first | assumption | omega | rfl) (by first | contradiction | rfl | exact fBest_t hb (by rw [Nat.zero_add]) (by assumption) | exact fBest_f hb (by rw [Nat.zero_add]) (by assumption) | (rw [fBest_t hb (by rw [Nat.zero_add]) (by assumption), Nat.zero_add]))
          · skip
            refine J_iload 64 dX6_bestOf_64 rfl ?_
            refine J_goto (tgt := 71) 66 dX6_bestOf_66 (by decide) ?_
            refine J_istore (lv' := [some (.ref o), some (.int (nI h)), some (.int 1), some (.int 99), some (.int b), some (.int (mRt la ki mi (upd te h (nI j)) ar to he sw ns sd h)), some (.int (nI j)), some (.int (mRt la ki mi (upd te h (nI j)) ar to he sw ns sd h))]) 71 dX6_bestOf_71 (by decide) rfl ?_
            refine J_iinc (v := nI (j + 1)) (lv' := [some (.ref o), some (.int (nI h)), some (.int 1), some (.int 99), some (.int b), some (.int (mRt la ki mi (upd te h (nI j)) ar to he sw ns sd h)), some (.int (nI (j + 1))), some (.int (mRt la ki mi (upd te h (nI j)) ar to he sw ns sd h))]) 73 dX6_bestOf_73 rfl (nI_add _ 1) (by decide) rfl ?_
            refine J_goto (tgt := 20) 76 dX6_bestOf_76 (by decide) ?_
            refine J_mask (lv' := [some (.ref o), some (.int (nI h)), some (.int 1), some (.int 99), some (.int b), some (.int (mRt la ki mi (upd te h (nI j)) ar to he sw ns sd h)), some (.int (nI (j + 1))), none]) 20 [true, true, true, true, true, true, true, false] rfl ?_
            exact ih_20_ (j + 1) b (mRt la ki mi (upd te h (nI j)) ar to he sw ns sd h) (by omega) (by first | assumption | omega | rfl) (by first | contradiction | rfl | exact fBest_t hb (by rw [Nat.zero_add]) (by assumption) | exact fBest_f hb (by rw [Nat.zero_add]) (by assumption) | (rw [fBest_t hb (by rw [Nat.zero_add]) (by assumption), Nat.zero_add]))
        · skip
          refine J_iload 48 dX6_bestOf_48 rfl ?_
          refine J_goto (tgt := 55) 50 dX6_bestOf_50 (by decide) ?_
          refine J_istore (lv' := [some (.ref o), some (.int (nI h)), some (.int 1), some (.int 99), some (.int (nI j)), some (.int mm), some (.int (nI j)), some (.int (mRt la ki mi (upd te h (nI j)) ar to he sw ns sd h))]) 55 dX6_bestOf_55 (by decide) rfl ?_
          refine J_iload 57 dX6_bestOf_57 rfl ?_
          refine J_iload 59 dX6_bestOf_59 rfl ?_
          refine J_icmp_le (tgt := 69) 61 dX6_bestOf_61 (by decide) (fun c_4_ => ?_) (fun c_4_ => ?_)
          · skip
            refine J_iload 69 dX6_bestOf_69 rfl ?_
            refine J_istore (lv' := [some (.ref o), some (.int (nI h)), some (.int 1), some (.int 99), some (.int (nI j)), some (.int mm), some (.int (nI j)), some (.int (mRt la ki mi (upd te h (nI j)) ar to he sw ns sd h))]) 71 dX6_bestOf_71 (by decide) rfl ?_
            refine J_iinc (v := nI (j + 1)) (lv' := [some (.ref o), some (.int (nI h)), some (.int 1), some (.int 99), some (.int (nI j)), some (.int mm), some (.int (nI (j + 1))), some (.int (mRt la ki mi (upd te h (nI j)) ar to he sw ns sd h))]) 73 dX6_bestOf_73 rfl (nI_add _ 1) (by decide) rfl ?_
            refine J_goto (tgt := 20) 76 dX6_bestOf_76 (by decide) ?_
            refine J_mask (lv' := [some (.ref o), some (.int (nI h)), some (.int 1), some (.int 99), some (.int (nI j)), some (.int mm), some (.int (nI (j + 1))), none]) 20 [true, true, true, true, true, true, true, false] rfl ?_
            exact ih_20_ (j + 1) (nI j) mm (by omega) (by first | assumption | omega | rfl) (by first | contradiction | rfl | exact fBest_t hb (by rw [Nat.zero_add]) (by assumption) | exact fBest_f hb (by rw [Nat.zero_add]) (by assumption) | (rw [fBest_t hb (by rw [Nat.zero_add]) (by assumption), Nat.zero_add]))
          · skip
            refine J_iload 64 dX6_bestOf_64 rfl ?_
            refine J_goto (tgt := 71) 66 dX6_bestOf_66 (by decide) ?_
            refine J_istore (lv' := [some (.ref o), some (.int (nI h)), some (.int 1), some (.int 99), some (.int (nI j)), some (.int (mRt la ki mi (upd te h (nI j)) ar to he sw ns sd h)), some (.int (nI j)), some (.int (mRt la ki mi (upd te h (nI j)) ar to he sw ns sd h))]) 71 dX6_bestOf_71 (by decide) rfl ?_
            refine J_iinc (v := nI (j + 1)) (lv' := [some (.ref o), some (.int (nI h)), some (.int 1), some (.int 99), some (.int (nI j)), some (.int (mRt la ki mi (upd te h (nI j)) ar to he sw ns sd h)), some (.int (nI (j + 1))), some (.int (mRt la ki mi (upd te h (nI j)) ar to he sw ns sd h))]) 73 dX6_bestOf_73 rfl (nI_add _ 1) (by decide) rfl ?_
            refine J_goto (tgt := 20) 76 dX6_bestOf_76 (by decide) ?_
            refine J_mask (lv' := [some (.ref o), some (.int (nI h)), some (.int 1), some (.int 99), some (.int (nI j)), some (.int (mRt la ki mi (upd te h (nI j)) ar to he sw ns sd h)), some (.int (nI (j + 1))), none]) 20 [true, true, true, true, true, true, true, false] rfl ?_
            exact ih_20_ (j + 1) (nI j) (mRt la ki mi (upd te h (nI j)) ar to he sw ns sd h) (by omega) (by first | assumption | omega | rfl) (by first | contradiction | rfl | exact fBest_t hb (by rw [Nat.zero_add]) (by assumption) | exact fBest_f hb (by rw [Nat.zero_add]) (by assumption) | (rw [fBest_t hb (by rw [Nat.zero_add]) (by assumption), Nat.zero_add]))
  refine J_aload_n 0 0 dX6_bestOf_0 rfl rfl ?_
  refine g_789 (v := .ref rw) 1 0 rfl rfl dX6_bestOf_1 ?_
  refine J_aload_n 4 0 dX6_bestOf_4 rfl rfl ?_
  refine g_792 (v := .ref tr) 5 0 rfl rfl dX6_bestOf_5 ?_
  refine kb_RX6_173 (bs' := [wMo o rw fr kp tr ik tp tm mso bg en wd va gd rs mu rm ss msz msh mho mhn mhz kd nb tn tc bo ip, wMr G rw la ns sd to he sw nh ki te mi ar z, wMr G tr la ns sd to he sw nh ki te mi ar z]) (rest := []) (st' := []) 8 (c_X6_moveAll_r l G rw la ns sd to he sw nh ki te mi ar z tr t_la t_ns t_sd t_to t_he t_sw t_nh t_ki t_te t_mi t_ar t_z ) [1, 2] rfl rfl [[rw], [tr]] rfl rfl rfl rfl rfl rfl (Nat.le_of_ble_eq_true rfl) rfl dX6_bestOf_8 ?_
  refine J_iconst (v := 0) 11 dX6_bestOf_11 rfl ?_
  refine J_istore (lv' := [some (.ref o), some (.int (nI h)), some (.int 1), some (.int 99), some (.int 0), none, none, none]) 12 dX6_bestOf_12 (by decide) rfl ?_
  refine J_iconst (v := (-1)) 14 dX6_bestOf_14 rfl ?_
  refine J_istore (lv' := [some (.ref o), some (.int (nI h)), some (.int 1), some (.int 99), some (.int 0), some (.int (-1)), none, none]) 15 dX6_bestOf_15 (by decide) rfl ?_
  refine J_iconst (v := 0) 17 dX6_bestOf_17 rfl ?_
  refine J_istore (lv' := [some (.ref o), some (.int (nI h)), some (.int 1), some (.int 99), some (.int 0), some (.int (-1)), some (.int 0), none]) 18 dX6_bestOf_18 (by decide) rfl ?_
  exact cut_20_ ((100 - 0) + 1) 0 0 (-1) (Nat.lt_succ_self _) (by first | assumption | omega | rfl) (by first | contradiction | rfl | exact fBest_t hb (by rw [Nat.zero_add]) (by assumption) | exact fBest_f hb (by rw [Nat.zero_add]) (by assumption) | (rw [fBest_t hb (by rw [Nat.zero_add]) (by assumption), Nat.zero_add]))
set_option maxRecDepth 100000 in
set_option maxHeartbeats 4000000 in
theorem c_X6_tenderFor_bad (l : Launch) (G : Gd) (h : Int32) (o : Nat) (rw : Nat) (fr : Nat) (kp : Nat) (tr : Nat) (ik : Int32) (tp : Nat) (tm : Nat) (mso : Int32) (bg : Nat) (en : Nat) (wd : Int64) (va : Int32) (gd : Int32) (rs : Nat) (mu : Nat) (rm : Nat) (ss : Nat) (msz : Nat) (msh : Nat) (mho : Nat) (mhn : Nat) (mhz : Nat) (kd : Int32) (nb : Int32) (tn : Int32) (tc : Nat) (bo : Nat) (ip : Int32) (la : Nat → Int32) (ns : Nat) (sd : Nat) (to : Nat → Int32) (he : Nat → Int32) (sw : Nat → Int32) (nh : Nat) (ki : Nat → Int32) (te : Nat → Int32) (mi : Nat → Int32) (ar : Nat → Int32) (z : Int32) (hw : ¬ (0 ≤ h ∧ h ≤ nI nh - 1)) : Ct l G yX6_tenderFor cX6_tenderFor 2 (some (FieldType.int)) 6 [.ref o, .int h] (wF [wMo o rw fr kp tr ik tp tm mso bg en wd va gd rs mu rm ss msz msh mho mhn mhz kd nb tn tc bo ip, wMr G rw la ns sd to he sw nh ki te mi ar z]) (some (.int (-1))) (wF [wMo o rw fr kp tr ik tp tm mso bg en wd va gd rs mu rm ss msz msh mho mhn mhz kd nb tn tc bo ip, wMr G rw la ns sd to he sw nh ki te mi ar z]) := by
  refine Ct.of "GooseArmsModel" [some (.ref o), some (.int h)] (by decide +kernel) rfl (Nat.le_of_ble_eq_true rfl) rfl ?_
  refine J_aload_n 0 0 dX6_tenderFor_0 rfl rfl ?_
  refine J_iload_n 1 1 dX6_tenderFor_1 rfl rfl ?_
  refine kb_RX6_206 (bs' := [wMo o rw fr kp tr ik tp tm mso bg en wd va gd rs mu rm ss msz msh mho mhn mhz kd nb tn tc bo ip, wMr G rw la ns sd to he sw nh ki te mi ar z]) (rest := []) (st' := [.int 0]) 2 (c_X6_isOne_f l G h o rw fr kp tr ik tp tm mso bg en wd va gd rs mu rm ss msz msh mho mhn mhz kd nb tn tc bo ip la ns sd to he sw nh ki te mi ar z (by first | omega | assumption)) [0, 1] 0 rfl rfl rfl [[o], [rw]] rfl rfl rfl rfl rfl rfl (Nat.le_of_ble_eq_true rfl) rfl dX6_tenderFor_2 ?_
  refine J_if_eq (tgt := 19) 5 dX6_tenderFor_5 (by decide) (fun _ => ?_) (fun c_1_ => absurd c_1_ (by decide))
  refine J_iconst (v := (-1)) 19 dX6_tenderFor_19 rfl ?_
  exact J_iret 20 dX6_tenderFor_20 rfl rfl
set_option maxRecDepth 100000 in
set_option maxHeartbeats 4000000 in
theorem c_X6_tenderFor_ok (l : Launch) (G : Gd) (h : Nat) (o : Nat) (rw : Nat) (fr : Nat) (kp : Nat) (tr : Nat) (ik : Int32) (tp : Nat) (tm : Nat) (mso : Int32) (bg : Nat) (en : Nat) (wd : Int64) (va : Int32) (gd : Int32) (rs : Nat) (mu : Nat) (rm : Nat) (ss : Nat) (msz : Nat) (msh : Nat) (mho : Nat) (mhn : Nat) (mhz : Nat) (kd : Int32) (nb : Int32) (tn : Int32) (tc : Nat) (bo : Nat) (ip : Int32) (la : Nat → Int32) (ns : Nat) (sd : Nat) (to : Nat → Int32) (he : Nat → Int32) (sw : Nat → Int32) (nh : Nat) (ki : Nat → Int32) (te : Nat → Int32) (mi : Nat → Int32) (ar : Nat → Int32) (z : Int32) (t_la : Nat → Int32) (t_ns : Nat) (t_sd : Nat) (t_to : Nat → Int32) (t_he : Nat → Int32) (t_sw : Nat → Int32) (t_nh : Nat) (t_ki : Nat → Int32) (t_te : Nat → Int32) (t_mi : Nat → Int32) (t_ar : Nat → Int32) (t_z : Int32) (hh : h < nh) (hnh : nh ≤ 8) (hns : ns ≤ 12) (hsd : sd ≤ ns) (hb : ∀ s_, s_ < ns → (sw s_ = 0 ∨ sw s_ = 1)) (ha : loB sd (ar h)) : CtP l G yX6_tenderFor cX6_tenderFor 2 (some (FieldType.int)) 6 [.ref o, .int (nI h)] (wF [wMo o rw fr kp tr ik tp tm mso bg en wd va gd rs mu rm ss msz msh mho mhn mhz kd nb tn tc bo ip, wMr G rw la ns sd to he sw nh ki te mi ar z, wMr G tr t_la t_ns t_sd t_to t_he t_sw t_nh t_ki t_te t_mi t_ar t_z]) (some (.int ((fBest 0 0 (fun j_ => mRt la ki mi (upd te h (nI j_)) ar to he sw ns sd h) 100).1))) (fun w_ => ∃ (j_2_la : Nat → Int32) (j_2_ns : Nat) (j_2_sd : Nat) (j_2_to : Nat → Int32) (j_2_he : Nat → Int32) (j_2_sw : Nat → Int32) (j_2_nh : Nat) (j_2_ki : Nat → Int32) (j_2_te : Nat → Int32) (j_2_mi : Nat → Int32) (j_2_ar : Nat → Int32) (j_2_z : Int32), w_ = (wF [wMo o rw fr kp tr ik tp tm mso bg en wd va gd rs mu rm ss msz msh mho mhn mhz kd nb tn tc bo ip, wMr G rw la ns sd to he sw nh ki te mi ar z, wMr G tr j_2_la j_2_ns j_2_sd j_2_to j_2_he j_2_sw j_2_nh j_2_ki j_2_te j_2_mi j_2_ar j_2_z])) := by
  refine CtP.of "GooseArmsModel" [some (.ref o), some (.int (nI h))] (by decide +kernel) rfl (Nat.le_of_ble_eq_true rfl) rfl ?_
  refine J_aload_n 0 0 dX6_tenderFor_0 rfl rfl ?_
  refine J_iload_n 1 1 dX6_tenderFor_1 rfl rfl ?_
  refine kb_RX6_206 (bs' := [wMo o rw fr kp tr ik tp tm mso bg en wd va gd rs mu rm ss msz msh mho mhn mhz kd nb tn tc bo ip, wMr G rw la ns sd to he sw nh ki te mi ar z, wMr G tr t_la t_ns t_sd t_to t_he t_sw t_nh t_ki t_te t_mi t_ar t_z]) (rest := []) (st' := [.int 1]) 2 (c_X6_isOne_t l G h o rw fr kp tr ik tp tm mso bg en wd va gd rs mu rm ss msz msh mho mhn mhz kd nb tn tc bo ip la ns sd to he sw nh ki te mi ar z (by assumption) (by omega)) [0, 1] 0 rfl rfl rfl [[o], [rw]] rfl rfl rfl rfl rfl rfl (Nat.le_of_ble_eq_true rfl) rfl dX6_tenderFor_2 ?_
  refine J_if_eq (tgt := 19) 5 dX6_tenderFor_5 (by decide) (fun c_1_ => absurd c_1_ (by decide)) (fun _ => ?_)
  refine J_aload_n 8 0 dX6_tenderFor_8 rfl rfl ?_
  refine J_iload_n 9 1 dX6_tenderFor_9 rfl rfl ?_
  refine J_iconst (v := 1) 10 dX6_tenderFor_10 rfl ?_
  refine J_bipush (v := 99) 11 dX6_tenderFor_11 rfl ?_
  refine J_bVP (rest := []) (st' := [.int ((fBest 0 0 (fun j_ => mRt la ki mi (upd te h (nI j_)) ar to he sw ns sd h) 100).1)]) 13 (c_X6_bestOf_1 l G h o rw fr kp tr ik tp tm mso bg en wd va gd rs mu rm ss msz msh mho mhn mhz kd nb tn tc bo ip la ns sd to he sw nh ki te mi ar z t_la t_ns t_sd t_to t_he t_sw t_nh t_ki t_te t_mi t_ar t_z (by first | omega | assumption) (by first | omega | assumption) (by first | omega | assumption) (by first | omega | assumption) (by first | omega | assumption) (by first | omega | assumption)) w_1145 w_1147 v_53 w_7 w_1148 ok_X6_bestOf [0, 1, 2] 0 6 rfl rfl rfl rfl [[o], [rw], [tr]] rfl (fun w1s_ => ∃ (x_13_2_la : Nat → Int32) (x_13_2_ns : Nat) (x_13_2_sd : Nat) (x_13_2_to : Nat → Int32) (x_13_2_he : Nat → Int32) (x_13_2_sw : Nat → Int32) (x_13_2_nh : Nat) (x_13_2_ki : Nat → Int32) (x_13_2_te : Nat → Int32) (x_13_2_mi : Nat → Int32) (x_13_2_ar : Nat → Int32) (x_13_2_z : Int32), w1s_ = [wMo o rw fr kp tr ik tp tm mso bg en wd va gd rs mu rm ss msz msh mho mhn mhz kd nb tn tc bo ip, wMr G rw la ns sd to he sw nh ki te mi ar z, wMr G tr x_13_2_la x_13_2_ns x_13_2_sd x_13_2_to x_13_2_he x_13_2_sw x_13_2_nh x_13_2_ki x_13_2_te x_13_2_mi x_13_2_ar x_13_2_z]) (by rintro _ ⟨x_13_2_la, x_13_2_ns, x_13_2_sd, x_13_2_to, x_13_2_he, x_13_2_sw, x_13_2_nh, x_13_2_ki, x_13_2_te, x_13_2_mi, x_13_2_ar, x_13_2_z, rfl⟩; exact ⟨_, rfl, ⟨x_13_2_la, x_13_2_ns, x_13_2_sd, x_13_2_to, x_13_2_he, x_13_2_sw, x_13_2_nh, x_13_2_ki, x_13_2_te, x_13_2_mi, x_13_2_ar, x_13_2_z, rfl⟩, rfl⟩) rfl rfl rfl (Nat.le_of_ble_eq_true rfl) rfl dX6_tenderFor_13 (fun w1_ hw1_ => ?_)
  obtain ⟨x_13_2_la, x_13_2_ns, x_13_2_sd, x_13_2_to, x_13_2_he, x_13_2_sw, x_13_2_nh, x_13_2_ki, x_13_2_te, x_13_2_mi, x_13_2_ar, x_13_2_z, rfl⟩ := hw1_
  refine J_ws (ws' := (wF [wMo o rw fr kp tr ik tp tm mso bg en wd va gd rs mu rm ss msz msh mho mhn mhz kd nb tn tc bo ip, wMr G rw la ns sd to he sw nh ki te mi ar z, wMr G tr x_13_2_la x_13_2_ns x_13_2_sd x_13_2_to x_13_2_he x_13_2_sw x_13_2_nh x_13_2_ki x_13_2_te x_13_2_mi x_13_2_ar x_13_2_z])) 16 rfl ?_
  refine J_goto (tgt := 20) 16 dX6_tenderFor_16 (by decide) ?_
  exact J_iretP 20 dX6_tenderFor_20 rfl ⟨x_13_2_la, x_13_2_ns, x_13_2_sd, x_13_2_to, x_13_2_he, x_13_2_sw, x_13_2_nh, x_13_2_ki, x_13_2_te, x_13_2_mi, x_13_2_ar, x_13_2_z, rfl⟩
set_option maxRecDepth 100000 in
set_option maxHeartbeats 4000000 in
theorem c_X6_nextFor_bad (l : Launch) (G : Gd) (h : Int32) (o : Nat) (rw : Nat) (fr : Nat) (kp : Nat) (tr : Nat) (ik : Int32) (tp : Nat) (tm : Nat) (mso : Int32) (bg : Nat) (en : Nat) (wd : Int64) (va : Int32) (gd : Int32) (rs : Nat) (mu : Nat) (rm : Nat) (ss : Nat) (msz : Nat) (msh : Nat) (mho : Nat) (mhn : Nat) (mhz : Nat) (kd : Int32) (nb : Int32) (tn : Int32) (tc : Nat) (bo : Nat) (ip : Int32) (la : Nat → Int32) (ns : Nat) (sd : Nat) (to : Nat → Int32) (he : Nat → Int32) (sw : Nat → Int32) (nh : Nat) (ki : Nat → Int32) (te : Nat → Int32) (mi : Nat → Int32) (ar : Nat → Int32) (z : Int32) (hw : ¬ (0 ≤ h ∧ h ≤ nI nh - 1)) : Ct l G yX6_nextFor cX6_nextFor 8 (some (FieldType.int)) 5 [.ref o, .int h] (wF [wMo o rw fr kp tr ik tp tm mso bg en wd va gd rs mu rm ss msz msh mho mhn mhz kd nb tn tc bo ip, wMr G rw la ns sd to he sw nh ki te mi ar z]) (some (.int (-1))) (wF [wMo o rw fr kp tr ik tp tm mso bg en wd va gd rs mu rm ss msz msh mho mhn mhz kd nb tn tc bo ip, wMr G rw la ns sd to he sw nh ki te mi ar z]) := by
  refine Ct.of "GooseArmsModel" [some (.ref o), some (.int h), none, none, none, none, none, none] (by decide +kernel) rfl (Nat.le_of_ble_eq_true rfl) rfl ?_
  refine J_aload_n 0 0 dX6_nextFor_0 rfl rfl ?_
  refine J_iload_n 1 1 dX6_nextFor_1 rfl rfl ?_
  refine kb_RX6_206 (bs' := [wMo o rw fr kp tr ik tp tm mso bg en wd va gd rs mu rm ss msz msh mho mhn mhz kd nb tn tc bo ip, wMr G rw la ns sd to he sw nh ki te mi ar z]) (rest := []) (st' := [.int 0]) 2 (c_X6_isOne_f l G h o rw fr kp tr ik tp tm mso bg en wd va gd rs mu rm ss msz msh mho mhn mhz kd nb tn tc bo ip la ns sd to he sw nh ki te mi ar z (by first | omega | assumption)) [0, 1] 0 rfl rfl rfl [[o], [rw]] rfl rfl rfl rfl rfl rfl (Nat.le_of_ble_eq_true rfl) rfl dX6_nextFor_2 ?_
  refine J_if_ne (tgt := 10) 5 dX6_nextFor_5 (by decide) (fun c_1_ => absurd c_1_ (by decide)) (fun _ => ?_)
  refine J_iconst (v := (-1)) 8 dX6_nextFor_8 rfl ?_
  exact J_iret 9 dX6_nextFor_9 rfl rfl
set_option maxRecDepth 100000 in
set_option maxHeartbeats 4000000 in
theorem c_X6_nextFor_ok (l : Launch) (G : Gd) (h : Nat) (o : Nat) (rw : Nat) (fr : Nat) (kp : Nat) (tr : Nat) (ik : Int32) (tp : Nat) (tm : Nat) (mso : Int32) (bg : Nat) (en : Nat) (wd : Int64) (va : Int32) (gd : Int32) (rs : Nat) (mu : Nat) (rm : Nat) (ss : Nat) (msz : Nat) (msh : Nat) (mho : Nat) (mhn : Nat) (mhz : Nat) (kd : Int32) (nb : Int32) (tn : Int32) (tc : Nat) (bo : Nat) (ip : Int32) (la : Nat → Int32) (ns : Nat) (sd : Nat) (to : Nat → Int32) (he : Nat → Int32) (sw : Nat → Int32) (nh : Nat) (ki : Nat → Int32) (te : Nat → Int32) (mi : Nat → Int32) (ar : Nat → Int32) (z : Int32) (t_la : Nat → Int32) (t_ns : Nat) (t_sd : Nat) (t_to : Nat → Int32) (t_he : Nat → Int32) (t_sw : Nat → Int32) (t_nh : Nat) (t_ki : Nat → Int32) (t_te : Nat → Int32) (t_mi : Nat → Int32) (t_ar : Nat → Int32) (t_z : Int32) (hh : h < nh) (hnh : nh ≤ 8) (hns : ns ≤ 12) (hsd : sd ≤ ns) (hb : ∀ s_, s_ < ns → (sw s_ = 0 ∨ sw s_ = 1)) (ha : loB sd (ar h)) : CtP l G yX6_nextFor cX6_nextFor 8 (some (FieldType.int)) 5 [.ref o, .int (nI h)] (wF [wMo o rw fr kp tr ik tp tm mso bg en wd va gd rs mu rm ss msz msh mho mhn mhz kd nb tn tc bo ip, wMr G rw la ns sd to he sw nh ki te mi ar z, wMr G tr t_la t_ns t_sd t_to t_he t_sw t_nh t_ki t_te t_mi t_ar t_z]) (some (.int ((fBest (-3) sd (fun j_ => mRt la ki mi te ar (fSw to sd j_) (fSw he sd j_) (fSw sw sd j_) ns sd h) (ns - sd)).1))) (fun w_ => ∃ (j_2_la : Nat → Int32) (j_2_ns : Nat) (j_2_sd : Nat) (j_2_to : Nat → Int32) (j_2_he : Nat → Int32) (j_2_sw : Nat → Int32) (j_2_nh : Nat) (j_2_ki : Nat → Int32) (j_2_te : Nat → Int32) (j_2_mi : Nat → Int32) (j_2_ar : Nat → Int32) (j_2_z : Int32), w_ = (wF [wMo o rw fr kp tr ik tp tm mso bg en wd va gd rs mu rm ss msz msh mho mhn mhz kd nb tn tc bo ip, wMr G rw la ns sd to he sw nh ki te mi ar z, wMr G tr j_2_la j_2_ns j_2_sd j_2_to j_2_he j_2_sw j_2_nh j_2_ki j_2_te j_2_mi j_2_ar j_2_z])) := by
  refine CtP.of "GooseArmsModel" [some (.ref o), some (.int (nI h)), none, none, none, none, none, none] (by decide +kernel) rfl (Nat.le_of_ble_eq_true rfl) rfl ?_
  have cut_46_ : ∀ (n_46_ : Nat) (j : Nat) (b : Int32) (mm : Int32), (ns - j < n_46_) → (hj0 : sd ≤ j) → (hj : j ≤ ns) → (hb1 : fBest (-3) sd (fun j_ => mRt la ki mi te ar (fSw to sd j_) (fSw he sd j_) (fSw sw sd j_) ns sd h) (j - sd) = (b, mm)) → J l G (bdP G 5 (some (FieldType.int)) (some (.int ((fBest (-3) sd (fun j_ => mRt la ki mi te ar (fSw to sd j_) (fSw he sd j_) (fSw sw sd j_) ns sd h) (ns - sd)).1))) (fun w_ => ∃ (j_2_la : Nat → Int32) (j_2_ns : Nat) (j_2_sd : Nat) (j_2_to : Nat → Int32) (j_2_he : Nat → Int32) (j_2_sw : Nat → Int32) (j_2_nh : Nat) (j_2_ki : Nat → Int32) (j_2_te : Nat → Int32) (j_2_mi : Nat → Int32) (j_2_ar : Nat → Int32) (j_2_z : Int32), w_ = (wF [wMo o rw fr kp tr ik tp tm mso bg en wd va gd rs mu rm ss msz msh mho mhn mhz kd nb tn tc bo ip, wMr G rw la ns sd to he sw nh ki te mi ar z, wMr G tr j_2_la j_2_ns j_2_sd j_2_to j_2_he j_2_sw j_2_nh j_2_ki j_2_te j_2_mi j_2_ar j_2_z]))) cX6_nextFor 8 "GooseArmsModel" 46 [some (.ref o), some (.int (nI h)), some (.int b), some (.int mm), some (.int (nI sd)), some (.int (nI ns)), some (.int (nI j)), none] [] (wF [wMo o rw fr kp tr ik tp tm mso bg en wd va gd rs mu rm ss msz msh mho mhn mhz kd nb tn tc bo ip, wMr G rw la ns sd to he sw nh ki te mi ar z, wMr G tr la ns sd to he sw nh ki te mi ar z]) := by
    intro n_46_
    induction n_46_ with
    | zero => intro j b mm m_46_; exact absurd m_46_ (Nat.not_lt_zero _)
    | succ n_46_ ih_46_ =>
      intro j b mm m_46_ hj0 hj hb1
      refine J_iload 46 dX6_nextFor_46 rfl ?_
      refine J_iload 48 dX6_nextFor_48 rfl ?_
      refine J_icmp_ge (tgt := 167) 50 dX6_nextFor_50 (by decide) (fun c_1_ => ?_) (fun c_1_ => ?_)
      · skip
        have c_1_ : ns ≤ j := (nI_leI (a := ns) (b := j) (by omega) (by omega)).mp c_1_
        refine J_iload_n 167 2 dX6_nextFor_167 rfl rfl ?_
        exact J_iretP 168 dX6_nextFor_168 (congrArg (fun x_ => some (Value.int x_)) (by rw [← show j - sd = ns - sd by omega, hb1])) ⟨la, ns, sd, to, he, sw, nh, ki, te, mi, ar, z, rfl⟩
      · skip
        have c_1_ : ¬ ns ≤ j := fun z_ => c_1_ ((nI_leI (a := ns) (b := j) (by omega) (by omega)).mpr z_)
        refine J_iconst (v := 0) 53 dX6_nextFor_53 rfl ?_
        refine J_istore (lv' := [some (.ref o), some (.int (nI h)), some (.int b), some (.int mm), some (.int (nI sd)), some (.int (nI ns)), some (.int (nI j)), some (.int 0)]) 54 dX6_nextFor_54 (by decide) rfl ?_
        refine J_iload 56 dX6_nextFor_56 rfl ?_
        refine J_iconst (v := 3) 58 dX6_nextFor_58 rfl ?_
        refine J_icmp_ge (tgt := 128) 59 dX6_nextFor_59 (by decide) (fun c_2_ => absurd c_2_ (by decide)) (fun _ => ?_)
        refine J_aload_n 62 0 dX6_nextFor_62 rfl rfl ?_
        refine g_789 (v := .ref rw) 63 0 rfl rfl dX6_nextFor_63 ?_
        refine J_bipush (v := 8) 66 dX6_nextFor_66 rfl ?_
        refine J_iconst (v := 3) 68 dX6_nextFor_68 rfl ?_
        refine J_iload 69 dX6_nextFor_69 rfl ?_
        refine J_imul 71 dX6_nextFor_71 ?_
        refine J_topi (y := nI (3 * j)) 72 (pk_mul 3 j) ?_
        refine J_iadd 72 dX6_nextFor_72 ?_
        refine J_topi (y := nI (8 + (3 * j))) 73 (nI_add 8 (3 * j)) ?_
        refine J_iload 73 dX6_nextFor_73 rfl ?_
        refine J_iadd 75 dX6_nextFor_75 ?_
        refine J_topi (y := nI ((8 + (3 * j)) + 0)) 76 (nI_add (8 + (3 * j)) 0) ?_
        refine J_aload_n 76 0 dX6_nextFor_76 rfl rfl ?_
        refine g_792 (v := .ref tr) 77 0 rfl rfl dX6_nextFor_77 ?_
        refine J_bipush (v := 8) 80 dX6_nextFor_80 rfl ?_
        refine J_iconst (v := 3) 82 dX6_nextFor_82 rfl ?_
        refine J_iload 83 dX6_nextFor_83 rfl ?_
        refine J_imul 85 dX6_nextFor_85 ?_
        refine J_topi (y := nI (3 * sd)) 86 (pk_mul 3 sd) ?_
        refine J_iadd 86 dX6_nextFor_86 ?_
        refine J_topi (y := nI (8 + (3 * sd))) 87 (nI_add 8 (3 * sd)) ?_
        refine J_iload 87 dX6_nextFor_87 rfl ?_
        refine J_iadd 89 dX6_nextFor_89 ?_
        refine J_topi (y := nI ((8 + (3 * sd)) + 0)) 90 (nI_add (8 + (3 * sd)) 0) ?_
        refine J_iald 90 2 ((8 + (3 * sd)) + 0) rfl rfl (by omega) (by decide) dX6_nextFor_90 ?_
        refine J_topi (y := to sd) 91 (fR_to (i := sd) (by first | rfl | omega) (by omega)) ?_
        refine J_iast (ws' := (wF [wMo o rw fr kp tr ik tp tm mso bg en wd va gd rs mu rm ss msz msh mho mhn mhz kd nb tn tc bo ip, wI G rw 76 (upd (fRow la ns sd to he sw nh ki te mi ar z) ((8 + (3 * j)) + 0) (to sd)), wMr G tr la ns sd to he sw nh ki te mi ar z])) 91 1 ((8 + (3 * j)) + 0) rfl rfl (by omega) (by decide) rfl dX6_nextFor_91 ?_
        refine J_ws (ws' := (wF [wMo o rw fr kp tr ik tp tm mso bg en wd va gd rs mu rm ss msz msh mho mhn mhz kd nb tn tc bo ip, wMr G rw la ns sd (upd to j (to sd)) he sw nh ki te mi ar z, wMr G tr la ns sd to he sw nh ki te mi ar z])) 92 (congrArg (fun x_ => (wF [wMo o rw fr kp tr ik tp tm mso bg en wd va gd rs mu rm ss msz msh mho mhn mhz kd nb tn tc bo ip, wI G rw 76 x_, wMr G tr la ns sd to he sw nh ki te mi ar z])) (fU_to (i := j) (by omega) (by omega))) ?_
        refine J_aload_n 92 0 dX6_nextFor_92 rfl rfl ?_
        refine g_789 (v := .ref rw) 93 0 rfl rfl dX6_nextFor_93 ?_
        refine J_bipush (v := 8) 96 dX6_nextFor_96 rfl ?_
        refine J_iconst (v := 3) 98 dX6_nextFor_98 rfl ?_
        refine J_iload 99 dX6_nextFor_99 rfl ?_
        refine J_imul 101 dX6_nextFor_101 ?_
        refine J_topi (y := nI (3 * sd)) 102 (pk_mul 3 sd) ?_
        refine J_iadd 102 dX6_nextFor_102 ?_
        refine J_topi (y := nI (8 + (3 * sd))) 103 (nI_add 8 (3 * sd)) ?_
        refine J_iload 103 dX6_nextFor_103 rfl ?_
        refine J_iadd 105 dX6_nextFor_105 ?_
        refine J_topi (y := nI ((8 + (3 * sd)) + 0)) 106 (nI_add (8 + (3 * sd)) 0) ?_
        refine J_aload_n 106 0 dX6_nextFor_106 rfl rfl ?_
        refine g_792 (v := .ref tr) 107 0 rfl rfl dX6_nextFor_107 ?_
        refine J_bipush (v := 8) 110 dX6_nextFor_110 rfl ?_
        refine J_iconst (v := 3) 112 dX6_nextFor_112 rfl ?_
        refine J_iload 113 dX6_nextFor_113 rfl ?_
        refine J_imul 115 dX6_nextFor_115 ?_
        refine J_topi (y := nI (3 * j)) 116 (pk_mul 3 j) ?_
        refine J_iadd 116 dX6_nextFor_116 ?_
        refine J_topi (y := nI (8 + (3 * j))) 117 (nI_add 8 (3 * j)) ?_
        refine J_iload 117 dX6_nextFor_117 rfl ?_
        refine J_iadd 119 dX6_nextFor_119 ?_
        refine J_topi (y := nI ((8 + (3 * j)) + 0)) 120 (nI_add (8 + (3 * j)) 0) ?_
        refine J_iald 120 2 ((8 + (3 * j)) + 0) rfl rfl (by omega) (by decide) dX6_nextFor_120 ?_
        refine J_topi (y := to j) 121 (fR_to (i := j) (by first | rfl | omega) (by omega)) ?_
        refine J_iast (ws' := (wF [wMo o rw fr kp tr ik tp tm mso bg en wd va gd rs mu rm ss msz msh mho mhn mhz kd nb tn tc bo ip, wI G rw 76 (upd (fRow la ns sd (upd to j (to sd)) he sw nh ki te mi ar z) ((8 + (3 * sd)) + 0) (to j)), wMr G tr la ns sd to he sw nh ki te mi ar z])) 121 1 ((8 + (3 * sd)) + 0) rfl rfl (by omega) (by decide) rfl dX6_nextFor_121 ?_
        refine J_ws (ws' := (wF [wMo o rw fr kp tr ik tp tm mso bg en wd va gd rs mu rm ss msz msh mho mhn mhz kd nb tn tc bo ip, wMr G rw la ns sd (upd (upd to j (to sd)) sd (to j)) he sw nh ki te mi ar z, wMr G tr la ns sd to he sw nh ki te mi ar z])) 122 (congrArg (fun x_ => (wF [wMo o rw fr kp tr ik tp tm mso bg en wd va gd rs mu rm ss msz msh mho mhn mhz kd nb tn tc bo ip, wI G rw 76 x_, wMr G tr la ns sd to he sw nh ki te mi ar z])) (fU_to (i := sd) (by omega) (by omega))) ?_
        refine J_iinc (v := 1) (lv' := [some (.ref o), some (.int (nI h)), some (.int b), some (.int mm), some (.int (nI sd)), some (.int (nI ns)), some (.int (nI j)), some (.int 1)]) 122 dX6_nextFor_122 rfl rfl (by decide) rfl ?_
        refine J_goto (tgt := 56) 125 dX6_nextFor_125 (by decide) ?_
        refine J_iload 56 dX6_nextFor_56 rfl ?_
        refine J_iconst (v := 3) 58 dX6_nextFor_58 rfl ?_
        refine J_icmp_ge (tgt := 128) 59 dX6_nextFor_59 (by decide) (fun c_3_ => absurd c_3_ (by decide)) (fun _ => ?_)
        refine J_aload_n 62 0 dX6_nextFor_62 rfl rfl ?_
        refine g_789 (v := .ref rw) 63 0 rfl rfl dX6_nextFor_63 ?_
        refine J_bipush (v := 8) 66 dX6_nextFor_66 rfl ?_
        refine J_iconst (v := 3) 68 dX6_nextFor_68 rfl ?_
        refine J_iload 69 dX6_nextFor_69 rfl ?_
        refine J_imul 71 dX6_nextFor_71 ?_
        refine J_topi (y := nI (3 * j)) 72 (pk_mul 3 j) ?_
        refine J_iadd 72 dX6_nextFor_72 ?_
        refine J_topi (y := nI (8 + (3 * j))) 73 (nI_add 8 (3 * j)) ?_
        refine J_iload 73 dX6_nextFor_73 rfl ?_
        refine J_iadd 75 dX6_nextFor_75 ?_
        refine J_topi (y := nI ((8 + (3 * j)) + 1)) 76 (nI_add (8 + (3 * j)) 1) ?_
        refine J_aload_n 76 0 dX6_nextFor_76 rfl rfl ?_
        refine g_792 (v := .ref tr) 77 0 rfl rfl dX6_nextFor_77 ?_
        refine J_bipush (v := 8) 80 dX6_nextFor_80 rfl ?_
        refine J_iconst (v := 3) 82 dX6_nextFor_82 rfl ?_
        refine J_iload 83 dX6_nextFor_83 rfl ?_
        refine J_imul 85 dX6_nextFor_85 ?_
        refine J_topi (y := nI (3 * sd)) 86 (pk_mul 3 sd) ?_
        refine J_iadd 86 dX6_nextFor_86 ?_
        refine J_topi (y := nI (8 + (3 * sd))) 87 (nI_add 8 (3 * sd)) ?_
        refine J_iload 87 dX6_nextFor_87 rfl ?_
        refine J_iadd 89 dX6_nextFor_89 ?_
        refine J_topi (y := nI ((8 + (3 * sd)) + 1)) 90 (nI_add (8 + (3 * sd)) 1) ?_
        refine J_iald 90 2 ((8 + (3 * sd)) + 1) rfl rfl (by omega) (by decide) dX6_nextFor_90 ?_
        refine J_topi (y := he sd) 91 (fR_he (i := sd) (by first | rfl | omega) (by omega)) ?_
        refine J_iast (ws' := (wF [wMo o rw fr kp tr ik tp tm mso bg en wd va gd rs mu rm ss msz msh mho mhn mhz kd nb tn tc bo ip, wI G rw 76 (upd (fRow la ns sd (upd (upd to j (to sd)) sd (to j)) he sw nh ki te mi ar z) ((8 + (3 * j)) + 1) (he sd)), wMr G tr la ns sd to he sw nh ki te mi ar z])) 91 1 ((8 + (3 * j)) + 1) rfl rfl (by omega) (by decide) rfl dX6_nextFor_91 ?_
        refine J_ws (ws' := (wF [wMo o rw fr kp tr ik tp tm mso bg en wd va gd rs mu rm ss msz msh mho mhn mhz kd nb tn tc bo ip, wMr G rw la ns sd (upd (upd to j (to sd)) sd (to j)) (upd he j (he sd)) sw nh ki te mi ar z, wMr G tr la ns sd to he sw nh ki te mi ar z])) 92 (congrArg (fun x_ => (wF [wMo o rw fr kp tr ik tp tm mso bg en wd va gd rs mu rm ss msz msh mho mhn mhz kd nb tn tc bo ip, wI G rw 76 x_, wMr G tr la ns sd to he sw nh ki te mi ar z])) (fU_he (i := j) (by omega) (by omega))) ?_
        refine J_aload_n 92 0 dX6_nextFor_92 rfl rfl ?_
        refine g_789 (v := .ref rw) 93 0 rfl rfl dX6_nextFor_93 ?_
        refine J_bipush (v := 8) 96 dX6_nextFor_96 rfl ?_
        refine J_iconst (v := 3) 98 dX6_nextFor_98 rfl ?_
        refine J_iload 99 dX6_nextFor_99 rfl ?_
        refine J_imul 101 dX6_nextFor_101 ?_
        refine J_topi (y := nI (3 * sd)) 102 (pk_mul 3 sd) ?_
        refine J_iadd 102 dX6_nextFor_102 ?_
        refine J_topi (y := nI (8 + (3 * sd))) 103 (nI_add 8 (3 * sd)) ?_
        refine J_iload 103 dX6_nextFor_103 rfl ?_
        refine J_iadd 105 dX6_nextFor_105 ?_
        refine J_topi (y := nI ((8 + (3 * sd)) + 1)) 106 (nI_add (8 + (3 * sd)) 1) ?_
        refine J_aload_n 106 0 dX6_nextFor_106 rfl rfl ?_
        refine g_792 (v := .ref tr) 107 0 rfl rfl dX6_nextFor_107 ?_
        refine J_bipush (v := 8) 110 dX6_nextFor_110 rfl ?_
        refine J_iconst (v := 3) 112 dX6_nextFor_112 rfl ?_
        refine J_iload 113 dX6_nextFor_113 rfl ?_
        refine J_imul 115 dX6_nextFor_115 ?_
        refine J_topi (y := nI (3 * j)) 116 (pk_mul 3 j) ?_
        refine J_iadd 116 dX6_nextFor_116 ?_
        refine J_topi (y := nI (8 + (3 * j))) 117 (nI_add 8 (3 * j)) ?_
        refine J_iload 117 dX6_nextFor_117 rfl ?_
        refine J_iadd 119 dX6_nextFor_119 ?_
        refine J_topi (y := nI ((8 + (3 * j)) + 1)) 120 (nI_add (8 + (3 * j)) 1) ?_
        refine J_iald 120 2 ((8 + (3 * j)) + 1) rfl rfl (by omega) (by decide) dX6_nextFor_120 ?_
        refine J_topi (y := he j) 121 (fR_he (i := j) (by first | rfl | omega) (by omega)) ?_
        refine J_iast (ws' := (wF [wMo o rw fr kp tr ik tp tm mso bg en wd va gd rs mu rm ss msz msh mho mhn mhz kd nb tn tc bo ip, wI G rw 76 (upd (fRow la ns sd (upd (upd to j (to sd)) sd (to j)) (upd he j (he sd)) sw nh ki te mi ar z) ((8 + (3 * sd)) + 1) (he j)), wMr G tr la ns sd to he sw nh ki te mi ar z])) 121 1 ((8 + (3 * sd)) + 1) rfl rfl (by omega) (by decide) rfl dX6_nextFor_121 ?_
        refine J_ws (ws' := (wF [wMo o rw fr kp tr ik tp tm mso bg en wd va gd rs mu rm ss msz msh mho mhn mhz kd nb tn tc bo ip, wMr G rw la ns sd (upd (upd to j (to sd)) sd (to j)) (upd (upd he j (he sd)) sd (he j)) sw nh ki te mi ar z, wMr G tr la ns sd to he sw nh ki te mi ar z])) 122 (congrArg (fun x_ => (wF [wMo o rw fr kp tr ik tp tm mso bg en wd va gd rs mu rm ss msz msh mho mhn mhz kd nb tn tc bo ip, wI G rw 76 x_, wMr G tr la ns sd to he sw nh ki te mi ar z])) (fU_he (i := sd) (by omega) (by omega))) ?_
        refine J_iinc (v := 2) (lv' := [some (.ref o), some (.int (nI h)), some (.int b), some (.int mm), some (.int (nI sd)), some (.int (nI ns)), some (.int (nI j)), some (.int 2)]) 122 dX6_nextFor_122 rfl rfl (by decide) rfl ?_
        refine J_goto (tgt := 56) 125 dX6_nextFor_125 (by decide) ?_
        refine J_iload 56 dX6_nextFor_56 rfl ?_
        refine J_iconst (v := 3) 58 dX6_nextFor_58 rfl ?_
        refine J_icmp_ge (tgt := 128) 59 dX6_nextFor_59 (by decide) (fun c_4_ => absurd c_4_ (by decide)) (fun _ => ?_)
        refine J_aload_n 62 0 dX6_nextFor_62 rfl rfl ?_
        refine g_789 (v := .ref rw) 63 0 rfl rfl dX6_nextFor_63 ?_
        refine J_bipush (v := 8) 66 dX6_nextFor_66 rfl ?_
        refine J_iconst (v := 3) 68 dX6_nextFor_68 rfl ?_
        refine J_iload 69 dX6_nextFor_69 rfl ?_
        refine J_imul 71 dX6_nextFor_71 ?_
        refine J_topi (y := nI (3 * j)) 72 (pk_mul 3 j) ?_
        refine J_iadd 72 dX6_nextFor_72 ?_
        refine J_topi (y := nI (8 + (3 * j))) 73 (nI_add 8 (3 * j)) ?_
        refine J_iload 73 dX6_nextFor_73 rfl ?_
        refine J_iadd 75 dX6_nextFor_75 ?_
        refine J_topi (y := nI ((8 + (3 * j)) + 2)) 76 (nI_add (8 + (3 * j)) 2) ?_
        refine J_aload_n 76 0 dX6_nextFor_76 rfl rfl ?_
        refine g_792 (v := .ref tr) 77 0 rfl rfl dX6_nextFor_77 ?_
        refine J_bipush (v := 8) 80 dX6_nextFor_80 rfl ?_
        refine J_iconst (v := 3) 82 dX6_nextFor_82 rfl ?_
        refine J_iload 83 dX6_nextFor_83 rfl ?_
        refine J_imul 85 dX6_nextFor_85 ?_
        refine J_topi (y := nI (3 * sd)) 86 (pk_mul 3 sd) ?_
        refine J_iadd 86 dX6_nextFor_86 ?_
        refine J_topi (y := nI (8 + (3 * sd))) 87 (nI_add 8 (3 * sd)) ?_
        refine J_iload 87 dX6_nextFor_87 rfl ?_
        refine J_iadd 89 dX6_nextFor_89 ?_
        refine J_topi (y := nI ((8 + (3 * sd)) + 2)) 90 (nI_add (8 + (3 * sd)) 2) ?_
        refine J_iald 90 2 ((8 + (3 * sd)) + 2) rfl rfl (by omega) (by decide) dX6_nextFor_90 ?_
        refine J_topi (y := sw sd) 91 (fR_sw (i := sd) (by first | rfl | omega) (by omega)) ?_
        refine J_iast (ws' := (wF [wMo o rw fr kp tr ik tp tm mso bg en wd va gd rs mu rm ss msz msh mho mhn mhz kd nb tn tc bo ip, wI G rw 76 (upd (fRow la ns sd (upd (upd to j (to sd)) sd (to j)) (upd (upd he j (he sd)) sd (he j)) sw nh ki te mi ar z) ((8 + (3 * j)) + 2) (sw sd)), wMr G tr la ns sd to he sw nh ki te mi ar z])) 91 1 ((8 + (3 * j)) + 2) rfl rfl (by omega) (by decide) rfl dX6_nextFor_91 ?_
        refine J_ws (ws' := (wF [wMo o rw fr kp tr ik tp tm mso bg en wd va gd rs mu rm ss msz msh mho mhn mhz kd nb tn tc bo ip, wMr G rw la ns sd (upd (upd to j (to sd)) sd (to j)) (upd (upd he j (he sd)) sd (he j)) (upd sw j (sw sd)) nh ki te mi ar z, wMr G tr la ns sd to he sw nh ki te mi ar z])) 92 (congrArg (fun x_ => (wF [wMo o rw fr kp tr ik tp tm mso bg en wd va gd rs mu rm ss msz msh mho mhn mhz kd nb tn tc bo ip, wI G rw 76 x_, wMr G tr la ns sd to he sw nh ki te mi ar z])) (fU_sw (i := j) (by omega) (by omega))) ?_
        refine J_aload_n 92 0 dX6_nextFor_92 rfl rfl ?_
        refine g_789 (v := .ref rw) 93 0 rfl rfl dX6_nextFor_93 ?_
        refine J_bipush (v := 8) 96 dX6_nextFor_96 rfl ?_
        refine J_iconst (v := 3) 98 dX6_nextFor_98 rfl ?_
        refine J_iload 99 dX6_nextFor_99 rfl ?_
        refine J_imul 101 dX6_nextFor_101 ?_
        refine J_topi (y := nI (3 * sd)) 102 (pk_mul 3 sd) ?_
        refine J_iadd 102 dX6_nextFor_102 ?_
        refine J_topi (y := nI (8 + (3 * sd))) 103 (nI_add 8 (3 * sd)) ?_
        refine J_iload 103 dX6_nextFor_103 rfl ?_
        refine J_iadd 105 dX6_nextFor_105 ?_
        refine J_topi (y := nI ((8 + (3 * sd)) + 2)) 106 (nI_add (8 + (3 * sd)) 2) ?_
        refine J_aload_n 106 0 dX6_nextFor_106 rfl rfl ?_
        refine g_792 (v := .ref tr) 107 0 rfl rfl dX6_nextFor_107 ?_
        refine J_bipush (v := 8) 110 dX6_nextFor_110 rfl ?_
        refine J_iconst (v := 3) 112 dX6_nextFor_112 rfl ?_
        refine J_iload 113 dX6_nextFor_113 rfl ?_
        refine J_imul 115 dX6_nextFor_115 ?_
        refine J_topi (y := nI (3 * j)) 116 (pk_mul 3 j) ?_
        refine J_iadd 116 dX6_nextFor_116 ?_
        refine J_topi (y := nI (8 + (3 * j))) 117 (nI_add 8 (3 * j)) ?_
        refine J_iload 117 dX6_nextFor_117 rfl ?_
        refine J_iadd 119 dX6_nextFor_119 ?_
        refine J_topi (y := nI ((8 + (3 * j)) + 2)) 120 (nI_add (8 + (3 * j)) 2) ?_
        refine J_iald 120 2 ((8 + (3 * j)) + 2) rfl rfl (by omega) (by decide) dX6_nextFor_120 ?_
        refine J_topi (y := sw j) 121 (fR_sw (i := j) (by first | rfl | omega) (by omega)) ?_
        refine J_iast (ws' := (wF [wMo o rw fr kp tr ik tp tm mso bg en wd va gd rs mu rm ss msz msh mho mhn mhz kd nb tn tc bo ip, wI G rw 76 (upd (fRow la ns sd (upd (upd to j (to sd)) sd (to j)) (upd (upd he j (he sd)) sd (he j)) (upd sw j (sw sd)) nh ki te mi ar z) ((8 + (3 * sd)) + 2) (sw j)), wMr G tr la ns sd to he sw nh ki te mi ar z])) 121 1 ((8 + (3 * sd)) + 2) rfl rfl (by omega) (by decide) rfl dX6_nextFor_121 ?_
        refine J_ws (ws' := (wF [wMo o rw fr kp tr ik tp tm mso bg en wd va gd rs mu rm ss msz msh mho mhn mhz kd nb tn tc bo ip, wMr G rw la ns sd (upd (upd to j (to sd)) sd (to j)) (upd (upd he j (he sd)) sd (he j)) (upd (upd sw j (sw sd)) sd (sw j)) nh ki te mi ar z, wMr G tr la ns sd to he sw nh ki te mi ar z])) 122 (congrArg (fun x_ => (wF [wMo o rw fr kp tr ik tp tm mso bg en wd va gd rs mu rm ss msz msh mho mhn mhz kd nb tn tc bo ip, wI G rw 76 x_, wMr G tr la ns sd to he sw nh ki te mi ar z])) (fU_sw (i := sd) (by omega) (by omega))) ?_
        refine J_iinc (v := 3) (lv' := [some (.ref o), some (.int (nI h)), some (.int b), some (.int mm), some (.int (nI sd)), some (.int (nI ns)), some (.int (nI j)), some (.int 3)]) 122 dX6_nextFor_122 rfl rfl (by decide) rfl ?_
        refine J_goto (tgt := 56) 125 dX6_nextFor_125 (by decide) ?_
        refine J_iload 56 dX6_nextFor_56 rfl ?_
        refine J_iconst (v := 3) 58 dX6_nextFor_58 rfl ?_
        refine J_icmp_ge (tgt := 128) 59 dX6_nextFor_59 (by decide) (fun _ => ?_) (fun c_5_ => absurd c_5_ (by decide))
        refine J_ws (ws' := (wF [wMo o rw fr kp tr ik tp tm mso bg en wd va gd rs mu rm ss msz msh mho mhn mhz kd nb tn tc bo ip, wMr G rw la ns sd (fSw to sd j) (upd (upd he j (he sd)) sd (he j)) (upd (upd sw j (sw sd)) sd (sw j)) nh ki te mi ar z, wMr G tr la ns sd to he sw nh ki te mi ar z])) 128 (congrArg (fun x_ => (wF [wMo o rw fr kp tr ik tp tm mso bg en wd va gd rs mu rm ss msz msh mho mhn mhz kd nb tn tc bo ip, wMr G rw la ns sd x_ (upd (upd he j (he sd)) sd (he j)) (upd (upd sw j (sw sd)) sd (sw j)) nh ki te mi ar z, wMr G tr la ns sd to he sw nh ki te mi ar z])) fSm_e) ?_
        refine J_ws (ws' := (wF [wMo o rw fr kp tr ik tp tm mso bg en wd va gd rs mu rm ss msz msh mho mhn mhz kd nb tn tc bo ip, wMr G rw la ns sd (fSw to sd j) (fSw he sd j) (upd (upd sw j (sw sd)) sd (sw j)) nh ki te mi ar z, wMr G tr la ns sd to he sw nh ki te mi ar z])) 128 (congrArg (fun x_ => (wF [wMo o rw fr kp tr ik tp tm mso bg en wd va gd rs mu rm ss msz msh mho mhn mhz kd nb tn tc bo ip, wMr G rw la ns sd (fSw to sd j) x_ (upd (upd sw j (sw sd)) sd (sw j)) nh ki te mi ar z, wMr G tr la ns sd to he sw nh ki te mi ar z])) fSm_e) ?_
        refine J_ws (ws' := (wF [wMo o rw fr kp tr ik tp tm mso bg en wd va gd rs mu rm ss msz msh mho mhn mhz kd nb tn tc bo ip, wMr G rw la ns sd (fSw to sd j) (fSw he sd j) (fSw sw sd j) nh ki te mi ar z, wMr G tr la ns sd to he sw nh ki te mi ar z])) 128 (congrArg (fun x_ => (wF [wMo o rw fr kp tr ik tp tm mso bg en wd va gd rs mu rm ss msz msh mho mhn mhz kd nb tn tc bo ip, wMr G rw la ns sd (fSw to sd j) (fSw he sd j) x_ nh ki te mi ar z, wMr G tr la ns sd to he sw nh ki te mi ar z])) fSm_e) ?_
        refine J_aload_n 128 0 dX6_nextFor_128 rfl rfl ?_
        refine J_iload_n 129 1 dX6_nextFor_129 rfl rfl ?_
        refine kb_RX6_253 (bs' := [wMo o rw fr kp tr ik tp tm mso bg en wd va gd rs mu rm ss msz msh mho mhn mhz kd nb tn tc bo ip, wMr G rw la ns sd to he sw nh ki te mi ar z, wMr G tr la ns sd to he sw nh ki te mi ar z]) (rest := []) (st' := [.int (mRt la ki mi te ar (fSw to sd j) (fSw he sd j) (fSw sw sd j) ns sd h)]) 130 (c_X6_rightOf l G h o rw fr kp tr ik tp tm mso bg en wd va gd rs mu rm ss msz msh mho mhn mhz kd nb tn tc bo ip la ns sd (fSw to sd j) (fSw he sd j) (fSw sw sd j) nh ki te mi ar z la sd to he sw nh ki te mi ar z (by first | omega | assumption) (by first | omega | assumption) (by first | omega | assumption) (by first | omega | assumption) (fSw_b hb (by omega) (by omega)) (by first | omega | assumption)) [0, 1, 2] 0 rfl rfl rfl [[o], [rw], [tr]] rfl rfl rfl rfl rfl rfl (Nat.le_of_ble_eq_true rfl) rfl dX6_nextFor_130 ?_
        refine J_istore (lv' := [some (.ref o), some (.int (nI h)), some (.int b), some (.int mm), some (.int (nI sd)), some (.int (nI ns)), some (.int (nI j)), some (.int (mRt la ki mi te ar (fSw to sd j) (fSw he sd j) (fSw sw sd j) ns sd h))]) 133 dX6_nextFor_133 (by decide) rfl ?_
        refine J_iload 135 dX6_nextFor_135 rfl ?_
        refine J_iload_n 137 3 dX6_nextFor_137 rfl rfl ?_
        refine J_icmp_le (tgt := 146) 138 dX6_nextFor_138 (by decide) (fun c_6_ => ?_) (fun c_6_ => ?_)
        · skip
          refine J_iload_n 146 2 dX6_nextFor_146 rfl rfl ?_
          refine J_istore_n (lv' := [some (.ref o), some (.int (nI h)), some (.int b), some (.int mm), some (.int (nI sd)), some (.int (nI ns)), some (.int (nI j)), some (.int (mRt la ki mi te ar (fSw to sd j) (fSw he sd j) (fSw sw sd j) ns sd h))]) 147 2 dX6_nextFor_147 rfl (by decide) rfl ?_
          refine J_iload 148 dX6_nextFor_148 rfl ?_
          refine J_iload_n 150 3 dX6_nextFor_150 rfl rfl ?_
          refine J_icmp_le (tgt := 159) 151 dX6_nextFor_151 (by decide) (fun c_7_ => ?_) (fun c_7_ => ?_)
          · skip
            refine J_iload_n 159 3 dX6_nextFor_159 rfl rfl ?_
            refine J_istore_n (lv' := [some (.ref o), some (.int (nI h)), some (.int b), some (.int mm), some (.int (nI sd)), some (.int (nI ns)), some (.int (nI j)), some (.int (mRt la ki mi te ar (fSw to sd j) (fSw he sd j) (fSw sw sd j) ns sd h))]) 160 3 dX6_nextFor_160 rfl (by decide) rfl ?_
            refine J_iinc (v := nI (j + 1)) (lv' := [some (.ref o), some (.int (nI h)), some (.int b), some (.int mm), some (.int (nI sd)), some (.int (nI ns)), some (.int (nI (j + 1))), some (.int (mRt la ki mi te ar (fSw to sd j) (fSw he sd j) (fSw sw sd j) ns sd h))]) 161 dX6_nextFor_161 rfl (nI_add _ 1) (by decide) rfl ?_
            refine J_goto (tgt := 46) 164 dX6_nextFor_164 (by decide) ?_
            refine J_mask (lv' := [some (.ref o), some (.int (nI h)), some (.int b), some (.int mm), some (.int (nI sd)), some (.int (nI ns)), some (.int (nI (j + 1))), none]) 46 [true, true, true, true, true, true, true, false] rfl ?_
            exact ih_46_ (j + 1) b mm (by omega) (by first | assumption | omega | rfl) (by first | assumption | omega | rfl) (by first | contradiction | (rw [Nat.sub_self]; rfl) | (rw [show j + 1 - sd = (j - sd) + 1 by omega, fBest_t hb1 (by rw [show sd + (j - sd) = j by omega]) (by assumption), show sd + (j - sd) = j by omega]) | (rw [show j + 1 - sd = (j - sd) + 1 by omega]; exact fBest_f hb1 (by rw [show sd + (j - sd) = j by omega]) (by assumption)))
          · skip
            refine J_iload 154 dX6_nextFor_154 rfl ?_
            refine J_goto (tgt := 160) 156 dX6_nextFor_156 (by decide) ?_
            refine J_istore_n (lv' := [some (.ref o), some (.int (nI h)), some (.int b), some (.int (mRt la ki mi te ar (fSw to sd j) (fSw he sd j) (fSw sw sd j) ns sd h)), some (.int (nI sd)), some (.int (nI ns)), some (.int (nI j)), some (.int (mRt la ki mi te ar (fSw to sd j) (fSw he sd j) (fSw sw sd j) ns sd h))]) 160 3 dX6_nextFor_160 rfl (by decide) rfl ?_
            refine J_iinc (v := nI (j + 1)) (lv' := [some (.ref o), some (.int (nI h)), some (.int b), some (.int (mRt la ki mi te ar (fSw to sd j) (fSw he sd j) (fSw sw sd j) ns sd h)), some (.int (nI sd)), some (.int (nI ns)), some (.int (nI (j + 1))), some (.int (mRt la ki mi te ar (fSw to sd j) (fSw he sd j) (fSw sw sd j) ns sd h))]) 161 dX6_nextFor_161 rfl (nI_add _ 1) (by decide) rfl ?_
            refine J_goto (tgt := 46) 164 dX6_nextFor_164 (by decide) ?_
            refine J_mask (lv' := [some (.ref o), some (.int (nI h)), some (.int b), some (.int (mRt la ki mi te ar (fSw to sd j) (fSw he sd j) (fSw sw sd j) ns sd h)), some (.int (nI sd)), some (.int (nI ns)), some (.int (nI (j + 1))), none]) 46 [true, true, true, true, true, true, true, false] rfl ?_
            exact ih_46_ (j + 1) b (mRt la ki mi te ar (fSw to sd j) (fSw he sd j) (fSw sw sd j) ns sd h) (by omega) (by first | assumption | omega | rfl) (by first | assumption | omega | rfl) (by first | contradiction | (rw [Nat.sub_self]; rfl) | (rw [show j + 1 - sd = (j - sd) + 1 by omega, fBest_t hb1 (by rw [show sd + (j - sd) = j by omega]) (by assumption), show sd + (j - sd) = j by omega]) | (rw [show j + 1 - sd = (j - sd) + 1 by omega]; exact fBest_f hb1 (by rw [show sd + (j - sd) = j by omega]) (by assumption)))
        · skip
          refine J_iload 141 dX6_nextFor_141 rfl ?_
          refine J_goto (tgt := 147) 143 dX6_nextFor_143 (by decide) ?_
          refine J_istore_n (lv' := [some (.ref o), some (.int (nI h)), some (.int (nI j)), some (.int mm), some (.int (nI sd)), some (.int (nI ns)), some (.int (nI j)), some (.int (mRt la ki mi te ar (fSw to sd j) (fSw he sd j) (fSw sw sd j) ns sd h))]) 147 2 dX6_nextFor_147 rfl (by decide) rfl ?_
          refine J_iload 148 dX6_nextFor_148 rfl ?_
          refine J_iload_n 150 3 dX6_nextFor_150 rfl rfl ?_
          refine J_icmp_le (tgt := 159) 151 dX6_nextFor_151 (by decide) (fun c_8_ => ?_) (fun c_8_ => ?_)
          · skip
            refine J_iload_n 159 3 dX6_nextFor_159 rfl rfl ?_
            refine J_istore_n (lv' := [some (.ref o), some (.int (nI h)), some (.int (nI j)), some (.int mm), some (.int (nI sd)), some (.int (nI ns)), some (.int (nI j)), some (.int (mRt la ki mi te ar (fSw to sd j) (fSw he sd j) (fSw sw sd j) ns sd h))]) 160 3 dX6_nextFor_160 rfl (by decide) rfl ?_
            refine J_iinc (v := nI (j + 1)) (lv' := [some (.ref o), some (.int (nI h)), some (.int (nI j)), some (.int mm), some (.int (nI sd)), some (.int (nI ns)), some (.int (nI (j + 1))), some (.int (mRt la ki mi te ar (fSw to sd j) (fSw he sd j) (fSw sw sd j) ns sd h))]) 161 dX6_nextFor_161 rfl (nI_add _ 1) (by decide) rfl ?_
            refine J_goto (tgt := 46) 164 dX6_nextFor_164 (by decide) ?_
            refine J_mask (lv' := [some (.ref o), some (.int (nI h)), some (.int (nI j)), some (.int mm), some (.int (nI sd)), some (.int (nI ns)), some (.int (nI (j + 1))), none]) 46 [true, true, true, true, true, true, true, false] rfl ?_
            exact ih_46_ (j + 1) (nI j) mm (by omega) (by first | assumption | omega | rfl) (by first | assumption | omega | rfl) (by first | contradiction | (rw [Nat.sub_self]; rfl) | (rw [show j + 1 - sd = (j - sd) + 1 by omega, fBest_t hb1 (by rw [show sd + (j - sd) = j by omega]) (by assumption), show sd + (j - sd) = j by omega]) | (rw [show j + 1 - sd = (j - sd) + 1 by omega]; exact fBest_f hb1 (by rw [show sd + (j - sd) = j by omega]) (by assumption)))
          · skip
            refine J_iload 154 dX6_nextFor_154 rfl ?_
            refine J_goto (tgt := 160) 156 dX6_nextFor_156 (by decide) ?_
            refine J_istore_n (lv' := [some (.ref o), some (.int (nI h)), some (.int (nI j)), some (.int (mRt la ki mi te ar (fSw to sd j) (fSw he sd j) (fSw sw sd j) ns sd h)), some (.int (nI sd)), some (.int (nI ns)), some (.int (nI j)), some (.int (mRt la ki mi te ar (fSw to sd j) (fSw he sd j) (fSw sw sd j) ns sd h))]) 160 3 dX6_nextFor_160 rfl (by decide) rfl ?_
            refine J_iinc (v := nI (j + 1)) (lv' := [some (.ref o), some (.int (nI h)), some (.int (nI j)), some (.int (mRt la ki mi te ar (fSw to sd j) (fSw he sd j) (fSw sw sd j) ns sd h)), some (.int (nI sd)), some (.int (nI ns)), some (.int (nI (j + 1))), some (.int (mRt la ki mi te ar (fSw to sd j) (fSw he sd j) (fSw sw sd j) ns sd h))]) 161 dX6_nextFor_161 rfl (nI_add _ 1) (by decide) rfl ?_
            refine J_goto (tgt := 46) 164 dX6_nextFor_164 (by decide) ?_
            refine J_mask (lv' := [some (.ref o), some (.int (nI h)), some (.int (nI j)), some (.int (mRt la ki mi te ar (fSw to sd j) (fSw he sd j) (fSw sw sd j) ns sd h)), some (.int (nI sd)), some (.int (nI ns)), some (.int (nI (j + 1))), none]) 46 [true, true, true, true, true, true, true, false] rfl ?_
            exact ih_46_ (j + 1) (nI j) (mRt la ki mi te ar (fSw to sd j) (fSw he sd j) (fSw sw sd j) ns sd h) (by omega) (by first | assumption | omega | rfl) (by first | assumption | omega | rfl) (by first | contradiction | (rw [Nat.sub_self]; rfl) | (rw [show j + 1 - sd = (j - sd) + 1 by omega, fBest_t hb1 (by rw [show sd + (j - sd) = j by omega]) (by assumption), show sd + (j - sd) = j by omega]) | (rw [show j + 1 - sd = (j - sd) + 1 by omega]; exact fBest_f hb1 (by rw [show sd + (j - sd) = j by omega]) (by assumption)))
  refine J_aload_n 0 0 dX6_nextFor_0 rfl rfl ?_
  refine J_iload_n 1 1 dX6_nextFor_1 rfl rfl ?_
  refine kb_RX6_206 (bs' := [wMo o rw fr kp tr ik tp tm mso bg en wd va gd rs mu rm ss msz msh mho mhn mhz kd nb tn tc bo ip, wMr G rw la ns sd to he sw nh ki te mi ar z, wMr G tr t_la t_ns t_sd t_to t_he t_sw t_nh t_ki t_te t_mi t_ar t_z]) (rest := []) (st' := [.int 1]) 2 (c_X6_isOne_t l G h o rw fr kp tr ik tp tm mso bg en wd va gd rs mu rm ss msz msh mho mhn mhz kd nb tn tc bo ip la ns sd to he sw nh ki te mi ar z (by assumption) (by omega)) [0, 1] 0 rfl rfl rfl [[o], [rw]] rfl rfl rfl rfl rfl rfl (Nat.le_of_ble_eq_true rfl) rfl dX6_nextFor_2 ?_
  refine J_if_ne (tgt := 10) 5 dX6_nextFor_5 (by decide) (fun _ => ?_) (fun c_9_ => absurd c_9_ (by decide))
  refine J_aload_n 10 0 dX6_nextFor_10 rfl rfl ?_
  refine g_789 (v := .ref rw) 11 0 rfl rfl dX6_nextFor_11 ?_
  refine J_aload_n 14 0 dX6_nextFor_14 rfl rfl ?_
  refine g_792 (v := .ref tr) 15 0 rfl rfl dX6_nextFor_15 ?_
  refine kb_RX6_173 (bs' := [wMo o rw fr kp tr ik tp tm mso bg en wd va gd rs mu rm ss msz msh mho mhn mhz kd nb tn tc bo ip, wMr G rw la ns sd to he sw nh ki te mi ar z, wMr G tr la ns sd to he sw nh ki te mi ar z]) (rest := []) (st' := []) 18 (c_X6_moveAll_r l G rw la ns sd to he sw nh ki te mi ar z tr t_la t_ns t_sd t_to t_he t_sw t_nh t_ki t_te t_mi t_ar t_z ) [1, 2] rfl rfl [[rw], [tr]] rfl rfl rfl rfl rfl rfl (Nat.le_of_ble_eq_true rfl) rfl dX6_nextFor_18 ?_
  refine J_bipush (v := (-3)) 21 dX6_nextFor_21 rfl ?_
  refine J_istore_n (lv' := [some (.ref o), some (.int (nI h)), some (.int (-3)), none, none, none, none, none]) 23 2 dX6_nextFor_23 rfl (by decide) rfl ?_
  refine J_iconst (v := (-1)) 24 dX6_nextFor_24 rfl ?_
  refine J_istore_n (lv' := [some (.ref o), some (.int (nI h)), some (.int (-3)), some (.int (-1)), none, none, none, none]) 25 3 dX6_nextFor_25 rfl (by decide) rfl ?_
  refine J_aload_n 26 0 dX6_nextFor_26 rfl rfl ?_
  refine g_789 (v := .ref rw) 27 0 rfl rfl dX6_nextFor_27 ?_
  refine J_iconst (v := 4) 30 dX6_nextFor_30 rfl ?_
  refine J_iald 31 1 4 rfl rfl (by omega) (by decide) dX6_nextFor_31 ?_
  refine J_topi (y := nI sd) 32 (fR_sd rfl) ?_
  refine J_istore (lv' := [some (.ref o), some (.int (nI h)), some (.int (-3)), some (.int (-1)), some (.int (nI sd)), none, none, none]) 32 dX6_nextFor_32 (by decide) rfl ?_
  refine J_aload_n 34 0 dX6_nextFor_34 rfl rfl ?_
  refine g_789 (v := .ref rw) 35 0 rfl rfl dX6_nextFor_35 ?_
  refine J_iconst (v := 5) 38 dX6_nextFor_38 rfl ?_
  refine J_iald 39 1 5 rfl rfl (by omega) (by decide) dX6_nextFor_39 ?_
  refine J_topi (y := nI ns) 40 (fR_ns rfl) ?_
  refine J_istore (lv' := [some (.ref o), some (.int (nI h)), some (.int (-3)), some (.int (-1)), some (.int (nI sd)), some (.int (nI ns)), none, none]) 40 dX6_nextFor_40 (by decide) rfl ?_
  refine J_iload 42 dX6_nextFor_42 rfl ?_
  refine J_istore (lv' := [some (.ref o), some (.int (nI h)), some (.int (-3)), some (.int (-1)), some (.int (nI sd)), some (.int (nI ns)), some (.int (nI sd)), none]) 44 dX6_nextFor_44 (by decide) rfl ?_
  exact cut_46_ ((ns - sd) + 1) sd (-3) (-1) (Nat.lt_succ_self _) (by first | assumption | omega | rfl) (by first | assumption | omega | rfl) (by first | contradiction | (rw [Nat.sub_self]; rfl) | (rw [show j + 1 - sd = (j - sd) + 1 by omega, fBest_t hb1 (by rw [show sd + (j - sd) = j by omega]) (by assumption), show sd + (j - sd) = j by omega]) | (rw [show j + 1 - sd = (j - sd) + 1 by omega]; exact fBest_f hb1 (by rw [show sd + (j - sd) = j by omega]) (by assumption)))
set_option maxRecDepth 100000 in
set_option maxHeartbeats 4000000 in
theorem c_X6_isEnough (l : Launch) (G : Gd) (s : Int32) (o : Nat) (rw : Nat) (fr : Nat) (kp : Nat) (tr : Nat) (ik : Int32) (tp : Nat) (tm : Nat) (mso : Int32) (bg : Nat) (en : Nat) (wd : Int64) (va : Int32) (gd : Int32) (rs : Nat) (mu : Nat) (rm : Nat) (ss : Nat) (msz : Nat) (msh : Nat) (mho : Nat) (mhn : Nat) (mhz : Nat) (kd : Int32) (nb : Int32) (tn : Int32) (tc : Nat) (bo : Nat) (ip : Int32) (la : Nat → Int32) (ns : Nat) (sd : Nat) (to : Nat → Int32) (he : Nat → Int32) (sw : Nat → Int32) (nh : Nat) (ki : Nat → Int32) (te : Nat → Int32) (mi : Nat → Int32) (ar : Nat → Int32) (z : Int32) (hnh : nh ≤ 8) (hns : ns ≤ 12) (hb : ∀ s_, s_ < ns → (sw s_ = 0 ∨ sw s_ = 1)) : Ct l G yX6_isEnough cX6_isEnough 4 (some (FieldType.boolean)) 2 [.ref o, .int s] (wF [wMo o rw fr kp tr ik tp tm mso bg en wd va gd rs mu rm ss msz msh mho mhn mhz kd nb tn tc bo ip, wMr G rw la ns sd to he sw nh ki te mi ar z]) (some (.int (bI ((fMask (fun s_ => sw s_ = 1) ns) &&& ((fOr (fun h_ => hasP s (nI h_)) ar nh) ^^^ (-1)) = 0)))) (wF [wMo o rw fr kp tr ik tp tm mso bg en wd va gd rs mu rm ss msz msh mho mhn mhz kd nb tn tc bo ip, wMr G rw la ns sd to he sw nh ki te mi ar z]) := by
  refine Ct.of "GooseArmsModel" [some (.ref o), some (.int s), none, none] (by decide +kernel) rfl (Nat.le_of_ble_eq_true rfl) rfl ?_
  have cut_4_ : ∀ (n_4_ : Nat) (k : Nat) (x : Int32), (nh - k < n_4_) → (hk : k ≤ nh) → (hx : x = fOr (fun h_ => hasP s (nI h_)) ar k) → J l G (bd G 2 (some (FieldType.boolean)) (some (.int (bI ((fMask (fun s_ => sw s_ = 1) ns) &&& ((fOr (fun h_ => hasP s (nI h_)) ar nh) ^^^ (-1)) = 0)))) (wF [wMo o rw fr kp tr ik tp tm mso bg en wd va gd rs mu rm ss msz msh mho mhn mhz kd nb tn tc bo ip, wMr G rw la ns sd to he sw nh ki te mi ar z])) cX6_isEnough 4 "GooseArmsModel" 4 [some (.ref o), some (.int s), some (.int x), some (.int (nI k))] [] (wF [wMo o rw fr kp tr ik tp tm mso bg en wd va gd rs mu rm ss msz msh mho mhn mhz kd nb tn tc bo ip, wMr G rw la ns sd to he sw nh ki te mi ar z]) := by
    intro n_4_
    induction n_4_ with
    | zero => intro k x m_4_; exact absurd m_4_ (Nat.not_lt_zero _)
    | succ n_4_ ih_4_ =>
      intro k x m_4_ hk hx
      refine J_iload_n 4 3 dX6_isEnough_4 rfl rfl ?_
      refine J_aload_n 5 0 dX6_isEnough_5 rfl rfl ?_
      refine g_789 (v := .ref rw) 6 0 rfl rfl dX6_isEnough_6 ?_
      refine J_bipush (v := 6) 9 dX6_isEnough_9 rfl ?_
      refine J_iald 11 1 6 rfl rfl (by omega) (by decide) dX6_isEnough_11 ?_
      refine J_topi (y := nI nh) 12 (fR_nh rfl) ?_
      refine J_icmp_ge (tgt := 43) 12 dX6_isEnough_12 (by decide) (fun c_1_ => ?_) (fun c_1_ => ?_)
      · skip
        have c_1_ : nh ≤ k := (nI_leI (a := nh) (b := k) (by omega) (by omega)).mp c_1_
        have hxn_ : x = fOr (fun h_ => hasP s (nI h_)) ar nh := by rw [hx, show k = nh by omega]
        refine J_aload_n 43 0 dX6_isEnough_43 rfl rfl ?_
        refine kb_RX6_241 (bs' := [wMo o rw fr kp tr ik tp tm mso bg en wd va gd rs mu rm ss msz msh mho mhn mhz kd nb tn tc bo ip, wMr G rw la ns sd to he sw nh ki te mi ar z]) (rest := []) (st' := [.int (fMask (fun s_ => sw s_ = 1) ns)]) 44 (c_X6_soSet l G o rw fr kp tr ik tp tm mso bg en wd va gd rs mu rm ss msz msh mho mhn mhz kd nb tn tc bo ip la ns sd to he sw nh ki te mi ar z (by first | omega | assumption) (by first | omega | assumption)) [0, 1] 0 rfl rfl rfl [[o], [rw]] rfl rfl rfl rfl rfl rfl (Nat.le_of_ble_eq_true rfl) rfl dX6_isEnough_44 ?_
        refine J_iload_n 47 2 dX6_isEnough_47 rfl rfl ?_
        refine J_iconst (v := (-1)) 48 dX6_isEnough_48 rfl ?_
        refine J_ixor 49 dX6_isEnough_49 ?_
        refine J_iand 50 dX6_isEnough_50 ?_
        refine J_if_ne (tgt := 58) 51 dX6_isEnough_51 (by decide) (fun c_2_ => ?_) (fun c_2_ => ?_)
        · skip
          refine J_iconst (v := 0) 58 dX6_isEnough_58 rfl ?_
          exact J_zret 59 rfl dX6_isEnough_59 (congrArg (fun x_ => some (Value.int x_)) (bI_f (by rw [← hxn_]; assumption)).symm) rfl
        · skip
          refine J_iconst (v := 1) 54 dX6_isEnough_54 rfl ?_
          refine J_goto (tgt := 59) 55 dX6_isEnough_55 (by decide) ?_
          exact J_zret 59 rfl dX6_isEnough_59 (congrArg (fun x_ => some (Value.int x_)) (bI_t (by rw [← hxn_]; assumption)).symm) rfl
      · skip
        have c_1_ : ¬ nh ≤ k := fun z_ => c_1_ ((nI_leI (a := nh) (b := k) (by omega) (by omega)).mpr z_)
        refine J_iload_n 15 2 dX6_isEnough_15 rfl rfl ?_
        refine J_iload_n 16 1 dX6_isEnough_16 rfl rfl ?_
        refine J_iload_n 17 3 dX6_isEnough_17 rfl rfl ?_
        refine J_ishr 18 dX6_isEnough_18 ?_
        refine J_iconst (v := 1) 19 dX6_isEnough_19 rfl ?_
        refine J_iand 20 dX6_isEnough_20 ?_
        refine J_iconst (v := 1) 21 dX6_isEnough_21 rfl ?_
        refine J_icmp_ne (tgt := 34) 22 dX6_isEnough_22 (by decide) (fun c_3_ => ?_) (fun c_3_ => ?_)
        · skip
          refine J_iconst (v := 0) 34 dX6_isEnough_34 rfl ?_
          refine J_ior 35 dX6_isEnough_35 ?_
          refine J_istore_n (lv' := [some (.ref o), some (.int s), some (.int (x ||| 0)), some (.int (nI k))]) 36 2 dX6_isEnough_36 rfl (by decide) rfl ?_
          refine J_iinc (v := nI (k + 1)) (lv' := [some (.ref o), some (.int s), some (.int (x ||| 0)), some (.int (nI (k + 1)))]) 37 dX6_isEnough_37 rfl (nI_add _ 1) (by decide) rfl ?_
          refine J_goto (tgt := 4) 40 dX6_isEnough_40 (by decide) ?_
          exact ih_4_ (k + 1) (x ||| 0) (by omega) (by first | assumption | omega | rfl) (by first | rfl | exact fOr_st hx (by assumption) | (rw [Int32.or_zero]; exact fOr_sf hx (by assumption)))
        · skip
          refine J_aload_n 25 0 dX6_isEnough_25 rfl rfl ?_
          refine J_iload_n 26 3 dX6_isEnough_26 rfl rfl ?_
          refine J_iconst (v := 3) 27 dX6_isEnough_27 rfl ?_
          refine kb_RX6_187 (bs' := [wMo o rw fr kp tr ik tp tm mso bg en wd va gd rs mu rm ss msz msh mho mhn mhz kd nb tn tc bo ip, wMr G rw la ns sd to he sw nh ki te mi ar z]) (rest := [.int x]) (st' := [.int (ar k), .int x]) 28 (c_X6_its_3 l G k o rw fr kp tr ik tp tm mso bg en wd va gd rs mu rm ss msz msh mho mhn mhz kd nb tn tc bo ip la ns sd to he sw nh ki te mi ar z (by first | omega | assumption)) [0, 1] 0 rfl rfl rfl [[o], [rw]] rfl rfl rfl rfl rfl rfl (Nat.le_of_ble_eq_true rfl) rfl dX6_isEnough_28 ?_
          refine J_goto (tgt := 35) 31 dX6_isEnough_31 (by decide) ?_
          refine J_ior 35 dX6_isEnough_35 ?_
          refine J_istore_n (lv' := [some (.ref o), some (.int s), some (.int (x ||| (ar k))), some (.int (nI k))]) 36 2 dX6_isEnough_36 rfl (by decide) rfl ?_
          refine J_iinc (v := nI (k + 1)) (lv' := [some (.ref o), some (.int s), some (.int (x ||| (ar k))), some (.int (nI (k + 1)))]) 37 dX6_isEnough_37 rfl (nI_add _ 1) (by decide) rfl ?_
          refine J_goto (tgt := 4) 40 dX6_isEnough_40 (by decide) ?_
          exact ih_4_ (k + 1) (x ||| (ar k)) (by omega) (by first | assumption | omega | rfl) (by first | rfl | exact fOr_st hx (by assumption) | (rw [Int32.or_zero]; exact fOr_sf hx (by assumption)))
  refine J_iconst (v := 0) 0 dX6_isEnough_0 rfl ?_
  refine J_istore_n (lv' := [some (.ref o), some (.int s), some (.int 0), none]) 1 2 dX6_isEnough_1 rfl (by decide) rfl ?_
  refine J_iconst (v := 0) 2 dX6_isEnough_2 rfl ?_
  refine J_istore_n (lv' := [some (.ref o), some (.int s), some (.int 0), some (.int 0)]) 3 3 dX6_isEnough_3 rfl (by decide) rfl ?_
  exact cut_4_ ((nh - 0) + 1) 0 0 (Nat.lt_succ_self _) (by first | assumption | omega | rfl) (by first | rfl | exact fOr_st hx (by assumption) | (rw [Int32.or_zero]; exact fOr_sf hx (by assumption)))
set_option maxRecDepth 100000 in
set_option maxHeartbeats 4000000 in
theorem c_X6_enough (l : Launch) (G : Gd) (o : Nat) (rw : Nat) (fr : Nat) (kp : Nat) (tr : Nat) (ik : Int32) (tp : Nat) (tm : Nat) (mso : Int32) (bg : Nat) (en : Nat) (wd : Int64) (va : Int32) (gd : Int32) (rs : Nat) (mu : Nat) (rm : Nat) (ss : Nat) (msz : Nat) (msh : Nat) (mho : Nat) (mhn : Nat) (mhz : Nat) (kd : Int32) (nb : Int32) (tn : Int32) (tc : Nat) (bo : Nat) (ip : Int32) (la : Nat → Int32) (ns : Nat) (sd : Nat) (to : Nat → Int32) (he : Nat → Int32) (sw : Nat → Int32) (nh : Nat) (ki : Nat → Int32) (te : Nat → Int32) (mi : Nat → Int32) (ar : Nat → Int32) (z : Int32) (t_la : Nat → Int32) (t_ns : Nat) (t_sd : Nat) (t_to : Nat → Int32) (t_he : Nat → Int32) (t_sw : Nat → Int32) (t_nh : Nat) (t_ki : Nat → Int32) (t_te : Nat → Int32) (t_mi : Nat → Int32) (t_ar : Nat → Int32) (t_z : Int32) (hnh : nh ≤ 8) (hns : ns ≤ 12) (hsd : sd ≤ ns) (hb : ∀ s_, s_ < ns → (sw s_ = 0 ∨ sw s_ = 1)) : CtP l G yX6_enough cX6_enough 3 (some (FieldType.int)) 4 [.ref o] (wF [wMo o rw fr kp tr ik tp tm mso bg en wd va gd rs mu rm ss msz msh mho mhn mhz kd nb tn tc bo ip, wMr G rw la ns sd to he sw nh ki te mi ar z, wMr G tr t_la t_ns t_sd t_to t_he t_sw t_nh t_ki t_te t_mi t_ar t_z]) (some (.int (mEno (fun i_ => ((fMask (fun s_ => sw s_ = 1) ns) &&& ((fOr (fun h_ => hasP (nI i_) (nI h_)) (fAr (fun h_ => h_ < nh) la ki mi te ar to he sw sd (min 12 (ns - sd))) nh) ^^^ (-1)) = 0)) (2 ^ nh)))) (fun w_ => ∃ (j_2_la : Nat → Int32) (j_2_ns : Nat) (j_2_sd : Nat) (j_2_to : Nat → Int32) (j_2_he : Nat → Int32) (j_2_sw : Nat → Int32) (j_2_nh : Nat) (j_2_ki : Nat → Int32) (j_2_te : Nat → Int32) (j_2_mi : Nat → Int32) (j_2_ar : Nat → Int32) (j_2_z : Int32), w_ = (wF [wMo o rw fr kp tr ik tp tm mso bg en wd va gd rs mu rm ss msz msh mho mhn mhz kd nb tn tc bo ip, wMr G rw la ns sd to he sw nh ki te mi ar z, wMr G tr j_2_la j_2_ns j_2_sd j_2_to j_2_he j_2_sw j_2_nh j_2_ki j_2_te j_2_mi j_2_ar j_2_z])) := by
  refine CtP.of "GooseArmsModel" [some (.ref o), none, none] (by decide +kernel) rfl (Nat.le_of_ble_eq_true rfl) rfl ?_
  have h2_ := p2_8 hnh
  have cut_22_ : ∀ (n_22_ : Nat) (i : Nat) (b : Int32), (2 ^ nh - i < n_22_) → (hi : i ≤ 2 ^ nh) → (hb1 : b = fEm (fun i_ => ((fMask (fun s_ => sw s_ = 1) ns) &&& ((fOr (fun h_ => hasP (nI i_) (nI h_)) (fAr (fun h_ => h_ < nh) la ki mi te ar to he sw sd (min 12 (ns - sd))) nh) ^^^ (-1)) = 0)) i) → J l G (bdP G 4 (some (FieldType.int)) (some (.int (mEno (fun i_ => ((fMask (fun s_ => sw s_ = 1) ns) &&& ((fOr (fun h_ => hasP (nI i_) (nI h_)) (fAr (fun h_ => h_ < nh) la ki mi te ar to he sw sd (min 12 (ns - sd))) nh) ^^^ (-1)) = 0)) (2 ^ nh)))) (fun w_ => ∃ (j_2_la : Nat → Int32) (j_2_ns : Nat) (j_2_sd : Nat) (j_2_to : Nat → Int32) (j_2_he : Nat → Int32) (j_2_sw : Nat → Int32) (j_2_nh : Nat) (j_2_ki : Nat → Int32) (j_2_te : Nat → Int32) (j_2_mi : Nat → Int32) (j_2_ar : Nat → Int32) (j_2_z : Int32), w_ = (wF [wMo o rw fr kp tr ik tp tm mso bg en wd va gd rs mu rm ss msz msh mho mhn mhz kd nb tn tc bo ip, wMr G rw la ns sd to he sw nh ki te mi ar z, wMr G tr j_2_la j_2_ns j_2_sd j_2_to j_2_he j_2_sw j_2_nh j_2_ki j_2_te j_2_mi j_2_ar j_2_z]))) cX6_enough 3 "GooseArmsModel" 22 [some (.ref o), some (.int b), some (.int (nI i))] [] (wF [wMo o rw fr kp tr ik tp tm mso bg en wd va gd rs mu rm ss msz msh mho mhn mhz kd nb tn tc bo ip, wMr G rw la ns (sd + min 12 (ns - sd)) to he sw nh ki (fTe (fun h_ => h_ < nh) la ki mi te ar to he sw sd (min 12 (ns - sd))) mi (fAr (fun h_ => h_ < nh) la ki mi te ar to he sw sd (min 12 (ns - sd))) z, wMr G tr la ns sd to he sw nh ki te mi ar z]) := by
    intro n_22_
    induction n_22_ with
    | zero => intro i b m_22_; exact absurd m_22_ (Nat.not_lt_zero _)
    | succ n_22_ ih_22_ =>
      intro i b m_22_ hi hb1
      refine J_iload_n 22 2 dX6_enough_22 rfl rfl ?_
      refine J_iconst (v := 1) 23 dX6_enough_23 rfl ?_
      refine J_aload_n 24 0 dX6_enough_24 rfl rfl ?_
      refine g_789 (v := .ref rw) 25 0 rfl rfl dX6_enough_25 ?_
      refine J_bipush (v := 6) 28 dX6_enough_28 rfl ?_
      refine J_iald 30 1 6 rfl rfl (by omega) (by decide) dX6_enough_30 ?_
      refine J_topi (y := nI nh) 31 (fR_nh rfl) ?_
      refine J_ishl 31 dX6_enough_31 ?_
      refine J_topi (y := nI (2 ^ nh)) 32 (shl_2 nh (by omega)) ?_
      refine J_icmp_ge (tgt := 66) 32 dX6_enough_32 (by decide) (fun c_1_ => ?_) (fun c_1_ => ?_)
      · skip
        have c_1_ : (2 ^ nh) ≤ i := (nI_leI (a := (2 ^ nh)) (b := i) (by omega) (by omega)).mp c_1_
        have hbn_ : b = fEm (fun i_ => ((fMask (fun s_ => sw s_ = 1) ns) &&& ((fOr (fun h_ => hasP (nI i_) (nI h_)) (fAr (fun h_ => h_ < nh) la ki mi te ar to he sw sd (min 12 (ns - sd))) nh) ^^^ (-1)) = 0)) (2 ^ nh) := by rw [hb1, show i = 2 ^ nh by omega]
        refine J_aload_n 66 0 dX6_enough_66 rfl rfl ?_
        refine g_792 (v := .ref tr) 67 0 rfl rfl dX6_enough_67 ?_
        refine J_aload_n 70 0 dX6_enough_70 rfl rfl ?_
        refine g_789 (v := .ref rw) 71 0 rfl rfl dX6_enough_71 ?_
        refine kb_RX6_173 (bs' := [wMo o rw fr kp tr ik tp tm mso bg en wd va gd rs mu rm ss msz msh mho mhn mhz kd nb tn tc bo ip, wMr G rw la ns sd to he sw nh ki te mi ar z, wMr G tr la ns sd to he sw nh ki te mi ar z]) (rest := []) (st' := []) 74 (c_X6_moveAll_r l G tr la ns sd to he sw nh ki te mi ar z rw la ns (sd + min 12 (ns - sd)) to he sw nh ki (fTe (fun h_ => h_ < nh) la ki mi te ar to he sw sd (min 12 (ns - sd))) mi (fAr (fun h_ => h_ < nh) la ki mi te ar to he sw sd (min 12 (ns - sd))) z ) [2, 1] rfl rfl [[tr], [rw]] rfl rfl rfl rfl rfl rfl (Nat.le_of_ble_eq_true rfl) rfl dX6_enough_74 ?_
        refine J_iload_n 77 1 dX6_enough_77 rfl rfl ?_
        refine J_if_ge (tgt := 86) 78 dX6_enough_78 (by decide) (fun c_2_ => ?_) (fun c_2_ => ?_)
        · skip
          refine J_iload_n 86 1 dX6_enough_86 rfl rfl ?_
          exact J_iretP 87 dX6_enough_87 (congrArg (fun x_ => some (Value.int x_)) (by unfold mEno; rw [← hbn_]; first | exact (if_pos (by assumption)).symm | exact (if_pos (Int32.not_le.mp (by assumption))).symm | exact (if_neg (Int32.not_lt.mpr (by assumption))).symm)) ⟨la, ns, sd, to, he, sw, nh, ki, te, mi, ar, z, rfl⟩
        · skip
          refine J_bipush (v := (-3)) 81 dX6_enough_81 rfl ?_
          refine J_goto (tgt := 87) 83 dX6_enough_83 (by decide) ?_
          exact J_iretP 87 dX6_enough_87 (congrArg (fun x_ => some (Value.int x_)) (by unfold mEno; rw [← hbn_]; first | exact (if_pos (by assumption)).symm | exact (if_pos (Int32.not_le.mp (by assumption))).symm | exact (if_neg (Int32.not_lt.mpr (by assumption))).symm)) ⟨la, ns, sd, to, he, sw, nh, ki, te, mi, ar, z, rfl⟩
      · skip
        have c_1_ : ¬ (2 ^ nh) ≤ i := fun z_ => c_1_ ((nI_leI (a := (2 ^ nh)) (b := i) (by omega) (by omega)).mpr z_)
        refine J_iload_n 35 1 dX6_enough_35 rfl rfl ?_
        refine J_if_lt (tgt := 50) 36 dX6_enough_36 (by decide) (fun c_3_ => ?_) (fun c_3_ => ?_)
        · skip
          refine J_aload_n 50 0 dX6_enough_50 rfl rfl ?_
          refine J_iload_n 51 2 dX6_enough_51 rfl rfl ?_
          refine kb_RX6_259 (bs' := [wMo o rw fr kp tr ik tp tm mso bg en wd va gd rs mu rm ss msz msh mho mhn mhz kd nb tn tc bo ip, wMr G rw la ns (sd + min 12 (ns - sd)) to he sw nh ki (fTe (fun h_ => h_ < nh) la ki mi te ar to he sw sd (min 12 (ns - sd))) mi (fAr (fun h_ => h_ < nh) la ki mi te ar to he sw sd (min 12 (ns - sd))) z, wMr G tr la ns sd to he sw nh ki te mi ar z]) (rest := []) (st' := [.int (bI ((fMask (fun s_ => sw s_ = 1) ns) &&& ((fOr (fun h_ => hasP (nI i) (nI h_)) (fAr (fun h_ => h_ < nh) la ki mi te ar to he sw sd (min 12 (ns - sd))) nh) ^^^ (-1)) = 0))]) 52 (c_X6_isEnough l G (nI i) o rw fr kp tr ik tp tm mso bg en wd va gd rs mu rm ss msz msh mho mhn mhz kd nb tn tc bo ip la ns (sd + min 12 (ns - sd)) to he sw nh ki (fTe (fun h_ => h_ < nh) la ki mi te ar to he sw sd (min 12 (ns - sd))) mi (fAr (fun h_ => h_ < nh) la ki mi te ar to he sw sd (min 12 (ns - sd))) z (by first | omega | assumption) (by first | omega | assumption) (by first | omega | assumption)) [0, 1] 0 rfl rfl rfl [[o], [rw]] rfl rfl rfl rfl rfl rfl (Nat.le_of_ble_eq_true rfl) rfl dX6_enough_52 ?_
          refine J_ifB_eq (tgt := 60) 55 dX6_enough_55 (by decide) (fun c_4_ => ?_) (fun c_4_ => ?_)
          · skip
            refine J_iinc (v := nI (i + 1)) (lv' := [some (.ref o), some (.int b), some (.int (nI (i + 1)))]) 60 dX6_enough_60 rfl (nI_add _ 1) (by decide) rfl ?_
            refine J_goto (tgt := 22) 63 dX6_enough_63 (by decide) ?_
            exact ih_22_ (i + 1) b (by omega) (by first | exact Nat.zero_le _ | omega) (by first | exact fEm_t hb1 (by assumption) (Or.inl (by assumption)) | exact fEm_t hb1 (by assumption) (Or.inr (Int32.not_le.mp (by assumption))) | exact fEm_f hb1 (fun z_ => absurd z_.2 (by assumption)) | exact fEm_f hb1 (fun z_ => z_.1.elim (fun y_ => absurd y_ (by first | assumption | exact Int32.not_lt.mpr (by assumption))) (fun y_ => Int32.not_le.mpr y_ (by assumption))) | rfl)
          · skip
            refine J_iload_n 58 2 dX6_enough_58 rfl rfl ?_
            refine J_istore_n (lv' := [some (.ref o), some (.int (nI i)), some (.int (nI i))]) 59 1 dX6_enough_59 rfl (by decide) rfl ?_
            refine J_iinc (v := nI (i + 1)) (lv' := [some (.ref o), some (.int (nI i)), some (.int (nI (i + 1)))]) 60 dX6_enough_60 rfl (nI_add _ 1) (by decide) rfl ?_
            refine J_goto (tgt := 22) 63 dX6_enough_63 (by decide) ?_
            exact ih_22_ (i + 1) (nI i) (by omega) (by first | exact Nat.zero_le _ | omega) (by first | exact fEm_t hb1 (by assumption) (Or.inl (by assumption)) | exact fEm_t hb1 (by assumption) (Or.inr (Int32.not_le.mp (by assumption))) | exact fEm_f hb1 (fun z_ => absurd z_.2 (by assumption)) | exact fEm_f hb1 (fun z_ => z_.1.elim (fun y_ => absurd y_ (by first | assumption | exact Int32.not_lt.mpr (by assumption))) (fun y_ => Int32.not_le.mpr y_ (by assumption))) | rfl)
        · skip
          refine J_iload_n 39 2 dX6_enough_39 rfl rfl ?_
          refine kb_RX6_238 (bs' := [wMo o rw fr kp tr ik tp tm mso bg en wd va gd rs mu rm ss msz msh mho mhn mhz kd nb tn tc bo ip, wMr G rw la ns (sd + min 12 (ns - sd)) to he sw nh ki (fTe (fun h_ => h_ < nh) la ki mi te ar to he sw sd (min 12 (ns - sd))) mi (fAr (fun h_ => h_ < nh) la ki mi te ar to he sw sd (min 12 (ns - sd))) z, wMr G tr la ns sd to he sw nh ki te mi ar z]) (rest := []) (st' := [.int (fBC (nI i))]) 40 (c_X6_ones l G (nI i) ⟨i, by omega, rfl⟩) [] rfl rfl [] rfl rfl rfl rfl rfl rfl (Nat.le_of_ble_eq_true rfl) rfl dX6_enough_40 ?_
          refine J_iload_n 43 1 dX6_enough_43 rfl rfl ?_
          refine kb_RX6_238 (bs' := [wMo o rw fr kp tr ik tp tm mso bg en wd va gd rs mu rm ss msz msh mho mhn mhz kd nb tn tc bo ip, wMr G rw la ns (sd + min 12 (ns - sd)) to he sw nh ki (fTe (fun h_ => h_ < nh) la ki mi te ar to he sw sd (min 12 (ns - sd))) mi (fAr (fun h_ => h_ < nh) la ki mi te ar to he sw sd (min 12 (ns - sd))) z, wMr G tr la ns sd to he sw nh ki te mi ar z]) (rest := [.int (fBC (nI i))]) (st' := [.int (fBC b), .int (fBC (nI i))]) 44 (c_X6_ones l G b (fEm_x hb1 (by omega) (by first | assumption | exact Int32.not_lt.mpr (by assumption)))) [] rfl rfl [] rfl rfl rfl rfl rfl rfl (Nat.le_of_ble_eq_true rfl) rfl dX6_enough_44 ?_
          refine J_icmp_ge (tgt := 60) 47 dX6_enough_47 (by decide) (fun c_5_ => ?_) (fun c_5_ => ?_)
          · skip
            refine J_iinc (v := nI (i + 1)) (lv' := [some (.ref o), some (.int b), some (.int (nI (i + 1)))]) 60 dX6_enough_60 rfl (nI_add _ 1) (by decide) rfl ?_
            refine J_goto (tgt := 22) 63 dX6_enough_63 (by decide) ?_
            exact ih_22_ (i + 1) b (by omega) (by first | exact Nat.zero_le _ | omega) (by first | exact fEm_t hb1 (by assumption) (Or.inl (by assumption)) | exact fEm_t hb1 (by assumption) (Or.inr (Int32.not_le.mp (by assumption))) | exact fEm_f hb1 (fun z_ => absurd z_.2 (by assumption)) | exact fEm_f hb1 (fun z_ => z_.1.elim (fun y_ => absurd y_ (by first | assumption | exact Int32.not_lt.mpr (by assumption))) (fun y_ => Int32.not_le.mpr y_ (by assumption))) | rfl)
          · skip
            refine J_aload_n 50 0 dX6_enough_50 rfl rfl ?_
            refine J_iload_n 51 2 dX6_enough_51 rfl rfl ?_
            refine kb_RX6_259 (bs' := [wMo o rw fr kp tr ik tp tm mso bg en wd va gd rs mu rm ss msz msh mho mhn mhz kd nb tn tc bo ip, wMr G rw la ns (sd + min 12 (ns - sd)) to he sw nh ki (fTe (fun h_ => h_ < nh) la ki mi te ar to he sw sd (min 12 (ns - sd))) mi (fAr (fun h_ => h_ < nh) la ki mi te ar to he sw sd (min 12 (ns - sd))) z, wMr G tr la ns sd to he sw nh ki te mi ar z]) (rest := []) (st' := [.int (bI ((fMask (fun s_ => sw s_ = 1) ns) &&& ((fOr (fun h_ => hasP (nI i) (nI h_)) (fAr (fun h_ => h_ < nh) la ki mi te ar to he sw sd (min 12 (ns - sd))) nh) ^^^ (-1)) = 0))]) 52 (c_X6_isEnough l G (nI i) o rw fr kp tr ik tp tm mso bg en wd va gd rs mu rm ss msz msh mho mhn mhz kd nb tn tc bo ip la ns (sd + min 12 (ns - sd)) to he sw nh ki (fTe (fun h_ => h_ < nh) la ki mi te ar to he sw sd (min 12 (ns - sd))) mi (fAr (fun h_ => h_ < nh) la ki mi te ar to he sw sd (min 12 (ns - sd))) z (by first | omega | assumption) (by first | omega | assumption) (by first | omega | assumption)) [0, 1] 0 rfl rfl rfl [[o], [rw]] rfl rfl rfl rfl rfl rfl (Nat.le_of_ble_eq_true rfl) rfl dX6_enough_52 ?_
            refine J_ifB_eq (tgt := 60) 55 dX6_enough_55 (by decide) (fun c_6_ => ?_) (fun c_6_ => ?_)
            · skip
              refine J_iinc (v := nI (i + 1)) (lv' := [some (.ref o), some (.int b), some (.int (nI (i + 1)))]) 60 dX6_enough_60 rfl (nI_add _ 1) (by decide) rfl ?_
              refine J_goto (tgt := 22) 63 dX6_enough_63 (by decide) ?_
              exact ih_22_ (i + 1) b (by omega) (by first | exact Nat.zero_le _ | omega) (by first | exact fEm_t hb1 (by assumption) (Or.inl (by assumption)) | exact fEm_t hb1 (by assumption) (Or.inr (Int32.not_le.mp (by assumption))) | exact fEm_f hb1 (fun z_ => absurd z_.2 (by assumption)) | exact fEm_f hb1 (fun z_ => z_.1.elim (fun y_ => absurd y_ (by first | assumption | exact Int32.not_lt.mpr (by assumption))) (fun y_ => Int32.not_le.mpr y_ (by assumption))) | rfl)
            · skip
              refine J_iload_n 58 2 dX6_enough_58 rfl rfl ?_
              refine J_istore_n (lv' := [some (.ref o), some (.int (nI i)), some (.int (nI i))]) 59 1 dX6_enough_59 rfl (by decide) rfl ?_
              refine J_iinc (v := nI (i + 1)) (lv' := [some (.ref o), some (.int (nI i)), some (.int (nI (i + 1)))]) 60 dX6_enough_60 rfl (nI_add _ 1) (by decide) rfl ?_
              refine J_goto (tgt := 22) 63 dX6_enough_63 (by decide) ?_
              exact ih_22_ (i + 1) (nI i) (by omega) (by first | exact Nat.zero_le _ | omega) (by first | exact fEm_t hb1 (by assumption) (Or.inl (by assumption)) | exact fEm_t hb1 (by assumption) (Or.inr (Int32.not_le.mp (by assumption))) | exact fEm_f hb1 (fun z_ => absurd z_.2 (by assumption)) | exact fEm_f hb1 (fun z_ => z_.1.elim (fun y_ => absurd y_ (by first | assumption | exact Int32.not_lt.mpr (by assumption))) (fun y_ => Int32.not_le.mpr y_ (by assumption))) | rfl)
  refine J_aload_n 0 0 dX6_enough_0 rfl rfl ?_
  refine g_789 (v := .ref rw) 1 0 rfl rfl dX6_enough_1 ?_
  refine J_aload_n 4 0 dX6_enough_4 rfl rfl ?_
  refine g_792 (v := .ref tr) 5 0 rfl rfl dX6_enough_5 ?_
  refine kb_RX6_173 (bs' := [wMo o rw fr kp tr ik tp tm mso bg en wd va gd rs mu rm ss msz msh mho mhn mhz kd nb tn tc bo ip, wMr G rw la ns sd to he sw nh ki te mi ar z, wMr G tr la ns sd to he sw nh ki te mi ar z]) (rest := []) (st' := []) 8 (c_X6_moveAll_r l G rw la ns sd to he sw nh ki te mi ar z tr t_la t_ns t_sd t_to t_he t_sw t_nh t_ki t_te t_mi t_ar t_z ) [1, 2] rfl rfl [[rw], [tr]] rfl rfl rfl rfl rfl rfl (Nat.le_of_ble_eq_true rfl) rfl dX6_enough_8 ?_
  refine J_aload_n 11 0 dX6_enough_11 rfl rfl ?_
  refine J_bipush (v := 12) 12 dX6_enough_12 rfl ?_
  refine kb_RX6_228 (bs' := [wMo o rw fr kp tr ik tp tm mso bg en wd va gd rs mu rm ss msz msh mho mhn mhz kd nb tn tc bo ip, wMr G rw la ns (sd + min 12 (ns - sd)) to he sw nh ki (fTe (fun h_ => h_ < nh) la ki mi te ar to he sw sd (min 12 (ns - sd))) mi (fAr (fun h_ => h_ < nh) la ki mi te ar to he sw sd (min 12 (ns - sd))) z, wMr G tr la ns sd to he sw nh ki te mi ar z]) (rest := []) (st' := [.int (nI (min 12 (ns - sd)))]) 14 (c_X6_says l G 12 o rw fr kp tr ik tp tm mso bg en wd va gd rs mu rm ss msz msh mho mhn mhz kd nb tn tc bo ip la ns sd to he sw nh ki te mi ar z (by first | omega | assumption) (by first | omega | assumption) (by first | omega | assumption) (by first | omega | assumption)) [0, 1] 0 rfl rfl rfl [[o], [rw]] rfl rfl rfl rfl rfl rfl (Nat.le_of_ble_eq_true rfl) rfl dX6_enough_14 ?_
  refine J_pop 17 dX6_enough_17 rfl ?_
  refine J_iconst (v := (-1)) 18 dX6_enough_18 rfl ?_
  refine J_istore_n (lv' := [some (.ref o), some (.int (-1)), none]) 19 1 dX6_enough_19 rfl (by decide) rfl ?_
  refine J_iconst (v := 0) 20 dX6_enough_20 rfl ?_
  refine J_istore_n (lv' := [some (.ref o), some (.int (-1)), some (.int 0)]) 21 2 dX6_enough_21 rfl (by decide) rfl ?_
  exact cut_22_ ((2 ^ nh - 0) + 1) 0 (-1) (Nat.lt_succ_self _) (by first | exact Nat.zero_le _ | omega) (by first | exact fEm_t hb1 (by assumption) (Or.inl (by assumption)) | exact fEm_t hb1 (by assumption) (Or.inr (Int32.not_le.mp (by assumption))) | exact fEm_f hb1 (fun z_ => absurd z_.2 (by assumption)) | exact fEm_f hb1 (fun z_ => z_.1.elim (fun y_ => absurd y_ (by first | assumption | exact Int32.not_lt.mpr (by assumption))) (fun y_ => Int32.not_le.mpr y_ (by assumption))) | rfl)
set_option maxRecDepth 100000 in
set_option maxHeartbeats 4000000 in
theorem c_X6_isSo (l : Launch) (G : Gd) (s : Nat) (h : Nat) (m : Nat) (tv : Int32) (o : Nat) (rw : Nat) (fr : Nat) (kp : Nat) (tr : Nat) (ik : Int32) (tp : Nat) (tm : Nat) (mso : Int32) (bg : Nat) (en : Nat) (wd : Int64) (va : Int32) (gd : Int32) (rs : Nat) (mu : Nat) (rm : Nat) (ss : Nat) (msz : Nat) (msh : Nat) (mho : Nat) (mhn : Nat) (mhz : Nat) (kd : Int32) (nb : Int32) (tn : Int32) (tc : Nat) (bo : Nat) (ip : Int32) (la : Nat → Int32) (ns : Nat) (sd : Nat) (to : Nat → Int32) (he : Nat → Int32) (sw : Nat → Int32) (nh : Nat) (ki : Nat → Int32) (te : Nat → Int32) (mi : Nat → Int32) (ar : Nat → Int32) (z : Int32) (t_la : Nat → Int32) (t_ns : Nat) (t_sd : Nat) (t_to : Nat → Int32) (t_he : Nat → Int32) (t_sw : Nat → Int32) (t_nh : Nat) (t_ki : Nat → Int32) (t_te : Nat → Int32) (t_mi : Nat → Int32) (t_ar : Nat → Int32) (t_z : Int32) (szf : Nat → Int32) (shf : Nat → Int64) (hnh : nh ≤ 8) (hns : ns ≤ 12) (hsd : sd ≤ ns) (hh : h < nh) (hs : s ≤ 3) (hm : m ≤ 40) (hsz : szf s = nI m) (htv : te h = tv) : Ct l G yX6_isSo cX6_isSo 6 (some (FieldType.boolean)) 3 [.ref o, .int (nI s), .int (nI h)] (wF [wMo o rw fr kp tr ik tp tm mso bg en wd va gd rs mu rm ss msz msh mho mhn mhz kd nb tn tc bo ip, wMr G rw la ns sd to he sw nh ki te mi ar z, wMr G tr t_la t_ns t_sd t_to t_he t_sw t_nh t_ki t_te t_mi t_ar t_z, wI G msz 4 szf, wJ G msh 160 shf]) (some (.int (bI (∀ i_, i_ < min m (ns - sd) → fOkS (fun i_ => shf (40 * s + i_)) la (ki h) (mi h) to he sw sd (tv, ar h) i_)))) (wF [wMo o rw fr kp tr ik tp tm mso bg en wd va gd rs mu rm ss msz msh mho mhn mhz kd nb tn tc bo ip, wMr G rw t_la t_ns t_sd t_to t_he t_sw t_nh t_ki t_te t_mi t_ar t_z, wMr G tr t_la t_ns t_sd t_to t_he t_sw t_nh t_ki t_te t_mi t_ar t_z, wI G msz 4 szf, wJ G msh 160 shf]) := by
  refine Ct.of "GooseArmsModel" [some (.ref o), some (.int (nI s)), some (.int (nI h)), none, none, none] (by decide +kernel) rfl (Nat.le_of_ble_eq_true rfl) rfl ?_
  have cut_5_ : ∀ (n_5_ : Nat) (i : Nat) (is1 : Int32) (te1 : Nat → Int32) (ar1 : Nat → Int32) (sd1 : Nat), (min m (ns - sd) - i < n_5_) → (hi : i ≤ min m (ns - sd)) → (hte : te1 = fTe (fun h_ => h_ < nh) la ki mi te ar to he sw sd i) → (har : ar1 = (fAr (fun h_ => h_ < nh) la ki mi te ar to he sw sd (i))) → (hs1 : sd1 = sd + i) → (hok : (is1 = 1 ∧ ∀ j, j < i → fOkS (fun i_ => shf (40 * s + i_)) la (ki h) (mi h) to he sw sd (tv, ar h) j) ∨ (is1 = 0 ∧ ¬ ∀ j, j < i → fOkS (fun i_ => shf (40 * s + i_)) la (ki h) (mi h) to he sw sd (tv, ar h) j)) → J l G (bd G 3 (some (FieldType.boolean)) (some (.int (bI (∀ i_, i_ < min m (ns - sd) → fOkS (fun i_ => shf (40 * s + i_)) la (ki h) (mi h) to he sw sd (tv, ar h) i_)))) (wF [wMo o rw fr kp tr ik tp tm mso bg en wd va gd rs mu rm ss msz msh mho mhn mhz kd nb tn tc bo ip, wMr G rw t_la t_ns t_sd t_to t_he t_sw t_nh t_ki t_te t_mi t_ar t_z, wMr G tr t_la t_ns t_sd t_to t_he t_sw t_nh t_ki t_te t_mi t_ar t_z, wI G msz 4 szf, wJ G msh 160 shf])) cX6_isSo 6 "GooseArmsModel" 5 [some (.ref o), some (.int (nI s)), some (.int (nI h)), some (.int is1), some (.int (nI i)), none] [] (wF [wMo o rw fr kp tr ik tp tm mso bg en wd va gd rs mu rm ss msz msh mho mhn mhz kd nb tn tc bo ip, wMr G rw la ns sd1 to he sw nh ki te1 mi ar1 z, wMr G tr t_la t_ns t_sd t_to t_he t_sw t_nh t_ki t_te t_mi t_ar t_z, wI G msz 4 szf, wJ G msh 160 shf]) := by
    intro n_5_
    induction n_5_ with
    | zero => intro i is1 te1 ar1 sd1 m_5_; exact absurd m_5_ (Nat.not_lt_zero _)
    | succ n_5_ ih_5_ =>
      intro i is1 te1 ar1 sd1 m_5_ hi hte har hs1 hok
      refine J_iload 5 dX6_isSo_5 rfl ?_
      refine J_aload_n 7 0 dX6_isSo_7 rfl rfl ?_
      refine g_806 (v := .ref msz) 8 0 rfl rfl dX6_isSo_8 ?_
      refine J_iload_n 11 1 dX6_isSo_11 rfl rfl ?_
      refine J_iald 12 3 s rfl rfl (by omega) (by decide) dX6_isSo_12 ?_
      refine J_topi (y := nI m) 13 hsz ?_
      refine J_icmp_ge (tgt := 88) 13 dX6_isSo_13 (by decide) (fun c_1_ => ?_) (fun c_1_ => ?_)
      · skip
        have c_1_ : m ≤ i := (nI_leI (a := m) (b := i) (by omega) (by omega)).mp c_1_
        refine J_aload_n 88 0 dX6_isSo_88 rfl rfl ?_
        refine g_792 (v := .ref tr) 89 0 rfl rfl dX6_isSo_89 ?_
        refine J_aload_n 92 0 dX6_isSo_92 rfl rfl ?_
        refine g_789 (v := .ref rw) 93 0 rfl rfl dX6_isSo_93 ?_
        refine kb_RX6_173 (bs' := [wMo o rw fr kp tr ik tp tm mso bg en wd va gd rs mu rm ss msz msh mho mhn mhz kd nb tn tc bo ip, wMr G rw t_la t_ns t_sd t_to t_he t_sw t_nh t_ki t_te t_mi t_ar t_z, wMr G tr t_la t_ns t_sd t_to t_he t_sw t_nh t_ki t_te t_mi t_ar t_z, wI G msz 4 szf, wJ G msh 160 shf]) (rest := []) (st' := []) 96 (c_X6_moveAll_r l G tr t_la t_ns t_sd t_to t_he t_sw t_nh t_ki t_te t_mi t_ar t_z rw la ns sd1 to he sw nh ki te1 mi ar1 z ) [2, 1] rfl rfl [[tr], [rw]] rfl rfl rfl rfl rfl rfl (Nat.le_of_ble_eq_true rfl) rfl dX6_isSo_96 ?_
        refine J_iload_n 99 3 dX6_isSo_99 rfl rfl ?_
        exact J_zret 100 (by rcases hok with ⟨e_, -⟩ | ⟨e_, -⟩ <;> (rw [e_]; rfl)) dX6_isSo_100 (congrArg (fun x_ => some (Value.int x_)) (by rcases hok with ⟨e_, a_⟩ | ⟨e_, a_⟩ <;> first | exact e_.trans (bI_f (fun z_ => a_ (fun j hj => z_ j (by omega)))).symm | exact e_.trans (bI_t (fun j hj => a_ j (by omega))).symm | exact absurd (e_.symm.trans (by assumption : is1 = 0)) (by decide))) rfl
      · skip
        have c_1_ : ¬ m ≤ i := fun z_ => c_1_ ((nI_leI (a := m) (b := i) (by omega) (by omega)).mpr z_)
        refine J_aload_n 16 0 dX6_isSo_16 rfl rfl ?_
        refine kb_RX6_209 (bs' := [wMo o rw fr kp tr ik tp tm mso bg en wd va gd rs mu rm ss msz msh mho mhn mhz kd nb tn tc bo ip, wMr G rw la ns sd1 to he sw nh ki te1 mi ar1 z, wMr G tr t_la t_ns t_sd t_to t_he t_sw t_nh t_ki t_te t_mi t_ar t_z, wI G msz 4 szf, wJ G msh 160 shf]) (rest := []) (st' := [.int (nI (ns - sd1))]) 17 (c_X6_leftMany l G o rw fr kp tr ik tp tm mso bg en wd va gd rs mu rm ss msz msh mho mhn mhz kd nb tn tc bo ip la ns sd1 to he sw nh ki te1 mi ar1 z (by omega)) [0, 1] 0 rfl rfl rfl [[o], [rw]] rfl rfl rfl rfl rfl rfl (Nat.le_of_ble_eq_true rfl) rfl dX6_isSo_17 ?_
        refine J_if_le (tgt := 88) 20 dX6_isSo_20 (by decide) (fun c_2_ => ?_) (fun c_2_ => ?_)
        · skip
          have c_2_ : (ns - sd1) ≤ 0 := (nI_leI (a := (ns - sd1)) (b := 0) (by omega) (by omega)).mp c_2_
          refine J_aload_n 88 0 dX6_isSo_88 rfl rfl ?_
          refine g_792 (v := .ref tr) 89 0 rfl rfl dX6_isSo_89 ?_
          refine J_aload_n 92 0 dX6_isSo_92 rfl rfl ?_
          refine g_789 (v := .ref rw) 93 0 rfl rfl dX6_isSo_93 ?_
          refine kb_RX6_173 (bs' := [wMo o rw fr kp tr ik tp tm mso bg en wd va gd rs mu rm ss msz msh mho mhn mhz kd nb tn tc bo ip, wMr G rw t_la t_ns t_sd t_to t_he t_sw t_nh t_ki t_te t_mi t_ar t_z, wMr G tr t_la t_ns t_sd t_to t_he t_sw t_nh t_ki t_te t_mi t_ar t_z, wI G msz 4 szf, wJ G msh 160 shf]) (rest := []) (st' := []) 96 (c_X6_moveAll_r l G tr t_la t_ns t_sd t_to t_he t_sw t_nh t_ki t_te t_mi t_ar t_z rw la ns sd1 to he sw nh ki te1 mi ar1 z ) [2, 1] rfl rfl [[tr], [rw]] rfl rfl rfl rfl rfl rfl (Nat.le_of_ble_eq_true rfl) rfl dX6_isSo_96 ?_
          refine J_iload_n 99 3 dX6_isSo_99 rfl rfl ?_
          exact J_zret 100 (by rcases hok with ⟨e_, -⟩ | ⟨e_, -⟩ <;> (rw [e_]; rfl)) dX6_isSo_100 (congrArg (fun x_ => some (Value.int x_)) (by rcases hok with ⟨e_, a_⟩ | ⟨e_, a_⟩ <;> first | exact e_.trans (bI_f (fun z_ => a_ (fun j hj => z_ j (by omega)))).symm | exact e_.trans (bI_t (fun j hj => a_ j (by omega))).symm | exact absurd (e_.symm.trans (by assumption : is1 = 0)) (by decide))) rfl
        · skip
          have c_2_ : ¬ (ns - sd1) ≤ 0 := fun z_ => c_2_ ((nI_leI (a := (ns - sd1)) (b := 0) (by omega) (by omega)).mpr z_)
          refine J_iload_n 23 3 dX6_isSo_23 rfl rfl ?_
          refine J_if_eq (tgt := 88) 24 dX6_isSo_24 (by decide) (fun c_3_ => ?_) (fun c_3_ => ?_)
          · skip
            refine J_aload_n 88 0 dX6_isSo_88 rfl rfl ?_
            refine g_792 (v := .ref tr) 89 0 rfl rfl dX6_isSo_89 ?_
            refine J_aload_n 92 0 dX6_isSo_92 rfl rfl ?_
            refine g_789 (v := .ref rw) 93 0 rfl rfl dX6_isSo_93 ?_
            refine kb_RX6_173 (bs' := [wMo o rw fr kp tr ik tp tm mso bg en wd va gd rs mu rm ss msz msh mho mhn mhz kd nb tn tc bo ip, wMr G rw t_la t_ns t_sd t_to t_he t_sw t_nh t_ki t_te t_mi t_ar t_z, wMr G tr t_la t_ns t_sd t_to t_he t_sw t_nh t_ki t_te t_mi t_ar t_z, wI G msz 4 szf, wJ G msh 160 shf]) (rest := []) (st' := []) 96 (c_X6_moveAll_r l G tr t_la t_ns t_sd t_to t_he t_sw t_nh t_ki t_te t_mi t_ar t_z rw la ns sd1 to he sw nh ki te1 mi ar1 z ) [2, 1] rfl rfl [[tr], [rw]] rfl rfl rfl rfl rfl rfl (Nat.le_of_ble_eq_true rfl) rfl dX6_isSo_96 ?_
            refine J_iload_n 99 3 dX6_isSo_99 rfl rfl ?_
            exact J_zret 100 (by rcases hok with ⟨e_, -⟩ | ⟨e_, -⟩ <;> (rw [e_]; rfl)) dX6_isSo_100 (congrArg (fun x_ => some (Value.int x_)) (by rcases hok with ⟨e_, a_⟩ | ⟨e_, a_⟩ <;> first | exact e_.trans (bI_f (fun z_ => a_ (fun j hj => z_ j (by omega)))).symm | exact e_.trans (bI_t (fun j hj => a_ j (by omega))).symm | exact absurd (e_.symm.trans (by assumption : is1 = 0)) (by decide))) rfl
          · skip
            have ha_ := (hok.resolve_right (fun z_ => absurd z_.1 (by assumption))).2
            refine J_aload_n 27 0 dX6_isSo_27 rfl rfl ?_
            refine J_iconst (v := (-1)) 28 dX6_isSo_28 rfl ?_
            refine kb_RX6_225 (bs' := [wMo o rw fr kp tr ik tp tm mso bg en wd va gd rs mu rm ss msz msh mho mhn mhz kd nb tn tc bo ip, wMr G rw la ns (sd1 + 1) to he sw nh ki (fSel (fun h_ => h_ < nh ∧ (fun h_ => nI h_ = (-1) ∨ fUp la ki mi te1 to he sw sd1 h_) h_) (fun h_ => heldI (te1 h_ - fWears (ki h_) (la 2))) te1) mi (fSel (fun h_ => h_ < nh ∧ (fun h_ => nI h_ = (-1) ∨ fUp la ki mi te1 to he sw sd1 h_) h_) (fun h_ => ar1 h_ ||| onlyI (nI sd1)) ar1) z, wMr G tr t_la t_ns t_sd t_to t_he t_sw t_nh t_ki t_te t_mi t_ar t_z, wI G msz 4 szf, wJ G msh 160 shf]) (rest := []) (st' := [.int (fMask (fun h_ => nI h_ = (-1) ∨ fUp la ki mi te1 to he sw sd1 h_) nh)]) 29 (c_X6_isSaid l G (-1) o rw fr kp tr ik tp tm mso bg en wd va gd rs mu rm ss msz msh mho mhn mhz kd nb tn tc bo ip la ns sd1 to he sw nh ki te1 mi ar1 z (by first | omega | assumption) (by first | omega | assumption) (by omega)) [0, 1] 0 rfl rfl rfl [[o], [rw]] rfl rfl rfl rfl rfl rfl (Nat.le_of_ble_eq_true rfl) rfl dX6_isSo_29 ?_
            refine J_iload_n 32 2 dX6_isSo_32 rfl rfl ?_
            refine J_ishr 33 dX6_isSo_33 ?_
            refine J_iconst (v := 1) 34 dX6_isSo_34 rfl ?_
            refine J_iand 35 dX6_isSo_35 ?_
            refine J_topi (y := bI (fUpAt la (ki h) (mi h) to he sw sd i (tv, ar h))) 36 (mS_bit hh hnh ((or_iff_right (nI_m1 (by omega))).trans ((fUp_at (ar := ar) (L := (fun h_ => h_ < nh)) hte hs1 hh).trans (by rw [htv])))) ?_
            refine J_istore (lv' := [some (.ref o), some (.int (nI s)), some (.int (nI h)), some (.int is1), some (.int (nI i)), some (.int (bI (fUpAt la (ki h) (mi h) to he sw sd i (tv, ar h))))]) 36 dX6_isSo_36 (by decide) rfl ?_
            refine J_aload_n 38 0 dX6_isSo_38 rfl rfl ?_
            refine g_807 (v := .ref msh) 39 0 rfl rfl dX6_isSo_39 ?_
            refine J_bipush (v := 40) 42 dX6_isSo_42 rfl ?_
            refine J_iload_n 44 1 dX6_isSo_44 rfl rfl ?_
            refine J_imul 45 dX6_isSo_45 ?_
            refine J_topi (y := nI (40 * s)) 46 (pk_mul 40 s) ?_
            refine J_iload 46 dX6_isSo_46 rfl ?_
            refine J_iadd 48 dX6_isSo_48 ?_
            refine J_topi (y := nI ((40 * s) + i)) 49 (nI_add (40 * s) i) ?_
            refine J_lald 49 4 ((40 * s) + i) rfl rfl (by omega) (by decide) dX6_isSo_49 ?_
            refine J_ldc2 (v := (-1)) 50 w_902 dX6_isSo_50 ?_
            refine J_lcmp 53 dX6_isSo_53 ?_
            refine J_if_eq (tgt := 76) 54 dX6_isSo_54 (by decide) (fun c_4_ => ?_) (fun c_4_ => ?_)
            · skip
              refine J_iconst (v := 1) 76 dX6_isSo_76 rfl ?_
              refine J_goto (tgt := 81) 77 dX6_isSo_77 (by decide) ?_
              refine J_istore_n (lv' := [some (.ref o), some (.int (nI s)), some (.int (nI h)), some (.int 1), some (.int (nI i)), some (.int (bI (fUpAt la (ki h) (mi h) to he sw sd i (tv, ar h))))]) 81 3 dX6_isSo_81 rfl (by decide) rfl ?_
              refine J_iinc (v := nI (i + 1)) (lv' := [some (.ref o), some (.int (nI s)), some (.int (nI h)), some (.int 1), some (.int (nI (i + 1))), some (.int (bI (fUpAt la (ki h) (mi h) to he sw sd i (tv, ar h))))]) 82 dX6_isSo_82 rfl (nI_add _ 1) (by decide) rfl ?_
              refine J_goto (tgt := 5) 85 dX6_isSo_85 (by decide) ?_
              refine J_mask (lv' := [some (.ref o), some (.int (nI s)), some (.int (nI h)), some (.int 1), some (.int (nI (i + 1))), none]) 5 [true, true, true, true, true, false] rfl ?_
              exact ih_5_ (i + 1) 1 (fSel (fun h_ => h_ < nh ∧ (fun h_ => nI h_ = (-1) ∨ fUp la ki mi te1 to he sw sd1 h_) h_) (fun h_ => heldI (te1 h_ - fWears (ki h_) (la 2))) te1) (fSel (fun h_ => h_ < nh ∧ (fun h_ => nI h_ = (-1) ∨ fUp la ki mi te1 to he sw sd1 h_) h_) (fun h_ => ar1 h_ ||| onlyI (nI sd1)) ar1) (sd1 + 1) (by omega) (by first | assumption | omega | rfl) (by first | exact fTe_0 | exact (fTA_s hte har hs1 (mQ_iff hnh)).1) (by first | exact fAr_0 | exact (fTA_s hte har hs1 (mQ_iff hnh)).2) (by first | assumption | omega | rfl) (by first | exact Or.inl ⟨rfl, fun j hj => absurd hj (Nat.not_lt_zero _)⟩ | exact Or.inl ⟨rfl, lt_s ha_ (mb_ok1 (by assumption))⟩ | exact Or.inl ⟨rfl, lt_s ha_ (mS_ok (by assumption))⟩ | exact Or.inr ⟨rfl, fun z_ => mS_no (it := fun i_ => shf (40 * s + i_)) (i := i) (by assumption) (by assumption) (z_ i (Nat.lt_succ_self _))⟩)
            · skip
              refine J_aload_n 57 0 dX6_isSo_57 rfl rfl ?_
              refine g_807 (v := .ref msh) 58 0 rfl rfl dX6_isSo_58 ?_
              refine J_bipush (v := 40) 61 dX6_isSo_61 rfl ?_
              refine J_iload_n 63 1 dX6_isSo_63 rfl rfl ?_
              refine J_imul 64 dX6_isSo_64 ?_
              refine J_topi (y := nI (40 * s)) 65 (pk_mul 40 s) ?_
              refine J_iload 65 dX6_isSo_65 rfl ?_
              refine J_iadd 67 dX6_isSo_67 ?_
              refine J_topi (y := nI ((40 * s) + i)) 68 (nI_add (40 * s) i) ?_
              refine J_lald 68 4 ((40 * s) + i) rfl rfl (by omega) (by decide) dX6_isSo_68 ?_
              refine J_iload 69 dX6_isSo_69 rfl ?_
              refine J_i2l 71 dX6_isSo_71 ?_
              refine J_lcmp 72 dX6_isSo_72 ?_
              refine J_if_ne (tgt := 80) 73 dX6_isSo_73 (by decide) (fun c_5_ => ?_) (fun c_5_ => ?_)
              · skip
                refine J_iconst (v := 0) 80 dX6_isSo_80 rfl ?_
                refine J_istore_n (lv' := [some (.ref o), some (.int (nI s)), some (.int (nI h)), some (.int 0), some (.int (nI i)), some (.int (bI (fUpAt la (ki h) (mi h) to he sw sd i (tv, ar h))))]) 81 3 dX6_isSo_81 rfl (by decide) rfl ?_
                refine J_iinc (v := nI (i + 1)) (lv' := [some (.ref o), some (.int (nI s)), some (.int (nI h)), some (.int 0), some (.int (nI (i + 1))), some (.int (bI (fUpAt la (ki h) (mi h) to he sw sd i (tv, ar h))))]) 82 dX6_isSo_82 rfl (nI_add _ 1) (by decide) rfl ?_
                refine J_goto (tgt := 5) 85 dX6_isSo_85 (by decide) ?_
                refine J_mask (lv' := [some (.ref o), some (.int (nI s)), some (.int (nI h)), some (.int 0), some (.int (nI (i + 1))), none]) 5 [true, true, true, true, true, false] rfl ?_
                exact ih_5_ (i + 1) 0 (fSel (fun h_ => h_ < nh ∧ (fun h_ => nI h_ = (-1) ∨ fUp la ki mi te1 to he sw sd1 h_) h_) (fun h_ => heldI (te1 h_ - fWears (ki h_) (la 2))) te1) (fSel (fun h_ => h_ < nh ∧ (fun h_ => nI h_ = (-1) ∨ fUp la ki mi te1 to he sw sd1 h_) h_) (fun h_ => ar1 h_ ||| onlyI (nI sd1)) ar1) (sd1 + 1) (by omega) (by first | assumption | omega | rfl) (by first | exact fTe_0 | exact (fTA_s hte har hs1 (mQ_iff hnh)).1) (by first | exact fAr_0 | exact (fTA_s hte har hs1 (mQ_iff hnh)).2) (by first | assumption | omega | rfl) (by first | exact Or.inl ⟨rfl, fun j hj => absurd hj (Nat.not_lt_zero _)⟩ | exact Or.inl ⟨rfl, lt_s ha_ (mb_ok1 (by assumption))⟩ | exact Or.inl ⟨rfl, lt_s ha_ (mS_ok (by assumption))⟩ | exact Or.inr ⟨rfl, fun z_ => mS_no (it := fun i_ => shf (40 * s + i_)) (i := i) (by assumption) (by assumption) (z_ i (Nat.lt_succ_self _))⟩)
              · skip
                refine J_iconst (v := 1) 76 dX6_isSo_76 rfl ?_
                refine J_goto (tgt := 81) 77 dX6_isSo_77 (by decide) ?_
                refine J_istore_n (lv' := [some (.ref o), some (.int (nI s)), some (.int (nI h)), some (.int 1), some (.int (nI i)), some (.int (bI (fUpAt la (ki h) (mi h) to he sw sd i (tv, ar h))))]) 81 3 dX6_isSo_81 rfl (by decide) rfl ?_
                refine J_iinc (v := nI (i + 1)) (lv' := [some (.ref o), some (.int (nI s)), some (.int (nI h)), some (.int 1), some (.int (nI (i + 1))), some (.int (bI (fUpAt la (ki h) (mi h) to he sw sd i (tv, ar h))))]) 82 dX6_isSo_82 rfl (nI_add _ 1) (by decide) rfl ?_
                refine J_goto (tgt := 5) 85 dX6_isSo_85 (by decide) ?_
                refine J_mask (lv' := [some (.ref o), some (.int (nI s)), some (.int (nI h)), some (.int 1), some (.int (nI (i + 1))), none]) 5 [true, true, true, true, true, false] rfl ?_
                exact ih_5_ (i + 1) 1 (fSel (fun h_ => h_ < nh ∧ (fun h_ => nI h_ = (-1) ∨ fUp la ki mi te1 to he sw sd1 h_) h_) (fun h_ => heldI (te1 h_ - fWears (ki h_) (la 2))) te1) (fSel (fun h_ => h_ < nh ∧ (fun h_ => nI h_ = (-1) ∨ fUp la ki mi te1 to he sw sd1 h_) h_) (fun h_ => ar1 h_ ||| onlyI (nI sd1)) ar1) (sd1 + 1) (by omega) (by first | assumption | omega | rfl) (by first | exact fTe_0 | exact (fTA_s hte har hs1 (mQ_iff hnh)).1) (by first | exact fAr_0 | exact (fTA_s hte har hs1 (mQ_iff hnh)).2) (by first | assumption | omega | rfl) (by first | exact Or.inl ⟨rfl, fun j hj => absurd hj (Nat.not_lt_zero _)⟩ | exact Or.inl ⟨rfl, lt_s ha_ (mb_ok1 (by assumption))⟩ | exact Or.inl ⟨rfl, lt_s ha_ (mS_ok (by assumption))⟩ | exact Or.inr ⟨rfl, fun z_ => mS_no (it := fun i_ => shf (40 * s + i_)) (i := i) (by assumption) (by assumption) (z_ i (Nat.lt_succ_self _))⟩)
  refine J_iconst (v := 1) 0 dX6_isSo_0 rfl ?_
  refine J_istore_n (lv' := [some (.ref o), some (.int (nI s)), some (.int (nI h)), some (.int 1), none, none]) 1 3 dX6_isSo_1 rfl (by decide) rfl ?_
  refine J_iconst (v := 0) 2 dX6_isSo_2 rfl ?_
  refine J_istore (lv' := [some (.ref o), some (.int (nI s)), some (.int (nI h)), some (.int 1), some (.int 0), none]) 3 dX6_isSo_3 (by decide) rfl ?_
  exact cut_5_ ((min m (ns - sd) - 0) + 1) 0 1 te ar sd (Nat.lt_succ_self _) (by first | assumption | omega | rfl) (by first | exact fTe_0 | exact (fTA_s hte har hs1 (mQ_iff hnh)).1) (by first | exact fAr_0 | exact (fTA_s hte har hs1 (mQ_iff hnh)).2) (by first | assumption | omega | rfl) (by first | exact Or.inl ⟨rfl, fun j hj => absurd hj (Nat.not_lt_zero _)⟩ | exact Or.inl ⟨rfl, lt_s ha_ (mb_ok1 (by assumption))⟩ | exact Or.inl ⟨rfl, lt_s ha_ (mS_ok (by assumption))⟩ | exact Or.inr ⟨rfl, fun z_ => mS_no (it := fun i_ => shf (40 * s + i_)) (i := i) (by assumption) (by assumption) (z_ i (Nat.lt_succ_self _))⟩)
set_option maxRecDepth 100000 in
set_option maxHeartbeats 4000000 in
theorem c_X6_fits_bad (l : Launch) (G : Gd) (s : Int32) (h : Int32) (w : Int32) (o : Nat) (rw : Nat) (fr : Nat) (kp : Nat) (tr : Nat) (ik : Int32) (tp : Nat) (tm : Nat) (mso : Int32) (bg : Nat) (en : Nat) (wd : Int64) (va : Int32) (gd : Int32) (rs : Nat) (mu : Nat) (rm : Nat) (ss : Nat) (msz : Nat) (msh : Nat) (mho : Nat) (mhn : Nat) (mhz : Nat) (kd : Int32) (nb : Int32) (tn : Int32) (tc : Nat) (bo : Nat) (ip : Int32) (la : Nat → Int32) (ns : Nat) (sd : Nat) (to : Nat → Int32) (he : Nat → Int32) (sw : Nat → Int32) (nh : Nat) (ki : Nat → Int32) (te : Nat → Int32) (mi : Nat → Int32) (ar : Nat → Int32) (z : Int32) (hw : ¬ ((0 ≤ s ∧ s ≤ 3) ∧ (0 ≤ h ∧ h ≤ nI nh - 1) ∧ (0 ≤ w ∧ w ≤ 1))) : Ct l G yX6_fits cX6_fits 8 (some (FieldType.int)) 4 [.ref o, .int s, .int h, .int w] (wF [wMo o rw fr kp tr ik tp tm mso bg en wd va gd rs mu rm ss msz msh mho mhn mhz kd nb tn tc bo ip, wMr G rw la ns sd to he sw nh ki te mi ar z]) (some (.int (-1))) (wF [wMo o rw fr kp tr ik tp tm mso bg en wd va gd rs mu rm ss msz msh mho mhn mhz kd nb tn tc bo ip, wMr G rw la ns sd to he sw nh ki te mi ar z]) := by
  refine Ct.of "GooseArmsModel" [some (.ref o), some (.int s), some (.int h), some (.int w), none, none, none, none] (by decide +kernel) rfl (Nat.le_of_ble_eq_true rfl) rfl ?_
  refine J_iload_n 0 1 dX6_fits_0 rfl rfl ?_
  refine kb_RX6_262 (bs' := [wMo o rw fr kp tr ik tp tm mso bg en wd va gd rs mu rm ss msz msh mho mhn mhz kd nb tn tc bo ip, wMr G rw la ns sd to he sw nh ki te mi ar z]) (rest := []) (st' := [.int (bI (0 ≤ s ∧ s ≤ 3))]) 1 (c_X6_isShelf l G s ) [] rfl rfl [] rfl rfl rfl rfl rfl rfl (Nat.le_of_ble_eq_true rfl) rfl dX6_fits_1 ?_
  refine J_ifB_eq (tgt := 24) 4 dX6_fits_4 (by decide) (fun c_1_ => ?_) (fun c_1_ => ?_)
  · skip
    refine J_iconst (v := (-1)) 24 dX6_fits_24 rfl ?_
    exact J_iret 25 dX6_fits_25 rfl rfl
  · skip
    refine J_aload_n 7 0 dX6_fits_7 rfl rfl ?_
    refine J_iload_n 8 2 dX6_fits_8 rfl rfl ?_
    refine kb_RX6_206 (bs' := [wMo o rw fr kp tr ik tp tm mso bg en wd va gd rs mu rm ss msz msh mho mhn mhz kd nb tn tc bo ip, wMr G rw la ns sd to he sw nh ki te mi ar z]) (rest := []) (st' := [.int (bI (0 ≤ h ∧ h ≤ nI nh - 1))]) 9 (c_X6_isOne l G h o rw fr kp tr ik tp tm mso bg en wd va gd rs mu rm ss msz msh mho mhn mhz kd nb tn tc bo ip la ns sd to he sw nh ki te mi ar z ) [0, 1] 0 rfl rfl rfl [[o], [rw]] rfl rfl rfl rfl rfl rfl (Nat.le_of_ble_eq_true rfl) rfl dX6_fits_9 ?_
    refine J_ifB_eq (tgt := 24) 12 dX6_fits_12 (by decide) (fun c_2_ => ?_) (fun c_2_ => ?_)
    · skip
      refine J_iconst (v := (-1)) 24 dX6_fits_24 rfl ?_
      exact J_iret 25 dX6_fits_25 rfl rfl
    · skip
      refine J_iload_n 15 3 dX6_fits_15 rfl rfl ?_
      refine J_iconst (v := 0) 16 dX6_fits_16 rfl ?_
      refine J_iconst (v := 1) 17 dX6_fits_17 rfl ?_
      refine kb_RX6_57 (bs' := [wMo o rw fr kp tr ik tp tm mso bg en wd va gd rs mu rm ss msz msh mho mhn mhz kd nb tn tc bo ip, wMr G rw la ns sd to he sw nh ki te mi ar z]) (rest := []) (st' := [.int (bI (0 ≤ w ∧ w ≤ 1))]) 18 (c_X6_in l G w 0 1 ) [] rfl rfl [] rfl rfl rfl rfl rfl rfl (Nat.le_of_ble_eq_true rfl) rfl dX6_fits_18 ?_
      refine J_ifB_ne (tgt := 26) 21 dX6_fits_21 (by decide) (fun c_3_ => ?_) (fun c_3_ => ?_)
      · skip
        exact absurd ⟨by assumption, by assumption, by assumption⟩ hw
      · skip
        refine J_iconst (v := (-1)) 24 dX6_fits_24 rfl ?_
        exact J_iret 25 dX6_fits_25 rfl rfl
set_option maxRecDepth 100000 in
set_option maxHeartbeats 4000000 in
theorem c_X6_fits_m0 (l : Launch) (G : Gd) (s : Nat) (h : Nat) (o : Nat) (rw : Nat) (fr : Nat) (kp : Nat) (tr : Nat) (ik : Int32) (tp : Nat) (tm : Nat) (mso : Int32) (bg : Nat) (en : Nat) (wd : Int64) (va : Int32) (gd : Int32) (rs : Nat) (mu : Nat) (rm : Nat) (ss : Nat) (msz : Nat) (msh : Nat) (mho : Nat) (mhn : Nat) (mhz : Nat) (kd : Int32) (nb : Int32) (tn : Int32) (tc : Nat) (bo : Nat) (ip : Int32) (la : Nat → Int32) (ns : Nat) (sd : Nat) (to : Nat → Int32) (he : Nat → Int32) (sw : Nat → Int32) (nh : Nat) (ki : Nat → Int32) (te : Nat → Int32) (mi : Nat → Int32) (ar : Nat → Int32) (z : Int32) (ssf : Nat → Int32) (hh : h < nh) (hnh : nh ≤ 8) (hs : s ≤ 3) (hso : ssf s < 0) : Ct l G yX6_fits cX6_fits 8 (some (FieldType.int)) 4 [.ref o, .int (nI s), .int (nI h), .int 0] (wF [wMo o rw fr kp tr ik tp tm mso bg en wd va gd rs mu rm ss msz msh mho mhn mhz kd nb tn tc bo ip, wMr G rw la ns sd to he sw nh ki te mi ar z, wI G ss 4 ssf]) (some (.int (-11))) (wF [wMo o rw fr kp tr ik tp tm mso bg en wd va gd rs mu rm ss msz msh mho mhn mhz kd nb tn tc bo ip, wMr G rw la ns sd to he sw nh ki te mi ar z, wI G ss 4 ssf]) := by
  refine Ct.of "GooseArmsModel" [some (.ref o), some (.int (nI s)), some (.int (nI h)), some (.int 0), none, none, none, none] (by decide +kernel) rfl (Nat.le_of_ble_eq_true rfl) rfl ?_
  refine J_iload_n 0 1 dX6_fits_0 rfl rfl ?_
  refine kb_RX6_262 (bs' := [wMo o rw fr kp tr ik tp tm mso bg en wd va gd rs mu rm ss msz msh mho mhn mhz kd nb tn tc bo ip, wMr G rw la ns sd to he sw nh ki te mi ar z, wI G ss 4 ssf]) (rest := []) (st' := [.int 1]) 1 (c_X6_isShelf_t l G s (by first | omega | assumption)) [] rfl rfl [] rfl rfl rfl rfl rfl rfl (Nat.le_of_ble_eq_true rfl) rfl dX6_fits_1 ?_
  refine J_if_eq (tgt := 24) 4 dX6_fits_4 (by decide) (fun c_1_ => absurd c_1_ (by decide)) (fun _ => ?_)
  refine J_aload_n 7 0 dX6_fits_7 rfl rfl ?_
  refine J_iload_n 8 2 dX6_fits_8 rfl rfl ?_
  refine kb_RX6_206 (bs' := [wMo o rw fr kp tr ik tp tm mso bg en wd va gd rs mu rm ss msz msh mho mhn mhz kd nb tn tc bo ip, wMr G rw la ns sd to he sw nh ki te mi ar z, wI G ss 4 ssf]) (rest := []) (st' := [.int 1]) 9 (c_X6_isOne_t l G h o rw fr kp tr ik tp tm mso bg en wd va gd rs mu rm ss msz msh mho mhn mhz kd nb tn tc bo ip la ns sd to he sw nh ki te mi ar z (by assumption) (by omega)) [0, 1] 0 rfl rfl rfl [[o], [rw]] rfl rfl rfl rfl rfl rfl (Nat.le_of_ble_eq_true rfl) rfl dX6_fits_9 ?_
  refine J_if_eq (tgt := 24) 12 dX6_fits_12 (by decide) (fun c_2_ => absurd c_2_ (by decide)) (fun _ => ?_)
  refine J_iload_n 15 3 dX6_fits_15 rfl rfl ?_
  refine J_iconst (v := 0) 16 dX6_fits_16 rfl ?_
  refine J_iconst (v := 1) 17 dX6_fits_17 rfl ?_
  refine kb_RX6_57 (bs' := [wMo o rw fr kp tr ik tp tm mso bg en wd va gd rs mu rm ss msz msh mho mhn mhz kd nb tn tc bo ip, wMr G rw la ns sd to he sw nh ki te mi ar z, wI G ss 4 ssf]) (rest := []) (st' := [.int 1]) 18 (c_X6_in_t l G 0 0 1 (by decide)) [] rfl rfl [] rfl rfl rfl rfl rfl rfl (Nat.le_of_ble_eq_true rfl) rfl dX6_fits_18 ?_
  refine J_if_ne (tgt := 26) 21 dX6_fits_21 (by decide) (fun _ => ?_) (fun c_3_ => absurd c_3_ (by decide))
  refine J_aload_n 26 0 dX6_fits_26 rfl rfl ?_
  refine g_805 (v := .ref ss) 27 0 rfl rfl dX6_fits_27 ?_
  refine J_iload_n 30 1 dX6_fits_30 rfl rfl ?_
  refine J_iald 31 2 s rfl rfl (by omega) (by decide) dX6_fits_31 ?_
  refine J_if_ge (tgt := 38) 32 dX6_fits_32 (by decide) (fun c_4_ => ?_) (fun c_4_ => ?_)
  · skip
    exact absurd hso (Int32.not_lt.mpr c_4_)
  · skip
    refine J_bipush (v := (-11)) 35 dX6_fits_35 rfl ?_
    exact J_iret 37 dX6_fits_37 rfl rfl
set_option maxRecDepth 100000 in
set_option maxHeartbeats 4000000 in
theorem c_X6_fits_0 (l : Launch) (G : Gd) (s : Nat) (h : Nat) (m : Nat) (o : Nat) (rw : Nat) (fr : Nat) (kp : Nat) (tr : Nat) (ik : Int32) (tp : Nat) (tm : Nat) (mso : Int32) (bg : Nat) (en : Nat) (wd : Int64) (va : Int32) (gd : Int32) (rs : Nat) (mu : Nat) (rm : Nat) (ss : Nat) (msz : Nat) (msh : Nat) (mho : Nat) (mhn : Nat) (mhz : Nat) (kd : Int32) (nb : Int32) (tn : Int32) (tc : Nat) (bo : Nat) (ip : Int32) (la : Nat → Int32) (ns : Nat) (sd : Nat) (to : Nat → Int32) (he : Nat → Int32) (sw : Nat → Int32) (nh : Nat) (ki : Nat → Int32) (te : Nat → Int32) (mi : Nat → Int32) (ar : Nat → Int32) (z : Int32) (t_la : Nat → Int32) (t_ns : Nat) (t_sd : Nat) (t_to : Nat → Int32) (t_he : Nat → Int32) (t_sw : Nat → Int32) (t_nh : Nat) (t_ki : Nat → Int32) (t_te : Nat → Int32) (t_mi : Nat → Int32) (t_ar : Nat → Int32) (t_z : Int32) (ssf : Nat → Int32) (szf : Nat → Int32) (shf : Nat → Int64) (hh : h < nh) (hnh : nh ≤ 8) (hns : ns ≤ 12) (hsd : sd ≤ ns) (hs : s ≤ 3) (hso : ¬ ssf s < 0) (hm : m ≤ 40) (hsz : szf s = nI m) : CtP l G yX6_fits cX6_fits 8 (some (FieldType.int)) 4 [.ref o, .int (nI s), .int (nI h), .int 0] (wF [wMo o rw fr kp tr ik tp tm mso bg en wd va gd rs mu rm ss msz msh mho mhn mhz kd nb tn tc bo ip, wMr G rw la ns sd to he sw nh ki te mi ar z, wMr G tr t_la t_ns t_sd t_to t_he t_sw t_nh t_ki t_te t_mi t_ar t_z, wI G ss 4 ssf, wI G msz 4 szf, wJ G msh 160 shf]) (some (.int (nI ((fFit (fun t_ => ∀ i_, i_ < min m (ns - sd) → fOkS (fun i_ => shf (40 * s + i_)) la (ki h) (mi h) to he sw sd (nI t_, ar h) i_) 100).1)))) (fun w_ => ∃ (j_2_la : Nat → Int32) (j_2_ns : Nat) (j_2_sd : Nat) (j_2_to : Nat → Int32) (j_2_he : Nat → Int32) (j_2_sw : Nat → Int32) (j_2_nh : Nat) (j_2_ki : Nat → Int32) (j_2_te : Nat → Int32) (j_2_mi : Nat → Int32) (j_2_ar : Nat → Int32) (j_2_z : Int32), w_ = (wF [wMo o rw fr kp tr ik tp tm mso bg en wd va gd rs mu rm ss msz msh mho mhn mhz kd nb tn tc bo ip, wMr G rw la ns sd to he sw nh ki te mi ar z, wMr G tr j_2_la j_2_ns j_2_sd j_2_to j_2_he j_2_sw j_2_nh j_2_ki j_2_te j_2_mi j_2_ar j_2_z, wI G ss 4 ssf, wI G msz 4 szf, wJ G msh 160 shf])) := by
  refine CtP.of "GooseArmsModel" [some (.ref o), some (.int (nI s)), some (.int (nI h)), some (.int 0), none, none, none, none] (by decide +kernel) rfl (Nat.le_of_ble_eq_true rfl) rfl ?_
  have cut_60_ : ∀ (n_60_ : Nat) (k : Nat) (c : Nat) (m1 : Int32), (k < n_60_) → (hk : k ≤ 100) → (hf : fFit (fun t_ => ∀ i_, i_ < min m (ns - sd) → fOkS (fun i_ => shf (40 * s + i_)) la (ki h) (mi h) to he sw sd (nI t_, ar h) i_) (100 - k) = (c, m1)) → (hc : c ≤ 100 - k) → J l G (bdP G 4 (some (FieldType.int)) (some (.int (nI ((fFit (fun t_ => ∀ i_, i_ < min m (ns - sd) → fOkS (fun i_ => shf (40 * s + i_)) la (ki h) (mi h) to he sw sd (nI t_, ar h) i_) 100).1)))) (fun w_ => ∃ (j_2_la : Nat → Int32) (j_2_ns : Nat) (j_2_sd : Nat) (j_2_to : Nat → Int32) (j_2_he : Nat → Int32) (j_2_sw : Nat → Int32) (j_2_nh : Nat) (j_2_ki : Nat → Int32) (j_2_te : Nat → Int32) (j_2_mi : Nat → Int32) (j_2_ar : Nat → Int32) (j_2_z : Int32), w_ = (wF [wMo o rw fr kp tr ik tp tm mso bg en wd va gd rs mu rm ss msz msh mho mhn mhz kd nb tn tc bo ip, wMr G rw la ns sd to he sw nh ki te mi ar z, wMr G tr j_2_la j_2_ns j_2_sd j_2_to j_2_he j_2_sw j_2_nh j_2_ki j_2_te j_2_mi j_2_ar j_2_z, wI G ss 4 ssf, wI G msz 4 szf, wJ G msh 160 shf]))) cX6_fits 8 "GooseArmsModel" 60 [some (.ref o), some (.int (nI s)), some (.int (nI h)), some (.int 0), some (.int (nI c)), some (.int m1), some (.int (nI k - 1)), none] [] (wF [wMo o rw fr kp tr ik tp tm mso bg en wd va gd rs mu rm ss msz msh mho mhn mhz kd nb tn tc bo ip, wMr G rw la ns sd to he sw nh ki te mi ar z, wMr G tr la ns sd to he sw nh ki te mi ar z, wI G ss 4 ssf, wI G msz 4 szf, wJ G msh 160 shf]) := by
    intro n_60_
    induction n_60_ with
    | zero => intro k c m1 m_60_; exact absurd m_60_ (Nat.not_lt_zero _)
    | succ n_60_ ih_60_ =>
      intro k c m1 m_60_ hk hf hc
      refine J_iload 60 dX6_fits_60 rfl ?_
      refine J_if_lt (tgt := 116) 62 dX6_fits_62 (by decide) (fun c_1_ => ?_) (fun c_1_ => ?_)
      · skip
        have hk0_ := dn_0 hk c_1_
        refine J_iload_n 116 3 dX6_fits_116 rfl rfl ?_
        refine J_if_ne (tgt := 125) 117 dX6_fits_117 (by decide) (fun c_2_ => absurd c_2_ (by decide)) (fun _ => ?_)
        refine J_iload 120 dX6_fits_120 rfl ?_
        refine J_goto (tgt := 127) 122 dX6_fits_122 (by decide) ?_
        exact J_iretP 127 dX6_fits_127 (congrArg (fun x_ => some (Value.int x_)) (by subst hk0_; rw [show (100 : Nat) = 100 - 0 from rfl, hf])) ⟨la, ns, sd, to, he, sw, nh, ki, te, mi, ar, z, rfl⟩
      · skip
        have hk1_ := dn_1 hk c_1_
        refine J_aload_n 65 0 dX6_fits_65 rfl rfl ?_
        refine J_iload_n 66 2 dX6_fits_66 rfl rfl ?_
        refine J_iconst (v := 1) 67 dX6_fits_67 rfl ?_
        refine J_iload 68 dX6_fits_68 rfl ?_
        refine J_topi (y := nI (k - 1)) 70 (pk_sub (a := k) (b := 1) (by omega)) ?_
        refine kb_RX6_202 (bs' := [wMo o rw fr kp tr ik tp tm mso bg en wd va gd rs mu rm ss msz msh mho mhn mhz kd nb tn tc bo ip, wMr G rw la ns sd to he sw nh ki (upd te h (nI (k - 1))) mi ar z, wMr G tr la ns sd to he sw nh ki te mi ar z, wI G ss 4 ssf, wI G msz 4 szf, wJ G msh 160 shf]) (rest := []) (st' := []) 70 (c_X6_sets_1 l G h (nI (k - 1)) o rw fr kp tr ik tp tm mso bg en wd va gd rs mu rm ss msz msh mho mhn mhz kd nb tn tc bo ip la ns sd to he sw nh ki te mi ar z (by first | omega | assumption)) [0, 1] 0 rfl rfl rfl [[o], [rw]] rfl rfl rfl rfl rfl rfl (Nat.le_of_ble_eq_true rfl) rfl dX6_fits_70 ?_
        refine J_aload_n 73 0 dX6_fits_73 rfl rfl ?_
        refine J_iload_n 74 1 dX6_fits_74 rfl rfl ?_
        refine J_iload_n 75 2 dX6_fits_75 rfl rfl ?_
        refine kb_RX6_265 (bs' := [wMo o rw fr kp tr ik tp tm mso bg en wd va gd rs mu rm ss msz msh mho mhn mhz kd nb tn tc bo ip, wMr G rw la ns sd to he sw nh ki te mi ar z, wMr G tr la ns sd to he sw nh ki te mi ar z, wI G ss 4 ssf, wI G msz 4 szf, wJ G msh 160 shf]) (rest := []) (st' := [.int (bI (∀ i_, i_ < min m (ns - sd) → fOkS (fun i_ => shf (40 * s + i_)) la (ki h) (mi h) to he sw sd ((nI (k - 1)), ar h) i_))]) 76 (c_X6_isSo l G s h m (nI (k - 1)) o rw fr kp tr ik tp tm mso bg en wd va gd rs mu rm ss msz msh mho mhn mhz kd nb tn tc bo ip la ns sd to he sw nh ki (upd te h (nI (k - 1))) mi ar z la ns sd to he sw nh ki te mi ar z szf shf (by first | omega | assumption) (by first | omega | assumption) (by first | omega | assumption) (by first | omega | assumption) (by first | omega | assumption) (by first | omega | assumption) (by first | omega | assumption) pk_us) [0, 1, 2, 4, 5] 0 rfl rfl rfl [[o], [rw], [tr], [msz], [msh]] rfl rfl rfl rfl rfl rfl (Nat.le_of_ble_eq_true rfl) rfl dX6_fits_76 ?_
        refine J_istore (lv' := [some (.ref o), some (.int (nI s)), some (.int (nI h)), some (.int 0), some (.int (nI c)), some (.int m1), some (.int (nI k - 1)), some (.int (bI (∀ i_, i_ < min m (ns - sd) → fOkS (fun i_ => shf (40 * s + i_)) la (ki h) (mi h) to he sw sd ((nI (k - 1)), ar h) i_)))]) 79 dX6_fits_79 (by decide) rfl ?_
        refine J_iload 81 dX6_fits_81 rfl ?_
        refine J_iload 83 dX6_fits_83 rfl ?_
        refine J_ifB_eq (tgt := 92) 85 dX6_fits_85 (by decide) (fun c_3_ => ?_) (fun c_3_ => ?_)
        · skip
          refine J_iconst (v := 0) 92 dX6_fits_92 rfl ?_
          refine J_iadd 93 dX6_fits_93 ?_
          refine J_topi (y := nI (c + 0)) 94 (nI_add c 0) ?_
          refine J_istore (lv' := [some (.ref o), some (.int (nI s)), some (.int (nI h)), some (.int 0), some (.int (nI (c + 0))), some (.int m1), some (.int (nI k - 1)), some (.int (bI (∀ i_, i_ < min m (ns - sd) → fOkS (fun i_ => shf (40 * s + i_)) la (ki h) (mi h) to he sw sd ((nI (k - 1)), ar h) i_)))]) 94 dX6_fits_94 (by decide) rfl ?_
          refine J_iload 96 dX6_fits_96 rfl ?_
          refine J_ifB_eq (tgt := 106) 98 dX6_fits_98 (by decide) (fun c_4_ => ?_) (fun c_4_ => ?_)
          · skip
            refine J_iload 106 dX6_fits_106 rfl ?_
            refine J_istore (lv' := [some (.ref o), some (.int (nI s)), some (.int (nI h)), some (.int 0), some (.int (nI (c + 0))), some (.int m1), some (.int (nI k - 1)), some (.int (bI (∀ i_, i_ < min m (ns - sd) → fOkS (fun i_ => shf (40 * s + i_)) la (ki h) (mi h) to he sw sd ((nI (k - 1)), ar h) i_)))]) 108 dX6_fits_108 (by decide) rfl ?_
            refine J_iinc (v := nI (k - 1) - 1) (lv' := [some (.ref o), some (.int (nI s)), some (.int (nI h)), some (.int 0), some (.int (nI (c + 0))), some (.int m1), some (.int (nI (k - 1) - 1)), some (.int (bI (∀ i_, i_ < min m (ns - sd) → fOkS (fun i_ => shf (40 * s + i_)) la (ki h) (mi h) to he sw sd ((nI (k - 1)), ar h) i_)))]) 110 dX6_fits_110 rfl (dn_i hk hk1_) (by decide) rfl ?_
            refine J_goto (tgt := 60) 113 dX6_fits_113 (by decide) ?_
            refine J_mask (lv' := [some (.ref o), some (.int (nI s)), some (.int (nI h)), some (.int 0), some (.int (nI (c + 0))), some (.int m1), some (.int (nI (k - 1) - 1)), none]) 60 [true, true, true, true, true, true, true, false] rfl ?_
            exact ih_60_ (k - 1) (c + 0) m1 (by omega) (by first | assumption | omega | rfl) (by first | contradiction | (rw [show 100 - (k - 1) = (100 - k) + 1 by omega]; exact fFit_t hf (by omega) (by assumption)) | (rw [show 100 - (k - 1) = (100 - k) + 1 by omega]; exact fFit_f (t := k - 1) hf (by omega) (by assumption)) | rfl) (by first | omega | contradiction)
          · skip
            refine J_iload 101 dX6_fits_101 rfl ?_
            refine J_topi (y := nI (k - 1)) 103 (pk_sub (a := k) (b := 1) (by omega)) ?_
            refine J_goto (tgt := 108) 103 dX6_fits_103 (by decide) ?_
            refine J_istore (lv' := [some (.ref o), some (.int (nI s)), some (.int (nI h)), some (.int 0), some (.int (nI (c + 0))), some (.int (nI (k - 1))), some (.int (nI k - 1)), some (.int (bI (∀ i_, i_ < min m (ns - sd) → fOkS (fun i_ => shf (40 * s + i_)) la (ki h) (mi h) to he sw sd ((nI (k - 1)), ar h) i_)))]) 108 dX6_fits_108 (by decide) rfl ?_
            refine J_iinc (v := nI (k - 1) - 1) (lv' := [some (.ref o), some (.int (nI s)), some (.int (nI h)), some (.int 0), some (.int (nI (c + 0))), some (.int (nI (k - 1))), some (.int (nI (k - 1) - 1)), some (.int (bI (∀ i_, i_ < min m (ns - sd) → fOkS (fun i_ => shf (40 * s + i_)) la (ki h) (mi h) to he sw sd ((nI (k - 1)), ar h) i_)))]) 110 dX6_fits_110 rfl (dn_i hk hk1_) (by decide) rfl ?_
            refine J_goto (tgt := 60) 113 dX6_fits_113 (by decide) ?_
            refine J_mask (lv' := [some (.ref o), some (.int (nI s)), some (.int (nI h)), some (.int 0), some (.int (nI (c + 0))), some (.int (nI (k - 1))), some (.int (nI (k - 1) - 1)), none]) 60 [true, true, true, true, true, true, true, false] rfl ?_
            exact ih_60_ (k - 1) (c + 0) (nI (k - 1)) (by omega) (by first | assumption | omega | rfl) (by first | contradiction | (rw [show 100 - (k - 1) = (100 - k) + 1 by omega]; exact fFit_t hf (by omega) (by assumption)) | (rw [show 100 - (k - 1) = (100 - k) + 1 by omega]; exact fFit_f (t := k - 1) hf (by omega) (by assumption)) | rfl) (by first | omega | contradiction)
        · skip
          refine J_iconst (v := 1) 88 dX6_fits_88 rfl ?_
          refine J_goto (tgt := 93) 89 dX6_fits_89 (by decide) ?_
          refine J_iadd 93 dX6_fits_93 ?_
          refine J_topi (y := nI (c + 1)) 94 (nI_add c 1) ?_
          refine J_istore (lv' := [some (.ref o), some (.int (nI s)), some (.int (nI h)), some (.int 0), some (.int (nI (c + 1))), some (.int m1), some (.int (nI k - 1)), some (.int (bI (∀ i_, i_ < min m (ns - sd) → fOkS (fun i_ => shf (40 * s + i_)) la (ki h) (mi h) to he sw sd ((nI (k - 1)), ar h) i_)))]) 94 dX6_fits_94 (by decide) rfl ?_
          refine J_iload 96 dX6_fits_96 rfl ?_
          refine J_ifB_eq (tgt := 106) 98 dX6_fits_98 (by decide) (fun c_5_ => ?_) (fun c_5_ => ?_)
          · skip
            refine J_iload 106 dX6_fits_106 rfl ?_
            refine J_istore (lv' := [some (.ref o), some (.int (nI s)), some (.int (nI h)), some (.int 0), some (.int (nI (c + 1))), some (.int m1), some (.int (nI k - 1)), some (.int (bI (∀ i_, i_ < min m (ns - sd) → fOkS (fun i_ => shf (40 * s + i_)) la (ki h) (mi h) to he sw sd ((nI (k - 1)), ar h) i_)))]) 108 dX6_fits_108 (by decide) rfl ?_
            refine J_iinc (v := nI (k - 1) - 1) (lv' := [some (.ref o), some (.int (nI s)), some (.int (nI h)), some (.int 0), some (.int (nI (c + 1))), some (.int m1), some (.int (nI (k - 1) - 1)), some (.int (bI (∀ i_, i_ < min m (ns - sd) → fOkS (fun i_ => shf (40 * s + i_)) la (ki h) (mi h) to he sw sd ((nI (k - 1)), ar h) i_)))]) 110 dX6_fits_110 rfl (dn_i hk hk1_) (by decide) rfl ?_
            refine J_goto (tgt := 60) 113 dX6_fits_113 (by decide) ?_
            refine J_mask (lv' := [some (.ref o), some (.int (nI s)), some (.int (nI h)), some (.int 0), some (.int (nI (c + 1))), some (.int m1), some (.int (nI (k - 1) - 1)), none]) 60 [true, true, true, true, true, true, true, false] rfl ?_
            exact ih_60_ (k - 1) (c + 1) m1 (by omega) (by first | assumption | omega | rfl) (by first | contradiction | (rw [show 100 - (k - 1) = (100 - k) + 1 by omega]; exact fFit_t hf (by omega) (by assumption)) | (rw [show 100 - (k - 1) = (100 - k) + 1 by omega]; exact fFit_f (t := k - 1) hf (by omega) (by assumption)) | rfl) (by first | omega | contradiction)
          · skip
            refine J_iload 101 dX6_fits_101 rfl ?_
            refine J_topi (y := nI (k - 1)) 103 (pk_sub (a := k) (b := 1) (by omega)) ?_
            refine J_goto (tgt := 108) 103 dX6_fits_103 (by decide) ?_
            refine J_istore (lv' := [some (.ref o), some (.int (nI s)), some (.int (nI h)), some (.int 0), some (.int (nI (c + 1))), some (.int (nI (k - 1))), some (.int (nI k - 1)), some (.int (bI (∀ i_, i_ < min m (ns - sd) → fOkS (fun i_ => shf (40 * s + i_)) la (ki h) (mi h) to he sw sd ((nI (k - 1)), ar h) i_)))]) 108 dX6_fits_108 (by decide) rfl ?_
            refine J_iinc (v := nI (k - 1) - 1) (lv' := [some (.ref o), some (.int (nI s)), some (.int (nI h)), some (.int 0), some (.int (nI (c + 1))), some (.int (nI (k - 1))), some (.int (nI (k - 1) - 1)), some (.int (bI (∀ i_, i_ < min m (ns - sd) → fOkS (fun i_ => shf (40 * s + i_)) la (ki h) (mi h) to he sw sd ((nI (k - 1)), ar h) i_)))]) 110 dX6_fits_110 rfl (dn_i hk hk1_) (by decide) rfl ?_
            refine J_goto (tgt := 60) 113 dX6_fits_113 (by decide) ?_
            refine J_mask (lv' := [some (.ref o), some (.int (nI s)), some (.int (nI h)), some (.int 0), some (.int (nI (c + 1))), some (.int (nI (k - 1))), some (.int (nI (k - 1) - 1)), none]) 60 [true, true, true, true, true, true, true, false] rfl ?_
            exact ih_60_ (k - 1) (c + 1) (nI (k - 1)) (by omega) (by first | assumption | omega | rfl) (by first | contradiction | (rw [show 100 - (k - 1) = (100 - k) + 1 by omega]; exact fFit_t hf (by omega) (by assumption)) | (rw [show 100 - (k - 1) = (100 - k) + 1 by omega]; exact fFit_f (t := k - 1) hf (by omega) (by assumption)) | rfl) (by first | omega | contradiction)
  refine J_iload_n 0 1 dX6_fits_0 rfl rfl ?_
  refine kb_RX6_262 (bs' := [wMo o rw fr kp tr ik tp tm mso bg en wd va gd rs mu rm ss msz msh mho mhn mhz kd nb tn tc bo ip, wMr G rw la ns sd to he sw nh ki te mi ar z, wMr G tr t_la t_ns t_sd t_to t_he t_sw t_nh t_ki t_te t_mi t_ar t_z, wI G ss 4 ssf, wI G msz 4 szf, wJ G msh 160 shf]) (rest := []) (st' := [.int 1]) 1 (c_X6_isShelf_t l G s (by first | omega | assumption)) [] rfl rfl [] rfl rfl rfl rfl rfl rfl (Nat.le_of_ble_eq_true rfl) rfl dX6_fits_1 ?_
  refine J_if_eq (tgt := 24) 4 dX6_fits_4 (by decide) (fun c_6_ => absurd c_6_ (by decide)) (fun _ => ?_)
  refine J_aload_n 7 0 dX6_fits_7 rfl rfl ?_
  refine J_iload_n 8 2 dX6_fits_8 rfl rfl ?_
  refine kb_RX6_206 (bs' := [wMo o rw fr kp tr ik tp tm mso bg en wd va gd rs mu rm ss msz msh mho mhn mhz kd nb tn tc bo ip, wMr G rw la ns sd to he sw nh ki te mi ar z, wMr G tr t_la t_ns t_sd t_to t_he t_sw t_nh t_ki t_te t_mi t_ar t_z, wI G ss 4 ssf, wI G msz 4 szf, wJ G msh 160 shf]) (rest := []) (st' := [.int 1]) 9 (c_X6_isOne_t l G h o rw fr kp tr ik tp tm mso bg en wd va gd rs mu rm ss msz msh mho mhn mhz kd nb tn tc bo ip la ns sd to he sw nh ki te mi ar z (by assumption) (by omega)) [0, 1] 0 rfl rfl rfl [[o], [rw]] rfl rfl rfl rfl rfl rfl (Nat.le_of_ble_eq_true rfl) rfl dX6_fits_9 ?_
  refine J_if_eq (tgt := 24) 12 dX6_fits_12 (by decide) (fun c_7_ => absurd c_7_ (by decide)) (fun _ => ?_)
  refine J_iload_n 15 3 dX6_fits_15 rfl rfl ?_
  refine J_iconst (v := 0) 16 dX6_fits_16 rfl ?_
  refine J_iconst (v := 1) 17 dX6_fits_17 rfl ?_
  refine kb_RX6_57 (bs' := [wMo o rw fr kp tr ik tp tm mso bg en wd va gd rs mu rm ss msz msh mho mhn mhz kd nb tn tc bo ip, wMr G rw la ns sd to he sw nh ki te mi ar z, wMr G tr t_la t_ns t_sd t_to t_he t_sw t_nh t_ki t_te t_mi t_ar t_z, wI G ss 4 ssf, wI G msz 4 szf, wJ G msh 160 shf]) (rest := []) (st' := [.int 1]) 18 (c_X6_in_t l G 0 0 1 (by decide)) [] rfl rfl [] rfl rfl rfl rfl rfl rfl (Nat.le_of_ble_eq_true rfl) rfl dX6_fits_18 ?_
  refine J_if_ne (tgt := 26) 21 dX6_fits_21 (by decide) (fun _ => ?_) (fun c_8_ => absurd c_8_ (by decide))
  refine J_aload_n 26 0 dX6_fits_26 rfl rfl ?_
  refine g_805 (v := .ref ss) 27 0 rfl rfl dX6_fits_27 ?_
  refine J_iload_n 30 1 dX6_fits_30 rfl rfl ?_
  refine J_iald 31 3 s rfl rfl (by omega) (by decide) dX6_fits_31 ?_
  refine J_if_ge (tgt := 38) 32 dX6_fits_32 (by decide) (fun c_9_ => ?_) (fun c_9_ => ?_)
  · skip
    refine J_aload_n 38 0 dX6_fits_38 rfl rfl ?_
    refine g_789 (v := .ref rw) 39 0 rfl rfl dX6_fits_39 ?_
    refine J_aload_n 42 0 dX6_fits_42 rfl rfl ?_
    refine g_792 (v := .ref tr) 43 0 rfl rfl dX6_fits_43 ?_
    refine kb_RX6_173 (bs' := [wMo o rw fr kp tr ik tp tm mso bg en wd va gd rs mu rm ss msz msh mho mhn mhz kd nb tn tc bo ip, wMr G rw la ns sd to he sw nh ki te mi ar z, wMr G tr la ns sd to he sw nh ki te mi ar z, wI G ss 4 ssf, wI G msz 4 szf, wJ G msh 160 shf]) (rest := []) (st' := []) 46 (c_X6_moveAll_r l G rw la ns sd to he sw nh ki te mi ar z tr t_la t_ns t_sd t_to t_he t_sw t_nh t_ki t_te t_mi t_ar t_z ) [1, 2] rfl rfl [[rw], [tr]] rfl rfl rfl rfl rfl rfl (Nat.le_of_ble_eq_true rfl) rfl dX6_fits_46 ?_
    refine J_iconst (v := 0) 49 dX6_fits_49 rfl ?_
    refine J_istore (lv' := [some (.ref o), some (.int (nI s)), some (.int (nI h)), some (.int 0), some (.int 0), none, none, none]) 50 dX6_fits_50 (by decide) rfl ?_
    refine J_bipush (v := (-3)) 52 dX6_fits_52 rfl ?_
    refine J_istore (lv' := [some (.ref o), some (.int (nI s)), some (.int (nI h)), some (.int 0), some (.int 0), some (.int (-3)), none, none]) 54 dX6_fits_54 (by decide) rfl ?_
    refine J_bipush (v := 99) 56 dX6_fits_56 rfl ?_
    refine J_topi (y := nI 100 - 1) 58 rfl ?_
    refine J_istore (lv' := [some (.ref o), some (.int (nI s)), some (.int (nI h)), some (.int 0), some (.int 0), some (.int (-3)), some (.int (nI 100 - 1)), none]) 58 dX6_fits_58 (by decide) rfl ?_
    exact cut_60_ (100 + 1) 100 0 (-3) (Nat.lt_succ_self _) (by first | assumption | omega | rfl) (by first | contradiction | (rw [show 100 - (k - 1) = (100 - k) + 1 by omega]; exact fFit_t hf (by omega) (by assumption)) | (rw [show 100 - (k - 1) = (100 - k) + 1 by omega]; exact fFit_f (t := k - 1) hf (by omega) (by assumption)) | rfl) (by first | omega | contradiction)
  · skip
    exact absurd (Int32.not_le.mp c_9_) hso
set_option maxRecDepth 100000 in
set_option maxHeartbeats 4000000 in
theorem c_X6_fits_m1 (l : Launch) (G : Gd) (s : Nat) (h : Nat) (o : Nat) (rw : Nat) (fr : Nat) (kp : Nat) (tr : Nat) (ik : Int32) (tp : Nat) (tm : Nat) (mso : Int32) (bg : Nat) (en : Nat) (wd : Int64) (va : Int32) (gd : Int32) (rs : Nat) (mu : Nat) (rm : Nat) (ss : Nat) (msz : Nat) (msh : Nat) (mho : Nat) (mhn : Nat) (mhz : Nat) (kd : Int32) (nb : Int32) (tn : Int32) (tc : Nat) (bo : Nat) (ip : Int32) (la : Nat → Int32) (ns : Nat) (sd : Nat) (to : Nat → Int32) (he : Nat → Int32) (sw : Nat → Int32) (nh : Nat) (ki : Nat → Int32) (te : Nat → Int32) (mi : Nat → Int32) (ar : Nat → Int32) (z : Int32) (ssf : Nat → Int32) (hh : h < nh) (hnh : nh ≤ 8) (hs : s ≤ 3) (hso : ssf s < 0) : Ct l G yX6_fits cX6_fits 8 (some (FieldType.int)) 4 [.ref o, .int (nI s), .int (nI h), .int 1] (wF [wMo o rw fr kp tr ik tp tm mso bg en wd va gd rs mu rm ss msz msh mho mhn mhz kd nb tn tc bo ip, wMr G rw la ns sd to he sw nh ki te mi ar z, wI G ss 4 ssf]) (some (.int (-11))) (wF [wMo o rw fr kp tr ik tp tm mso bg en wd va gd rs mu rm ss msz msh mho mhn mhz kd nb tn tc bo ip, wMr G rw la ns sd to he sw nh ki te mi ar z, wI G ss 4 ssf]) := by
  refine Ct.of "GooseArmsModel" [some (.ref o), some (.int (nI s)), some (.int (nI h)), some (.int 1), none, none, none, none] (by decide +kernel) rfl (Nat.le_of_ble_eq_true rfl) rfl ?_
  refine J_iload_n 0 1 dX6_fits_0 rfl rfl ?_
  refine kb_RX6_262 (bs' := [wMo o rw fr kp tr ik tp tm mso bg en wd va gd rs mu rm ss msz msh mho mhn mhz kd nb tn tc bo ip, wMr G rw la ns sd to he sw nh ki te mi ar z, wI G ss 4 ssf]) (rest := []) (st' := [.int 1]) 1 (c_X6_isShelf_t l G s (by first | omega | assumption)) [] rfl rfl [] rfl rfl rfl rfl rfl rfl (Nat.le_of_ble_eq_true rfl) rfl dX6_fits_1 ?_
  refine J_if_eq (tgt := 24) 4 dX6_fits_4 (by decide) (fun c_1_ => absurd c_1_ (by decide)) (fun _ => ?_)
  refine J_aload_n 7 0 dX6_fits_7 rfl rfl ?_
  refine J_iload_n 8 2 dX6_fits_8 rfl rfl ?_
  refine kb_RX6_206 (bs' := [wMo o rw fr kp tr ik tp tm mso bg en wd va gd rs mu rm ss msz msh mho mhn mhz kd nb tn tc bo ip, wMr G rw la ns sd to he sw nh ki te mi ar z, wI G ss 4 ssf]) (rest := []) (st' := [.int 1]) 9 (c_X6_isOne_t l G h o rw fr kp tr ik tp tm mso bg en wd va gd rs mu rm ss msz msh mho mhn mhz kd nb tn tc bo ip la ns sd to he sw nh ki te mi ar z (by assumption) (by omega)) [0, 1] 0 rfl rfl rfl [[o], [rw]] rfl rfl rfl rfl rfl rfl (Nat.le_of_ble_eq_true rfl) rfl dX6_fits_9 ?_
  refine J_if_eq (tgt := 24) 12 dX6_fits_12 (by decide) (fun c_2_ => absurd c_2_ (by decide)) (fun _ => ?_)
  refine J_iload_n 15 3 dX6_fits_15 rfl rfl ?_
  refine J_iconst (v := 0) 16 dX6_fits_16 rfl ?_
  refine J_iconst (v := 1) 17 dX6_fits_17 rfl ?_
  refine kb_RX6_57 (bs' := [wMo o rw fr kp tr ik tp tm mso bg en wd va gd rs mu rm ss msz msh mho mhn mhz kd nb tn tc bo ip, wMr G rw la ns sd to he sw nh ki te mi ar z, wI G ss 4 ssf]) (rest := []) (st' := [.int 1]) 18 (c_X6_in_t l G 1 0 1 (by decide)) [] rfl rfl [] rfl rfl rfl rfl rfl rfl (Nat.le_of_ble_eq_true rfl) rfl dX6_fits_18 ?_
  refine J_if_ne (tgt := 26) 21 dX6_fits_21 (by decide) (fun _ => ?_) (fun c_3_ => absurd c_3_ (by decide))
  refine J_aload_n 26 0 dX6_fits_26 rfl rfl ?_
  refine g_805 (v := .ref ss) 27 0 rfl rfl dX6_fits_27 ?_
  refine J_iload_n 30 1 dX6_fits_30 rfl rfl ?_
  refine J_iald 31 2 s rfl rfl (by omega) (by decide) dX6_fits_31 ?_
  refine J_if_ge (tgt := 38) 32 dX6_fits_32 (by decide) (fun c_4_ => ?_) (fun c_4_ => ?_)
  · skip
    exact absurd hso (Int32.not_lt.mpr c_4_)
  · skip
    refine J_bipush (v := (-11)) 35 dX6_fits_35 rfl ?_
    exact J_iret 37 dX6_fits_37 rfl rfl
set_option maxRecDepth 100000 in
set_option maxHeartbeats 4000000 in
theorem c_X6_fits_1 (l : Launch) (G : Gd) (s : Nat) (h : Nat) (m : Nat) (o : Nat) (rw : Nat) (fr : Nat) (kp : Nat) (tr : Nat) (ik : Int32) (tp : Nat) (tm : Nat) (mso : Int32) (bg : Nat) (en : Nat) (wd : Int64) (va : Int32) (gd : Int32) (rs : Nat) (mu : Nat) (rm : Nat) (ss : Nat) (msz : Nat) (msh : Nat) (mho : Nat) (mhn : Nat) (mhz : Nat) (kd : Int32) (nb : Int32) (tn : Int32) (tc : Nat) (bo : Nat) (ip : Int32) (la : Nat → Int32) (ns : Nat) (sd : Nat) (to : Nat → Int32) (he : Nat → Int32) (sw : Nat → Int32) (nh : Nat) (ki : Nat → Int32) (te : Nat → Int32) (mi : Nat → Int32) (ar : Nat → Int32) (z : Int32) (t_la : Nat → Int32) (t_ns : Nat) (t_sd : Nat) (t_to : Nat → Int32) (t_he : Nat → Int32) (t_sw : Nat → Int32) (t_nh : Nat) (t_ki : Nat → Int32) (t_te : Nat → Int32) (t_mi : Nat → Int32) (t_ar : Nat → Int32) (t_z : Int32) (ssf : Nat → Int32) (szf : Nat → Int32) (shf : Nat → Int64) (hh : h < nh) (hnh : nh ≤ 8) (hns : ns ≤ 12) (hsd : sd ≤ ns) (hs : s ≤ 3) (hso : ¬ ssf s < 0) (hm : m ≤ 40) (hsz : szf s = nI m) : CtP l G yX6_fits cX6_fits 8 (some (FieldType.int)) 4 [.ref o, .int (nI s), .int (nI h), .int 1] (wF [wMo o rw fr kp tr ik tp tm mso bg en wd va gd rs mu rm ss msz msh mho mhn mhz kd nb tn tc bo ip, wMr G rw la ns sd to he sw nh ki te mi ar z, wMr G tr t_la t_ns t_sd t_to t_he t_sw t_nh t_ki t_te t_mi t_ar t_z, wI G ss 4 ssf, wI G msz 4 szf, wJ G msh 160 shf]) (some (.int ((fFit (fun t_ => ∀ i_, i_ < min m (ns - sd) → fOkS (fun i_ => shf (40 * s + i_)) la (ki h) (mi h) to he sw sd (nI t_, ar h) i_) 100).2))) (fun w_ => ∃ (j_2_la : Nat → Int32) (j_2_ns : Nat) (j_2_sd : Nat) (j_2_to : Nat → Int32) (j_2_he : Nat → Int32) (j_2_sw : Nat → Int32) (j_2_nh : Nat) (j_2_ki : Nat → Int32) (j_2_te : Nat → Int32) (j_2_mi : Nat → Int32) (j_2_ar : Nat → Int32) (j_2_z : Int32), w_ = (wF [wMo o rw fr kp tr ik tp tm mso bg en wd va gd rs mu rm ss msz msh mho mhn mhz kd nb tn tc bo ip, wMr G rw la ns sd to he sw nh ki te mi ar z, wMr G tr j_2_la j_2_ns j_2_sd j_2_to j_2_he j_2_sw j_2_nh j_2_ki j_2_te j_2_mi j_2_ar j_2_z, wI G ss 4 ssf, wI G msz 4 szf, wJ G msh 160 shf])) := by
  refine CtP.of "GooseArmsModel" [some (.ref o), some (.int (nI s)), some (.int (nI h)), some (.int 1), none, none, none, none] (by decide +kernel) rfl (Nat.le_of_ble_eq_true rfl) rfl ?_
  have cut_60_ : ∀ (n_60_ : Nat) (k : Nat) (c : Nat) (m1 : Int32), (k < n_60_) → (hk : k ≤ 100) → (hf : fFit (fun t_ => ∀ i_, i_ < min m (ns - sd) → fOkS (fun i_ => shf (40 * s + i_)) la (ki h) (mi h) to he sw sd (nI t_, ar h) i_) (100 - k) = (c, m1)) → (hc : c ≤ 100 - k) → J l G (bdP G 4 (some (FieldType.int)) (some (.int ((fFit (fun t_ => ∀ i_, i_ < min m (ns - sd) → fOkS (fun i_ => shf (40 * s + i_)) la (ki h) (mi h) to he sw sd (nI t_, ar h) i_) 100).2))) (fun w_ => ∃ (j_2_la : Nat → Int32) (j_2_ns : Nat) (j_2_sd : Nat) (j_2_to : Nat → Int32) (j_2_he : Nat → Int32) (j_2_sw : Nat → Int32) (j_2_nh : Nat) (j_2_ki : Nat → Int32) (j_2_te : Nat → Int32) (j_2_mi : Nat → Int32) (j_2_ar : Nat → Int32) (j_2_z : Int32), w_ = (wF [wMo o rw fr kp tr ik tp tm mso bg en wd va gd rs mu rm ss msz msh mho mhn mhz kd nb tn tc bo ip, wMr G rw la ns sd to he sw nh ki te mi ar z, wMr G tr j_2_la j_2_ns j_2_sd j_2_to j_2_he j_2_sw j_2_nh j_2_ki j_2_te j_2_mi j_2_ar j_2_z, wI G ss 4 ssf, wI G msz 4 szf, wJ G msh 160 shf]))) cX6_fits 8 "GooseArmsModel" 60 [some (.ref o), some (.int (nI s)), some (.int (nI h)), some (.int 1), some (.int (nI c)), some (.int m1), some (.int (nI k - 1)), none] [] (wF [wMo o rw fr kp tr ik tp tm mso bg en wd va gd rs mu rm ss msz msh mho mhn mhz kd nb tn tc bo ip, wMr G rw la ns sd to he sw nh ki te mi ar z, wMr G tr la ns sd to he sw nh ki te mi ar z, wI G ss 4 ssf, wI G msz 4 szf, wJ G msh 160 shf]) := by
    intro n_60_
    induction n_60_ with
    | zero => intro k c m1 m_60_; exact absurd m_60_ (Nat.not_lt_zero _)
    | succ n_60_ ih_60_ =>
      intro k c m1 m_60_ hk hf hc
      refine J_iload 60 dX6_fits_60 rfl ?_
      refine J_if_lt (tgt := 116) 62 dX6_fits_62 (by decide) (fun c_1_ => ?_) (fun c_1_ => ?_)
      · skip
        have hk0_ := dn_0 hk c_1_
        refine J_iload_n 116 3 dX6_fits_116 rfl rfl ?_
        refine J_if_ne (tgt := 125) 117 dX6_fits_117 (by decide) (fun _ => ?_) (fun c_2_ => absurd c_2_ (by decide))
        refine J_iload 125 dX6_fits_125 rfl ?_
        exact J_iretP 127 dX6_fits_127 (congrArg (fun x_ => some (Value.int x_)) (by subst hk0_; rw [show (100 : Nat) = 100 - 0 from rfl, hf])) ⟨la, ns, sd, to, he, sw, nh, ki, te, mi, ar, z, rfl⟩
      · skip
        have hk1_ := dn_1 hk c_1_
        refine J_aload_n 65 0 dX6_fits_65 rfl rfl ?_
        refine J_iload_n 66 2 dX6_fits_66 rfl rfl ?_
        refine J_iconst (v := 1) 67 dX6_fits_67 rfl ?_
        refine J_iload 68 dX6_fits_68 rfl ?_
        refine J_topi (y := nI (k - 1)) 70 (pk_sub (a := k) (b := 1) (by omega)) ?_
        refine kb_RX6_202 (bs' := [wMo o rw fr kp tr ik tp tm mso bg en wd va gd rs mu rm ss msz msh mho mhn mhz kd nb tn tc bo ip, wMr G rw la ns sd to he sw nh ki (upd te h (nI (k - 1))) mi ar z, wMr G tr la ns sd to he sw nh ki te mi ar z, wI G ss 4 ssf, wI G msz 4 szf, wJ G msh 160 shf]) (rest := []) (st' := []) 70 (c_X6_sets_1 l G h (nI (k - 1)) o rw fr kp tr ik tp tm mso bg en wd va gd rs mu rm ss msz msh mho mhn mhz kd nb tn tc bo ip la ns sd to he sw nh ki te mi ar z (by first | omega | assumption)) [0, 1] 0 rfl rfl rfl [[o], [rw]] rfl rfl rfl rfl rfl rfl (Nat.le_of_ble_eq_true rfl) rfl dX6_fits_70 ?_
        refine J_aload_n 73 0 dX6_fits_73 rfl rfl ?_
        refine J_iload_n 74 1 dX6_fits_74 rfl rfl ?_
        refine J_iload_n 75 2 dX6_fits_75 rfl rfl ?_
        refine kb_RX6_265 (bs' := [wMo o rw fr kp tr ik tp tm mso bg en wd va gd rs mu rm ss msz msh mho mhn mhz kd nb tn tc bo ip, wMr G rw la ns sd to he sw nh ki te mi ar z, wMr G tr la ns sd to he sw nh ki te mi ar z, wI G ss 4 ssf, wI G msz 4 szf, wJ G msh 160 shf]) (rest := []) (st' := [.int (bI (∀ i_, i_ < min m (ns - sd) → fOkS (fun i_ => shf (40 * s + i_)) la (ki h) (mi h) to he sw sd ((nI (k - 1)), ar h) i_))]) 76 (c_X6_isSo l G s h m (nI (k - 1)) o rw fr kp tr ik tp tm mso bg en wd va gd rs mu rm ss msz msh mho mhn mhz kd nb tn tc bo ip la ns sd to he sw nh ki (upd te h (nI (k - 1))) mi ar z la ns sd to he sw nh ki te mi ar z szf shf (by first | omega | assumption) (by first | omega | assumption) (by first | omega | assumption) (by first | omega | assumption) (by first | omega | assumption) (by first | omega | assumption) (by first | omega | assumption) pk_us) [0, 1, 2, 4, 5] 0 rfl rfl rfl [[o], [rw], [tr], [msz], [msh]] rfl rfl rfl rfl rfl rfl (Nat.le_of_ble_eq_true rfl) rfl dX6_fits_76 ?_
        refine J_istore (lv' := [some (.ref o), some (.int (nI s)), some (.int (nI h)), some (.int 1), some (.int (nI c)), some (.int m1), some (.int (nI k - 1)), some (.int (bI (∀ i_, i_ < min m (ns - sd) → fOkS (fun i_ => shf (40 * s + i_)) la (ki h) (mi h) to he sw sd ((nI (k - 1)), ar h) i_)))]) 79 dX6_fits_79 (by decide) rfl ?_
        refine J_iload 81 dX6_fits_81 rfl ?_
        refine J_iload 83 dX6_fits_83 rfl ?_
        refine J_ifB_eq (tgt := 92) 85 dX6_fits_85 (by decide) (fun c_3_ => ?_) (fun c_3_ => ?_)
        · skip
          refine J_iconst (v := 0) 92 dX6_fits_92 rfl ?_
          refine J_iadd 93 dX6_fits_93 ?_
          refine J_topi (y := nI (c + 0)) 94 (nI_add c 0) ?_
          refine J_istore (lv' := [some (.ref o), some (.int (nI s)), some (.int (nI h)), some (.int 1), some (.int (nI (c + 0))), some (.int m1), some (.int (nI k - 1)), some (.int (bI (∀ i_, i_ < min m (ns - sd) → fOkS (fun i_ => shf (40 * s + i_)) la (ki h) (mi h) to he sw sd ((nI (k - 1)), ar h) i_)))]) 94 dX6_fits_94 (by decide) rfl ?_
          refine J_iload 96 dX6_fits_96 rfl ?_
          refine J_ifB_eq (tgt := 106) 98 dX6_fits_98 (by decide) (fun c_4_ => ?_) (fun c_4_ => ?_)
          · skip
            refine J_iload 106 dX6_fits_106 rfl ?_
            refine J_istore (lv' := [some (.ref o), some (.int (nI s)), some (.int (nI h)), some (.int 1), some (.int (nI (c + 0))), some (.int m1), some (.int (nI k - 1)), some (.int (bI (∀ i_, i_ < min m (ns - sd) → fOkS (fun i_ => shf (40 * s + i_)) la (ki h) (mi h) to he sw sd ((nI (k - 1)), ar h) i_)))]) 108 dX6_fits_108 (by decide) rfl ?_
            refine J_iinc (v := nI (k - 1) - 1) (lv' := [some (.ref o), some (.int (nI s)), some (.int (nI h)), some (.int 1), some (.int (nI (c + 0))), some (.int m1), some (.int (nI (k - 1) - 1)), some (.int (bI (∀ i_, i_ < min m (ns - sd) → fOkS (fun i_ => shf (40 * s + i_)) la (ki h) (mi h) to he sw sd ((nI (k - 1)), ar h) i_)))]) 110 dX6_fits_110 rfl (dn_i hk hk1_) (by decide) rfl ?_
            refine J_goto (tgt := 60) 113 dX6_fits_113 (by decide) ?_
            refine J_mask (lv' := [some (.ref o), some (.int (nI s)), some (.int (nI h)), some (.int 1), some (.int (nI (c + 0))), some (.int m1), some (.int (nI (k - 1) - 1)), none]) 60 [true, true, true, true, true, true, true, false] rfl ?_
            exact ih_60_ (k - 1) (c + 0) m1 (by omega) (by first | assumption | omega | rfl) (by first | contradiction | (rw [show 100 - (k - 1) = (100 - k) + 1 by omega]; exact fFit_t hf (by omega) (by assumption)) | (rw [show 100 - (k - 1) = (100 - k) + 1 by omega]; exact fFit_f (t := k - 1) hf (by omega) (by assumption)) | rfl) (by first | omega | contradiction)
          · skip
            refine J_iload 101 dX6_fits_101 rfl ?_
            refine J_topi (y := nI (k - 1)) 103 (pk_sub (a := k) (b := 1) (by omega)) ?_
            refine J_goto (tgt := 108) 103 dX6_fits_103 (by decide) ?_
            refine J_istore (lv' := [some (.ref o), some (.int (nI s)), some (.int (nI h)), some (.int 1), some (.int (nI (c + 0))), some (.int (nI (k - 1))), some (.int (nI k - 1)), some (.int (bI (∀ i_, i_ < min m (ns - sd) → fOkS (fun i_ => shf (40 * s + i_)) la (ki h) (mi h) to he sw sd ((nI (k - 1)), ar h) i_)))]) 108 dX6_fits_108 (by decide) rfl ?_
            refine J_iinc (v := nI (k - 1) - 1) (lv' := [some (.ref o), some (.int (nI s)), some (.int (nI h)), some (.int 1), some (.int (nI (c + 0))), some (.int (nI (k - 1))), some (.int (nI (k - 1) - 1)), some (.int (bI (∀ i_, i_ < min m (ns - sd) → fOkS (fun i_ => shf (40 * s + i_)) la (ki h) (mi h) to he sw sd ((nI (k - 1)), ar h) i_)))]) 110 dX6_fits_110 rfl (dn_i hk hk1_) (by decide) rfl ?_
            refine J_goto (tgt := 60) 113 dX6_fits_113 (by decide) ?_
            refine J_mask (lv' := [some (.ref o), some (.int (nI s)), some (.int (nI h)), some (.int 1), some (.int (nI (c + 0))), some (.int (nI (k - 1))), some (.int (nI (k - 1) - 1)), none]) 60 [true, true, true, true, true, true, true, false] rfl ?_
            exact ih_60_ (k - 1) (c + 0) (nI (k - 1)) (by omega) (by first | assumption | omega | rfl) (by first | contradiction | (rw [show 100 - (k - 1) = (100 - k) + 1 by omega]; exact fFit_t hf (by omega) (by assumption)) | (rw [show 100 - (k - 1) = (100 - k) + 1 by omega]; exact fFit_f (t := k - 1) hf (by omega) (by assumption)) | rfl) (by first | omega | contradiction)
        · skip
          refine J_iconst (v := 1) 88 dX6_fits_88 rfl ?_
          refine J_goto (tgt := 93) 89 dX6_fits_89 (by decide) ?_
          refine J_iadd 93 dX6_fits_93 ?_
          refine J_topi (y := nI (c + 1)) 94 (nI_add c 1) ?_
          refine J_istore (lv' := [some (.ref o), some (.int (nI s)), some (.int (nI h)), some (.int 1), some (.int (nI (c + 1))), some (.int m1), some (.int (nI k - 1)), some (.int (bI (∀ i_, i_ < min m (ns - sd) → fOkS (fun i_ => shf (40 * s + i_)) la (ki h) (mi h) to he sw sd ((nI (k - 1)), ar h) i_)))]) 94 dX6_fits_94 (by decide) rfl ?_
          refine J_iload 96 dX6_fits_96 rfl ?_
          refine J_ifB_eq (tgt := 106) 98 dX6_fits_98 (by decide) (fun c_5_ => ?_) (fun c_5_ => ?_)
          · skip
            refine J_iload 106 dX6_fits_106 rfl ?_
            refine J_istore (lv' := [some (.ref o), some (.int (nI s)), some (.int (nI h)), some (.int 1), some (.int (nI (c + 1))), some (.int m1), some (.int (nI k - 1)), some (.int (bI (∀ i_, i_ < min m (ns - sd) → fOkS (fun i_ => shf (40 * s + i_)) la (ki h) (mi h) to he sw sd ((nI (k - 1)), ar h) i_)))]) 108 dX6_fits_108 (by decide) rfl ?_
            refine J_iinc (v := nI (k - 1) - 1) (lv' := [some (.ref o), some (.int (nI s)), some (.int (nI h)), some (.int 1), some (.int (nI (c + 1))), some (.int m1), some (.int (nI (k - 1) - 1)), some (.int (bI (∀ i_, i_ < min m (ns - sd) → fOkS (fun i_ => shf (40 * s + i_)) la (ki h) (mi h) to he sw sd ((nI (k - 1)), ar h) i_)))]) 110 dX6_fits_110 rfl (dn_i hk hk1_) (by decide) rfl ?_
            refine J_goto (tgt := 60) 113 dX6_fits_113 (by decide) ?_
            refine J_mask (lv' := [some (.ref o), some (.int (nI s)), some (.int (nI h)), some (.int 1), some (.int (nI (c + 1))), some (.int m1), some (.int (nI (k - 1) - 1)), none]) 60 [true, true, true, true, true, true, true, false] rfl ?_
            exact ih_60_ (k - 1) (c + 1) m1 (by omega) (by first | assumption | omega | rfl) (by first | contradiction | (rw [show 100 - (k - 1) = (100 - k) + 1 by omega]; exact fFit_t hf (by omega) (by assumption)) | (rw [show 100 - (k - 1) = (100 - k) + 1 by omega]; exact fFit_f (t := k - 1) hf (by omega) (by assumption)) | rfl) (by first | omega | contradiction)
          · skip
            refine J_iload 101 dX6_fits_101 rfl ?_
            refine J_topi (y := nI (k - 1)) 103 (pk_sub (a := k) (b := 1) (by omega)) ?_
            refine J_goto (tgt := 108) 103 dX6_fits_103 (by decide) ?_
            refine J_istore (lv' := [some (.ref o), some (.int (nI s)), some (.int (nI h)), some (.int 1), some (.int (nI (c + 1))), some (.int (nI (k - 1))), some (.int (nI k - 1)), some (.int (bI (∀ i_, i_ < min m (ns - sd) → fOkS (fun i_ => shf (40 * s + i_)) la (ki h) (mi h) to he sw sd ((nI (k - 1)), ar h) i_)))]) 108 dX6_fits_108 (by decide) rfl ?_
            refine J_iinc (v := nI (k - 1) - 1) (lv' := [some (.ref o), some (.int (nI s)), some (.int (nI h)), some (.int 1), some (.int (nI (c + 1))), some (.int (nI (k - 1))), some (.int (nI (k - 1) - 1)), some (.int (bI (∀ i_, i_ < min m (ns - sd) → fOkS (fun i_ => shf (40 * s + i_)) la (ki h) (mi h) to he sw sd ((nI (k - 1)), ar h) i_)))]) 110 dX6_fits_110 rfl (dn_i hk hk1_) (by decide) rfl ?_
            refine J_goto (tgt := 60) 113 dX6_fits_113 (by decide) ?_
            refine J_mask (lv' := [some (.ref o), some (.int (nI s)), some (.int (nI h)), some (.int 1), some (.int (nI (c + 1))), some (.int (nI (k - 1))), some (.int (nI (k - 1) - 1)), none]) 60 [true, true, true, true, true, true, true, false] rfl ?_
            exact ih_60_ (k - 1) (c + 1) (nI (k - 1)) (by omega) (by first | assumption | omega | rfl) (by first | contradiction | (rw [show 100 - (k - 1) = (100 - k) + 1 by omega]; exact fFit_t hf (by omega) (by assumption)) | (rw [show 100 - (k - 1) = (100 - k) + 1 by omega]; exact fFit_f (t := k - 1) hf (by omega) (by assumption)) | rfl) (by first | omega | contradiction)
  refine J_iload_n 0 1 dX6_fits_0 rfl rfl ?_
  refine kb_RX6_262 (bs' := [wMo o rw fr kp tr ik tp tm mso bg en wd va gd rs mu rm ss msz msh mho mhn mhz kd nb tn tc bo ip, wMr G rw la ns sd to he sw nh ki te mi ar z, wMr G tr t_la t_ns t_sd t_to t_he t_sw t_nh t_ki t_te t_mi t_ar t_z, wI G ss 4 ssf, wI G msz 4 szf, wJ G msh 160 shf]) (rest := []) (st' := [.int 1]) 1 (c_X6_isShelf_t l G s (by first | omega | assumption)) [] rfl rfl [] rfl rfl rfl rfl rfl rfl (Nat.le_of_ble_eq_true rfl) rfl dX6_fits_1 ?_
  refine J_if_eq (tgt := 24) 4 dX6_fits_4 (by decide) (fun c_6_ => absurd c_6_ (by decide)) (fun _ => ?_)
  refine J_aload_n 7 0 dX6_fits_7 rfl rfl ?_
  refine J_iload_n 8 2 dX6_fits_8 rfl rfl ?_
  refine kb_RX6_206 (bs' := [wMo o rw fr kp tr ik tp tm mso bg en wd va gd rs mu rm ss msz msh mho mhn mhz kd nb tn tc bo ip, wMr G rw la ns sd to he sw nh ki te mi ar z, wMr G tr t_la t_ns t_sd t_to t_he t_sw t_nh t_ki t_te t_mi t_ar t_z, wI G ss 4 ssf, wI G msz 4 szf, wJ G msh 160 shf]) (rest := []) (st' := [.int 1]) 9 (c_X6_isOne_t l G h o rw fr kp tr ik tp tm mso bg en wd va gd rs mu rm ss msz msh mho mhn mhz kd nb tn tc bo ip la ns sd to he sw nh ki te mi ar z (by assumption) (by omega)) [0, 1] 0 rfl rfl rfl [[o], [rw]] rfl rfl rfl rfl rfl rfl (Nat.le_of_ble_eq_true rfl) rfl dX6_fits_9 ?_
  refine J_if_eq (tgt := 24) 12 dX6_fits_12 (by decide) (fun c_7_ => absurd c_7_ (by decide)) (fun _ => ?_)
  refine J_iload_n 15 3 dX6_fits_15 rfl rfl ?_
  refine J_iconst (v := 0) 16 dX6_fits_16 rfl ?_
  refine J_iconst (v := 1) 17 dX6_fits_17 rfl ?_
  refine kb_RX6_57 (bs' := [wMo o rw fr kp tr ik tp tm mso bg en wd va gd rs mu rm ss msz msh mho mhn mhz kd nb tn tc bo ip, wMr G rw la ns sd to he sw nh ki te mi ar z, wMr G tr t_la t_ns t_sd t_to t_he t_sw t_nh t_ki t_te t_mi t_ar t_z, wI G ss 4 ssf, wI G msz 4 szf, wJ G msh 160 shf]) (rest := []) (st' := [.int 1]) 18 (c_X6_in_t l G 1 0 1 (by decide)) [] rfl rfl [] rfl rfl rfl rfl rfl rfl (Nat.le_of_ble_eq_true rfl) rfl dX6_fits_18 ?_
  refine J_if_ne (tgt := 26) 21 dX6_fits_21 (by decide) (fun _ => ?_) (fun c_8_ => absurd c_8_ (by decide))
  refine J_aload_n 26 0 dX6_fits_26 rfl rfl ?_
  refine g_805 (v := .ref ss) 27 0 rfl rfl dX6_fits_27 ?_
  refine J_iload_n 30 1 dX6_fits_30 rfl rfl ?_
  refine J_iald 31 3 s rfl rfl (by omega) (by decide) dX6_fits_31 ?_
  refine J_if_ge (tgt := 38) 32 dX6_fits_32 (by decide) (fun c_9_ => ?_) (fun c_9_ => ?_)
  · skip
    refine J_aload_n 38 0 dX6_fits_38 rfl rfl ?_
    refine g_789 (v := .ref rw) 39 0 rfl rfl dX6_fits_39 ?_
    refine J_aload_n 42 0 dX6_fits_42 rfl rfl ?_
    refine g_792 (v := .ref tr) 43 0 rfl rfl dX6_fits_43 ?_
    refine kb_RX6_173 (bs' := [wMo o rw fr kp tr ik tp tm mso bg en wd va gd rs mu rm ss msz msh mho mhn mhz kd nb tn tc bo ip, wMr G rw la ns sd to he sw nh ki te mi ar z, wMr G tr la ns sd to he sw nh ki te mi ar z, wI G ss 4 ssf, wI G msz 4 szf, wJ G msh 160 shf]) (rest := []) (st' := []) 46 (c_X6_moveAll_r l G rw la ns sd to he sw nh ki te mi ar z tr t_la t_ns t_sd t_to t_he t_sw t_nh t_ki t_te t_mi t_ar t_z ) [1, 2] rfl rfl [[rw], [tr]] rfl rfl rfl rfl rfl rfl (Nat.le_of_ble_eq_true rfl) rfl dX6_fits_46 ?_
    refine J_iconst (v := 0) 49 dX6_fits_49 rfl ?_
    refine J_istore (lv' := [some (.ref o), some (.int (nI s)), some (.int (nI h)), some (.int 1), some (.int 0), none, none, none]) 50 dX6_fits_50 (by decide) rfl ?_
    refine J_bipush (v := (-3)) 52 dX6_fits_52 rfl ?_
    refine J_istore (lv' := [some (.ref o), some (.int (nI s)), some (.int (nI h)), some (.int 1), some (.int 0), some (.int (-3)), none, none]) 54 dX6_fits_54 (by decide) rfl ?_
    refine J_bipush (v := 99) 56 dX6_fits_56 rfl ?_
    refine J_topi (y := nI 100 - 1) 58 rfl ?_
    refine J_istore (lv' := [some (.ref o), some (.int (nI s)), some (.int (nI h)), some (.int 1), some (.int 0), some (.int (-3)), some (.int (nI 100 - 1)), none]) 58 dX6_fits_58 (by decide) rfl ?_
    exact cut_60_ (100 + 1) 100 0 (-3) (Nat.lt_succ_self _) (by first | assumption | omega | rfl) (by first | contradiction | (rw [show 100 - (k - 1) = (100 - k) + 1 by omega]; exact fFit_t hf (by omega) (by assumption)) | (rw [show 100 - (k - 1) = (100 - k) + 1 by omega]; exact fFit_f (t := k - 1) hf (by omega) (by assumption)) | rfl) (by first | omega | contradiction)
  · skip
    exact absurd (Int32.not_le.mp c_9_) hso
