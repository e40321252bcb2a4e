/-! rows, sheets, shelves, acts, fractions -/
noncomputable def fJm (P : Nat → Prop) : Nat → Nat → Int32
  | 0, _ => 0
  | f + 1, k => cif (P k) (fJm P f (k + 1)) (nI (k / 3 + 1))
theorem fJm_t {P : Nat → Prop} {n i : Nat} (hi_ : i < n) (hp_ : P i) : fJm P (n - i) i = fJm P (n - (i + 1)) (i + 1) := by
  obtain ⟨d_, hd_⟩ : ∃ d, n - i = d + 1 := ⟨n - i - 1, by omega⟩
  rw [hd_, show n - (i + 1) = d_ by omega]; conv => lhs; unfold fJm
  exact cif_t hp_
theorem fJm_f {P : Nat → Prop} {n i : Nat} (hi_ : i < n) (hp_ : ¬ P i) : fJm P (n - i) i = nI (i / 3 + 1) := by
  obtain ⟨d_, hd_⟩ : ∃ d, n - i = d + 1 := ⟨n - i - 1, by omega⟩
  rw [hd_]; unfold fJm
  exact cif_f hp_
theorem fJm_e {P : Nat → Prop} {n i : Nat} (hi_ : n ≤ i) : fJm P (n - i) i = 0 := by
  rw [show n - i = 0 by omega]; rfl
theorem mi_1 {i : Int32} {m n : Nat} (hm_ : m ≤ 40) (hn_ : n ≤ 8) (h_ : ¬ (0 ≤ i ∧ i ≤ nI m)) (h0_ : ¬ i < 0) : ¬ i ≤ nI m - nI n := by
  intro z_
  have e_ := pk_sub_toInt (a := m) (b := n) (by omega) (by omega)
  have g_ : ¬ i ≤ nI m := fun y_ => h_ ⟨Int32.not_lt.mp h0_, y_⟩
  rw [Int32.le_iff_toInt_le] at z_ g_
  rw [nI_toInt (by omega)] at g_
  omega
theorem mi_2 {i m n : Nat} (hm_ : m ≤ 40) (hn_ : n ≤ 8) (hi_ : i ≤ m) (h_ : m < i + n) : ¬ nI i ≤ nI m - nI n := by
  intro z_
  have e_ := pk_sub_toInt (a := m) (b := n) (by omega) (by omega)
  rw [Int32.le_iff_toInt_le, nI_toInt (by omega)] at z_
  omega
def fZs (s n : Nat) (f : Nat → Int64) : Nat → Int64 := fun j => if 40 * s ≤ j ∧ j < 40 * s + n then 0 else f j
theorem fZs_0 {s : Nat} {f : Nat → Int64} : f = fZs s 0 f := funext fun j_ => by unfold fZs; rw [if_neg (by omega)]
theorem fZs_s {s k : Nat} {f f1 : Nat → Int64} (h_ : f1 = fZs s k f) : vp_updL f1 (40 * s + k) 0 = fZs s (k + 1) f := by
  funext j_
  by_cases e_ : j_ = 40 * s + k
  · subst e_; rw [pk_uLs]; unfold fZs; rw [if_pos ⟨by omega, by omega⟩]
  · rw [pk_uLn e_, h_]; unfold fZs
    by_cases q_ : 40 * s ≤ j_ ∧ j_ < 40 * s + k
    · rw [if_pos q_, if_pos ⟨q_.1, by omega⟩]
    · rw [if_neg q_, if_neg (fun z_ => q_ ⟨z_.1, by omega⟩)]
def fUnM (k a : Int32) : Prop := a = 0 ∨ a = k ∨ (a = 1 ∧ k = 3) ∨ (a = 2 ∧ k = 4)
theorem sub_ne0 {x y : Int32} (h_ : ¬ x = y) : ¬ x - y = 0 := fun z_ => h_ (by
  have e_ : x = x - y + y := by grind
  rw [e_, z_]; exact Int32.zero_add _)
def mWN (n : Nat) : Nat → Nat
  | 0 => 1
  | i + 1 => mWN n i * (n - i) / (i + 1)
theorem mWN_70 : ∀ n, n < 9 → ∀ i, i < 9 → i ≤ n → mWN n i ≤ 70 ∧ 1 ≤ mWN n i := by decide +kernel
def mPt (A B : Nat) (p : Int32) : Int64 := if p = 0 then lN (A / Nat.gcd A B) else lN (B / Nat.gcd A B)
theorem lcN0 {a : Nat} (h_ : a < 2 ^ 63) : lg_cmp (lN a) 0 = 0 ↔ a = 0 := by
  rw [lgc0]; exact pk_lEQ (a := a) (b := 0) h_ (by decide)
theorem fPow_N {p : Nat} : ∀ k, fPow (lN p) k = lN (p ^ k) := by
  intro k
  induction k with
  | zero => rfl
  | succ k ih_ => unfold fPow; rw [ih_, lN_mul, Nat.pow_succ]
theorem pw_b {p k : Nat} (hp_ : p ≤ 100) (hk_ : k ≤ 8) : p ^ k ≤ 10 ^ 16 := Nat.le_trans (Nat.pow_le_pow_left hp_ k) (Nat.le_trans (Nat.pow_le_pow_right (by decide) hk_) (by decide))
theorem pw_b2 {p n k : Nat} (hp_ : p ≤ 100) (hk_ : k ≤ n) (hn_ : n ≤ 8) : p ^ k * (100 - p) ^ (n - k) ≤ 10 ^ 16 := by
  have a_ : p ^ k ≤ 100 ^ k := Nat.pow_le_pow_left hp_ k
  have b_ : (100 - p) ^ (n - k) ≤ 100 ^ (n - k) := Nat.pow_le_pow_left (by omega) _
  have c_ := Nat.mul_le_mul a_ b_
  rw [← Nat.pow_add, show k + (n - k) = n by omega] at c_
  exact Nat.le_trans c_ (Nat.le_trans (Nat.pow_le_pow_right (by decide) hn_) (by decide))
theorem ab_b {p n k : Nat} (hp_ : p ≤ 100) (hk_ : k ≤ n) (hn_ : n ≤ 8) : mWN n k * p ^ k * (100 - p) ^ (n - k) < 2 ^ 62 := by
  have w_ := (mWN_70 n (by omega) k (by omega) hk_).1
  rw [Nat.mul_assoc]
  exact Nat.lt_of_le_of_lt (Nat.mul_le_mul w_ (pw_b2 hp_ hk_ hn_)) (by decide)
theorem wn_s {n i : Nat} (hn_ : n ≤ 8) (hi_ : i < n) : lN (mWN n i) * (nI n - nI i).toInt64 / (nI (i + 1)).toInt64 = lN (mWN n (i + 1)) := by
  have w_ := (mWN_70 n (by omega) i (by omega) (by omega)).1
  rw [pk_sub (by omega), nI_l (by omega), nI_l (by omega), lN_mul, pk_lDiv (Nat.lt_of_le_of_lt (Nat.mul_le_mul w_ (show n - i ≤ 8 by omega)) (by decide)) (by omega) (by omega)]
  rfl
theorem od_ab {n k pd : Nat} {p3 : Int32} (hp3_ : p3 = nI pd) (hp_ : pd ≤ 99) (hn_ : n ≤ 8) (hk_ : k ≤ n) : lN (mWN n k) * fPow p3.toInt64 k * fPow (100 - p3).toInt64 (n - k) = lN (mWN n k * pd ^ k * (100 - pd) ^ (n - k)) := by
  subst hp3_
  have e_ : (100 : Int32) - nI pd = nI (100 - pd) := pk_sub (a := 100) (by omega)
  rw [e_, nI_l (by omega), nI_l (by omega), fPow_N, fPow_N, lN_mul, lN_mul]
theorem gcd_s {x y A B : Nat} (h_ : Nat.gcd x y = Nat.gcd A B) : Nat.gcd y (x % y) = Nat.gcd A B := by
  rw [← h_, Nat.gcd_comm x y]; exact (Nat.gcd_rec y x ▸ Nat.gcd_comm _ _)
set_option maxRecDepth 100000 in
set_option maxHeartbeats 4000000 in
theorem c_X6_findRows (l : Launch) (G : Gd) (h : Nat) (n : Nat) (o : Nat) (rw : Nat) (fr : Nat) (kp : Nat) (tr : Nat) (ik : Int32) (tp : Nat) (tm : Nat) (mso : Int32) (bg : Nat) (en : Nat) (wd : Int64) (va : Int32) (gd : Int32) (rs : Nat) (mu : Nat) (rm : Nat) (ss : Nat) (msz : Nat) (msh : Nat) (mho : Nat) (mhn : Nat) (mhz : Nat) (kd : Int32) (nb : Int32) (tn : Int32) (tc : Nat) (bo : Nat) (ip : Int32) (la : Nat → Int32) (ns : Nat) (sd : Nat) (to : Nat → Int32) (he : Nat → Int32) (sw : Nat → Int32) (nh : Nat) (ki : Nat → Int32) (te : Nat → Int32) (mi : Nat → Int32) (ar : Nat → Int32) (z : Int32) (t_la : Nat → Int32) (t_ns : Nat) (t_sd : Nat) (t_to : Nat → Int32) (t_he : Nat → Int32) (t_sw : Nat → Int32) (t_nh : Nat) (t_ki : Nat → Int32) (t_te : Nat → Int32) (t_mi : Nat → Int32) (t_ar : Nat → Int32) (t_z : Int32) (muf : Nat → Int32) (hh : h < nh) (hnh : nh ≤ 8) (hns : ns ≤ 12) (hsd : sd ≤ ns) (hn : n ≤ 10) : CtP l G yX6_findRows cX6_findRows 5 (some (FieldType.int)) 3 [.ref o, .int (nI h), .int (nI n)] (wF [wMo o rw fr kp tr ik tp tm mso bg en wd va gd rs mu rm ss msz msh mho mhn mhz kd nb tn tc bo ip, wMr G rw la ns sd to he sw nh ki te mi ar z, wMr G tr t_la t_ns t_sd t_to t_he t_sw t_nh t_ki t_te t_mi t_ar t_z, wI G mu 30 muf]) (some (.int (nI (min n (ns - sd))))) (fun w_ => ∃ (j_2_la : Nat → Int32) (j_2_ns : Nat) (j_2_sd : Nat) (j_2_to : Nat → Int32) (j_2_he : Nat → Int32) (j_2_sw : Nat → Int32) (j_2_nh : Nat) (j_2_ki : Nat → Int32) (j_2_te : Nat → Int32) (j_2_mi : Nat → Int32) (j_2_ar : Nat → Int32) (j_2_z : Int32), w_ = (wF [wMo o rw fr kp tr ik tp tm mso bg en wd va gd rs mu rm ss msz msh mho mhn mhz kd nb tn tc bo ip, wMr G rw la ns sd to he sw nh ki te mi ar z, wMr G tr j_2_la j_2_ns j_2_sd j_2_to j_2_he j_2_sw j_2_nh j_2_ki j_2_te j_2_mi j_2_ar j_2_z, wI G mu 30 (fRow3 (fun k_ => (fAr (fun h_ => h_ < nh) la ki mi te ar to he sw sd (k_ + 1)) h) (fun k_ => (fTe (fun h_ => h_ < nh) la ki mi te ar to he sw sd (k_ + 1)) h) (fun k_ => fBC (fMask (fun h_ => nI h_ = (-1) ∨ fUp la ki mi (fTe (fun h_ => h_ < nh) la ki mi te ar to he sw sd (k_)) to he sw (sd + k_) h_) nh)) muf (min n (ns - sd)))])) := by
  refine CtP.of "GooseArmsModel" [some (.ref o), some (.int (nI h)), some (.int (nI n)), none, none] (by decide +kernel) rfl (Nat.le_of_ble_eq_true rfl) rfl ?_
  have cut_13_ : ∀ (n_13_ : Nat) (i : Nat) (te1 : Nat → Int32) (ar1 : Nat → Int32) (sd1 : Nat) (mu1 : Nat → Int32), (min n (ns - sd) - i < n_13_) → (hi : i ≤ min n (ns - sd)) → (hte : te1 = (fTe (fun h_ => h_ < nh) la ki mi te ar to he sw sd (i))) → (har : ar1 = (fAr (fun h_ => h_ < nh) la ki mi te ar to he sw sd (i))) → (hs1 : sd1 = sd + i) → (hmu : mu1 = fRow3 (fun k_ => (fAr (fun h_ => h_ < nh) la ki mi te ar to he sw sd (k_ + 1)) h) (fun k_ => (fTe (fun h_ => h_ < nh) la ki mi te ar to he sw sd (k_ + 1)) h) (fun k_ => fBC (fMask (fun h_ => nI h_ = (-1) ∨ fUp la ki mi (fTe (fun h_ => h_ < nh) la ki mi te ar to he sw sd (k_)) to he sw (sd + k_) h_) nh)) muf i) → J l G (bdP G 3 (some (FieldType.int)) (some (.int (nI (min n (ns - sd))))) (fun w_ => ∃ (j_2_la : Nat → Int32) (j_2_ns : Nat) (j_2_sd : Nat) (j_2_to : Nat → Int32) (j_2_he : Nat → Int32) (j_2_sw : Nat → Int32) (j_2_nh : Nat) (j_2_ki : Nat → Int32) (j_2_te : Nat → Int32) (j_2_mi : Nat → Int32) (j_2_ar : Nat → Int32) (j_2_z : Int32), w_ = (wF [wMo o rw fr kp tr ik tp tm mso bg en wd va gd rs mu rm ss msz msh mho mhn mhz kd nb tn tc bo ip, wMr G rw la ns sd to he sw nh ki te mi ar z, wMr G tr j_2_la j_2_ns j_2_sd j_2_to j_2_he j_2_sw j_2_nh j_2_ki j_2_te j_2_mi j_2_ar j_2_z, wI G mu 30 (fRow3 (fun k_ => (fAr (fun h_ => h_ < nh) la ki mi te ar to he sw sd (k_ + 1)) h) (fun k_ => (fTe (fun h_ => h_ < nh) la ki mi te ar to he sw sd (k_ + 1)) h) (fun k_ => fBC (fMask (fun h_ => nI h_ = (-1) ∨ fUp la ki mi (fTe (fun h_ => h_ < nh) la ki mi te ar to he sw sd (k_)) to he sw (sd + k_) h_) nh)) muf (min n (ns - sd)))]))) cX6_findRows 5 "GooseArmsModel" 13 [some (.ref o), some (.int (nI h)), some (.int (nI n)), some (.int (nI i)), none] [] (wF [wMo o rw fr kp tr ik tp tm mso bg en wd va gd rs mu rm ss msz msh mho mhn mhz kd nb tn tc bo ip, wMr G rw la ns sd1 to he sw nh ki te1 mi ar1 z, wMr G tr la ns sd to he sw nh ki te mi ar z, wI G mu 30 mu1]) := by
    intro n_13_
    induction n_13_ with
    | zero => intro i te1 ar1 sd1 mu1 m_13_; exact absurd m_13_ (Nat.not_lt_zero _)
    | succ n_13_ ih_13_ =>
      intro i te1 ar1 sd1 mu1 m_13_ hi hte har hs1 hmu
      refine J_iload_n 13 3 dX6_findRows_13 rfl rfl ?_
      refine J_iload_n 14 2 dX6_findRows_14 rfl rfl ?_
      refine J_icmp_ge (tgt := 83) 15 dX6_findRows_15 (by decide) (fun c_1_ => ?_) (fun c_1_ => ?_)
      · skip
        have c_1_ : n ≤ i := (nI_leI (a := n) (b := i) (by omega) (by omega)).mp c_1_
        refine J_aload_n 83 0 dX6_findRows_83 rfl rfl ?_
        refine g_792 (v := .ref tr) 84 0 rfl rfl dX6_findRows_84 ?_
        refine J_aload_n 87 0 dX6_findRows_87 rfl rfl ?_
        refine g_789 (v := .ref rw) 88 0 rfl rfl dX6_findRows_88 ?_
        refine kb_RX6_173 (bs' := [wMo o rw fr kp tr ik tp tm mso bg en wd va gd rs mu rm ss msz msh mho mhn mhz kd nb tn tc bo ip, wMr G rw la ns sd to he sw nh ki te mi ar z, wMr G tr la ns sd to he sw nh ki te mi ar z, wI G mu 30 mu1]) (rest := []) (st' := []) 91 (c_X6_moveAll_r l G tr la ns sd to he sw nh ki te mi ar z rw la ns sd1 to he sw nh ki te1 mi ar1 z ) [2, 1] rfl rfl [[tr], [rw]] rfl rfl rfl rfl rfl rfl (Nat.le_of_ble_eq_true rfl) rfl dX6_findRows_91 ?_
        refine J_iload_n 94 3 dX6_findRows_94 rfl rfl ?_
        exact J_iretP 95 dX6_findRows_95 (congrArg (fun x_ => some (Value.int x_)) (by rw [show i = min n (ns - sd) by omega])) ⟨la, ns, sd, to, he, sw, nh, ki, te, mi, ar, z, (cg1 (fun (x0_ : Nat → Int32) => (wF [wMo o rw fr kp tr ik tp tm mso bg en wd va gd rs mu rm ss msz msh mho mhn mhz kd nb tn tc bo ip, wMr G rw la ns sd to he sw nh ki te mi ar z, wMr G tr la ns sd to he sw nh ki te mi ar z, wI G mu 30 x0_])) mu1 (fRow3 (fun k_ => (fAr (fun h_ => h_ < nh) la ki mi te ar to he sw sd (k_ + 1)) h) (fun k_ => (fTe (fun h_ => h_ < nh) la ki mi te ar to he sw sd (k_ + 1)) h) (fun k_ => fBC (fMask (fun h_ => nI h_ = (-1) ∨ fUp la ki mi (fTe (fun h_ => h_ < nh) la ki mi te ar to he sw sd (k_)) to he sw (sd + k_) h_) nh)) muf (min n (ns - sd))) (by rw [hmu, show i = min n (ns - sd) by omega]))⟩
      · skip
        have c_1_ : ¬ n ≤ i := fun z_ => c_1_ ((nI_leI (a := n) (b := i) (by omega) (by omega)).mpr z_)
        refine J_aload_n 18 0 dX6_findRows_18 rfl rfl ?_
        refine kb_RX6_209 (bs' := [wMo o rw fr kp tr ik tp tm mso bg en wd va gd rs mu rm ss msz msh mho mhn mhz kd nb tn tc bo ip, wMr G rw la ns sd1 to he sw nh ki te1 mi ar1 z, wMr G tr la ns sd to he sw nh ki te mi ar z, wI G mu 30 mu1]) (rest := []) (st' := [.int (nI (ns - sd1))]) 19 (c_X6_leftMany l G o rw fr kp tr ik tp tm mso bg en wd va gd rs mu rm ss msz msh mho mhn mhz kd nb tn tc bo ip la ns sd1 to he sw nh ki te1 mi ar1 z (by omega)) [0, 1] 0 rfl rfl rfl [[o], [rw]] rfl rfl rfl rfl rfl rfl (Nat.le_of_ble_eq_true rfl) rfl dX6_findRows_19 ?_
        refine J_if_le (tgt := 83) 22 dX6_findRows_22 (by decide) (fun c_2_ => ?_) (fun c_2_ => ?_)
        · skip
          have c_2_ : (ns - sd1) ≤ 0 := (nI_leI (a := (ns - sd1)) (b := 0) (by omega) (by omega)).mp c_2_
          refine J_aload_n 83 0 dX6_findRows_83 rfl rfl ?_
          refine g_792 (v := .ref tr) 84 0 rfl rfl dX6_findRows_84 ?_
          refine J_aload_n 87 0 dX6_findRows_87 rfl rfl ?_
          refine g_789 (v := .ref rw) 88 0 rfl rfl dX6_findRows_88 ?_
          refine kb_RX6_173 (bs' := [wMo o rw fr kp tr ik tp tm mso bg en wd va gd rs mu rm ss msz msh mho mhn mhz kd nb tn tc bo ip, wMr G rw la ns sd to he sw nh ki te mi ar z, wMr G tr la ns sd to he sw nh ki te mi ar z, wI G mu 30 mu1]) (rest := []) (st' := []) 91 (c_X6_moveAll_r l G tr la ns sd to he sw nh ki te mi ar z rw la ns sd1 to he sw nh ki te1 mi ar1 z ) [2, 1] rfl rfl [[tr], [rw]] rfl rfl rfl rfl rfl rfl (Nat.le_of_ble_eq_true rfl) rfl dX6_findRows_91 ?_
          refine J_iload_n 94 3 dX6_findRows_94 rfl rfl ?_
          exact J_iretP 95 dX6_findRows_95 (congrArg (fun x_ => some (Value.int x_)) (by rw [show i = min n (ns - sd) by omega])) ⟨la, ns, sd, to, he, sw, nh, ki, te, mi, ar, z, (cg1 (fun (x0_ : Nat → Int32) => (wF [wMo o rw fr kp tr ik tp tm mso bg en wd va gd rs mu rm ss msz msh mho mhn mhz kd nb tn tc bo ip, wMr G rw la ns sd to he sw nh ki te mi ar z, wMr G tr la ns sd to he sw nh ki te mi ar z, wI G mu 30 x0_])) mu1 (fRow3 (fun k_ => (fAr (fun h_ => h_ < nh) la ki mi te ar to he sw sd (k_ + 1)) h) (fun k_ => (fTe (fun h_ => h_ < nh) la ki mi te ar to he sw sd (k_ + 1)) h) (fun k_ => fBC (fMask (fun h_ => nI h_ = (-1) ∨ fUp la ki mi (fTe (fun h_ => h_ < nh) la ki mi te ar to he sw sd (k_)) to he sw (sd + k_) h_) nh)) muf (min n (ns - sd))) (by rw [hmu, show i = min n (ns - sd) by omega]))⟩
        · skip
          have c_2_ : ¬ (ns - sd1) ≤ 0 := fun z_ => c_2_ ((nI_leI (a := (ns - sd1)) (b := 0) (by omega) (by omega)).mpr z_)
          refine J_aload_n 25 0 dX6_findRows_25 rfl rfl ?_
          refine J_iconst (v := (-1)) 26 dX6_findRows_26 rfl ?_
          refine kb_RX6_225 (bs' := [wMo o rw fr kp tr ik tp tm mso bg en wd va gd rs mu rm ss msz msh mho mhn mhz kd nb tn tc bo ip, wMr G rw la ns (sd1 + 1) to he sw nh ki (fSel (fun h_ => h_ < nh ∧ (fun h_ => nI h_ = (-1) ∨ fUp la ki mi te1 to he sw sd1 h_) h_) (fun h_ => heldI (te1 h_ - fWears (ki h_) (la 2))) te1) mi (fSel (fun h_ => h_ < nh ∧ (fun h_ => nI h_ = (-1) ∨ fUp la ki mi te1 to he sw sd1 h_) h_) (fun h_ => ar1 h_ ||| onlyI (nI sd1)) ar1) z, wMr G tr la ns sd to he sw nh ki te mi ar z, wI G mu 30 mu1]) (rest := []) (st' := [.int (fMask (fun h_ => nI h_ = (-1) ∨ fUp la ki mi te1 to he sw sd1 h_) nh)]) 27 (c_X6_isSaid l G (-1) o rw fr kp tr ik tp tm mso bg en wd va gd rs mu rm ss msz msh mho mhn mhz kd nb tn tc bo ip la ns sd1 to he sw nh ki te1 mi ar1 z (by first | omega | assumption) (by first | omega | assumption) (by omega)) [0, 1] 0 rfl rfl rfl [[o], [rw]] rfl rfl rfl rfl rfl rfl (Nat.le_of_ble_eq_true rfl) rfl dX6_findRows_27 ?_
          refine J_istore (lv' := [some (.ref o), some (.int (nI h)), some (.int (nI n)), some (.int (nI i)), some (.int (fMask (fun h_ => nI h_ = (-1) ∨ fUp la ki mi te1 to he sw sd1 h_) nh))]) 30 dX6_findRows_30 (by decide) rfl ?_
          refine J_aload_n 32 0 dX6_findRows_32 rfl rfl ?_
          refine g_803 (v := .ref mu) 33 0 rfl rfl dX6_findRows_33 ?_
          refine J_iconst (v := 3) 36 dX6_findRows_36 rfl ?_
          refine J_iload_n 37 3 dX6_findRows_37 rfl rfl ?_
          refine J_imul 38 dX6_findRows_38 ?_
          refine J_topi (y := nI (3 * i)) 39 (pk_mul 3 i) ?_
          refine J_aload_n 39 0 dX6_findRows_39 rfl rfl ?_
          refine J_iload_n 40 1 dX6_findRows_40 rfl rfl ?_
          refine J_iconst (v := 3) 41 dX6_findRows_41 rfl ?_
          refine kb_RX6_187 (bs' := [wMo o rw fr kp tr ik tp tm mso bg en wd va gd rs mu rm ss msz msh mho mhn mhz kd nb tn tc bo ip, wMr G rw la ns (sd1 + 1) to he sw nh ki (fSel (fun h_ => h_ < nh ∧ (fun h_ => nI h_ = (-1) ∨ fUp la ki mi te1 to he sw sd1 h_) h_) (fun h_ => heldI (te1 h_ - fWears (ki h_) (la 2))) te1) mi (fSel (fun h_ => h_ < nh ∧ (fun h_ => nI h_ = (-1) ∨ fUp la ki mi te1 to he sw sd1 h_) h_) (fun h_ => ar1 h_ ||| onlyI (nI sd1)) ar1) z, wMr G tr la ns sd to he sw nh ki te mi ar z, wI G mu 30 mu1]) (rest := [.int (nI (3 * i)), .ref mu]) (st' := [.int ((fSel (fun h_ => h_ < nh ∧ (fun h_ => nI h_ = (-1) ∨ fUp la ki mi te1 to he sw sd1 h_) h_) (fun h_ => ar1 h_ ||| onlyI (nI sd1)) ar1) h), .int (nI (3 * i)), .ref mu]) 42 (c_X6_its_3 l G h o rw fr kp tr ik tp tm mso bg en wd va gd rs mu rm ss msz msh mho mhn mhz kd nb tn tc bo ip la ns (sd1 + 1) to he sw nh ki (fSel (fun h_ => h_ < nh ∧ (fun h_ => nI h_ = (-1) ∨ fUp la ki mi te1 to he sw sd1 h_) h_) (fun h_ => heldI (te1 h_ - fWears (ki h_) (la 2))) te1) mi (fSel (fun h_ => h_ < nh ∧ (fun h_ => nI h_ = (-1) ∨ fUp la ki mi te1 to he sw sd1 h_) h_) (fun h_ => ar1 h_ ||| onlyI (nI sd1)) ar1) z (by first | omega | assumption)) [0, 1] 0 rfl rfl rfl [[o], [rw]] rfl rfl rfl rfl rfl rfl (Nat.le_of_ble_eq_true rfl) rfl dX6_findRows_42 ?_
          refine J_iast (ws' := (wF [wMo o rw fr kp tr ik tp tm mso bg en wd va gd rs mu rm ss msz msh mho mhn mhz kd nb tn tc bo ip, wMr G rw la ns (sd1 + 1) to he sw nh ki (fSel (fun h_ => h_ < nh ∧ (fun h_ => nI h_ = (-1) ∨ fUp la ki mi te1 to he sw sd1 h_) h_) (fun h_ => heldI (te1 h_ - fWears (ki h_) (la 2))) te1) mi (fSel (fun h_ => h_ < nh ∧ (fun h_ => nI h_ = (-1) ∨ fUp la ki mi te1 to he sw sd1 h_) h_) (fun h_ => ar1 h_ ||| onlyI (nI sd1)) ar1) z, wMr G tr la ns sd to he sw nh ki te mi ar z, wI G mu 30 (upd mu1 (i * 3) ((fSel (fun h_ => h_ < nh ∧ (fun h_ => nI h_ = (-1) ∨ fUp la ki mi te1 to he sw sd1 h_) h_) (fun h_ => ar1 h_ ||| onlyI (nI sd1)) ar1) h))])) 45 3 (i * 3) rfl (by rw [Nat.mul_comm]) (by omega) (by decide) rfl dX6_findRows_45 ?_
          refine J_aload_n 46 0 dX6_findRows_46 rfl rfl ?_
          refine g_803 (v := .ref mu) 47 0 rfl rfl dX6_findRows_47 ?_
          refine J_iconst (v := 3) 50 dX6_findRows_50 rfl ?_
          refine J_iload_n 51 3 dX6_findRows_51 rfl rfl ?_
          refine J_imul 52 dX6_findRows_52 ?_
          refine J_topi (y := nI (3 * i)) 53 (pk_mul 3 i) ?_
          refine J_iconst (v := 1) 53 dX6_findRows_53 rfl ?_
          refine J_iadd 54 dX6_findRows_54 ?_
          refine J_topi (y := nI ((3 * i) + 1)) 55 (nI_add (3 * i) 1) ?_
          refine J_aload_n 55 0 dX6_findRows_55 rfl rfl ?_
          refine J_iload_n 56 1 dX6_findRows_56 rfl rfl ?_
          refine J_iconst (v := 1) 57 dX6_findRows_57 rfl ?_
          refine kb_RX6_187 (bs' := [wMo o rw fr kp tr ik tp tm mso bg en wd va gd rs mu rm ss msz msh mho mhn mhz kd nb tn tc bo ip, wMr G rw la ns (sd1 + 1) to he sw nh ki (fSel (fun h_ => h_ < nh ∧ (fun h_ => nI h_ = (-1) ∨ fUp la ki mi te1 to he sw sd1 h_) h_) (fun h_ => heldI (te1 h_ - fWears (ki h_) (la 2))) te1) mi (fSel (fun h_ => h_ < nh ∧ (fun h_ => nI h_ = (-1) ∨ fUp la ki mi te1 to he sw sd1 h_) h_) (fun h_ => ar1 h_ ||| onlyI (nI sd1)) ar1) z, wMr G tr la ns sd to he sw nh ki te mi ar z, wI G mu 30 (upd mu1 (i * 3) ((fSel (fun h_ => h_ < nh ∧ (fun h_ => nI h_ = (-1) ∨ fUp la ki mi te1 to he sw sd1 h_) h_) (fun h_ => ar1 h_ ||| onlyI (nI sd1)) ar1) h))]) (rest := [.int (nI ((3 * i) + 1)), .ref mu]) (st' := [.int ((fSel (fun h_ => h_ < nh ∧ (fun h_ => nI h_ = (-1) ∨ fUp la ki mi te1 to he sw sd1 h_) h_) (fun h_ => heldI (te1 h_ - fWears (ki h_) (la 2))) te1) h), .int (nI ((3 * i) + 1)), .ref mu]) 58 (c_X6_its_1 l G h o rw fr kp tr ik tp tm mso bg en wd va gd rs mu rm ss msz msh mho mhn mhz kd nb tn tc bo ip la ns (sd1 + 1) to he sw nh ki (fSel (fun h_ => h_ < nh ∧ (fun h_ => nI h_ = (-1) ∨ fUp la ki mi te1 to he sw sd1 h_) h_) (fun h_ => heldI (te1 h_ - fWears (ki h_) (la 2))) te1) mi (fSel (fun h_ => h_ < nh ∧ (fun h_ => nI h_ = (-1) ∨ fUp la ki mi te1 to he sw sd1 h_) h_) (fun h_ => ar1 h_ ||| onlyI (nI sd1)) ar1) z (by first | omega | assumption)) [0, 1] 0 rfl rfl rfl [[o], [rw]] rfl rfl rfl rfl rfl rfl (Nat.le_of_ble_eq_true rfl) rfl dX6_findRows_58 ?_
          refine J_iast (ws' := (wF [wMo o rw fr kp tr ik tp tm mso bg en wd va gd rs mu rm ss msz msh mho mhn mhz kd nb tn tc bo ip, wMr G rw la ns (sd1 + 1) to he sw nh ki (fSel (fun h_ => h_ < nh ∧ (fun h_ => nI h_ = (-1) ∨ fUp la ki mi te1 to he sw sd1 h_) h_) (fun h_ => heldI (te1 h_ - fWears (ki h_) (la 2))) te1) mi (fSel (fun h_ => h_ < nh ∧ (fun h_ => nI h_ = (-1) ∨ fUp la ki mi te1 to he sw sd1 h_) h_) (fun h_ => ar1 h_ ||| onlyI (nI sd1)) ar1) z, wMr G tr la ns sd to he sw nh ki te mi ar z, wI G mu 30 (upd (upd mu1 (i * 3) ((fSel (fun h_ => h_ < nh ∧ (fun h_ => nI h_ = (-1) ∨ fUp la ki mi te1 to he sw sd1 h_) h_) (fun h_ => ar1 h_ ||| onlyI (nI sd1)) ar1) h)) (i * 3 + 1) ((fSel (fun h_ => h_ < nh ∧ (fun h_ => nI h_ = (-1) ∨ fUp la ki mi te1 to he sw sd1 h_) h_) (fun h_ => heldI (te1 h_ - fWears (ki h_) (la 2))) te1) h))])) 61 3 (i * 3 + 1) rfl (by rw [Nat.mul_comm]) (by omega) (by decide) rfl dX6_findRows_61 ?_
          refine J_aload_n 62 0 dX6_findRows_62 rfl rfl ?_
          refine g_803 (v := .ref mu) 63 0 rfl rfl dX6_findRows_63 ?_
          refine J_iconst (v := 3) 66 dX6_findRows_66 rfl ?_
          refine J_iload_n 67 3 dX6_findRows_67 rfl rfl ?_
          refine J_imul 68 dX6_findRows_68 ?_
          refine J_topi (y := nI (3 * i)) 69 (pk_mul 3 i) ?_
          refine J_iconst (v := 2) 69 dX6_findRows_69 rfl ?_
          refine J_iadd 70 dX6_findRows_70 ?_
          refine J_topi (y := nI ((3 * i) + 2)) 71 (nI_add (3 * i) 2) ?_
          refine J_iload 71 dX6_findRows_71 rfl ?_
          refine kb_RX6_238 (bs' := [wMo o rw fr kp tr ik tp tm mso bg en wd va gd rs mu rm ss msz msh mho mhn mhz kd nb tn tc bo ip, wMr G rw la ns (sd1 + 1) to he sw nh ki (fSel (fun h_ => h_ < nh ∧ (fun h_ => nI h_ = (-1) ∨ fUp la ki mi te1 to he sw sd1 h_) h_) (fun h_ => heldI (te1 h_ - fWears (ki h_) (la 2))) te1) mi (fSel (fun h_ => h_ < nh ∧ (fun h_ => nI h_ = (-1) ∨ fUp la ki mi te1 to he sw sd1 h_) h_) (fun h_ => ar1 h_ ||| onlyI (nI sd1)) ar1) z, wMr G tr la ns sd to he sw nh ki te mi ar z, wI G mu 30 (upd (upd mu1 (i * 3) ((fSel (fun h_ => h_ < nh ∧ (fun h_ => nI h_ = (-1) ∨ fUp la ki mi te1 to he sw sd1 h_) h_) (fun h_ => ar1 h_ ||| onlyI (nI sd1)) ar1) h)) (i * 3 + 1) ((fSel (fun h_ => h_ < nh ∧ (fun h_ => nI h_ = (-1) ∨ fUp la ki mi te1 to he sw sd1 h_) h_) (fun h_ => heldI (te1 h_ - fWears (ki h_) (la 2))) te1) h))]) (rest := [.int (nI ((3 * i) + 2)), .ref mu]) (st' := [.int (fBC (fMask (fun h_ => nI h_ = (-1) ∨ fUp la ki mi te1 to he sw sd1 h_) nh)), .int (nI ((3 * i) + 2)), .ref mu]) 73 (c_X6_ones l G (fMask (fun h_ => nI h_ = (-1) ∨ fUp la ki mi te1 to he sw sd1 h_) nh) (lo_ex (lo_mask (by omega)))) [] rfl rfl [] rfl rfl rfl rfl rfl rfl (Nat.le_of_ble_eq_true rfl) rfl dX6_findRows_73 ?_
          refine J_iast (ws' := (wF [wMo o rw fr kp tr ik tp tm mso bg en wd va gd rs mu rm ss msz msh mho mhn mhz kd nb tn tc bo ip, wMr G rw la ns (sd1 + 1) to he sw nh ki (fSel (fun h_ => h_ < nh ∧ (fun h_ => nI h_ = (-1) ∨ fUp la ki mi te1 to he sw sd1 h_) h_) (fun h_ => heldI (te1 h_ - fWears (ki h_) (la 2))) te1) mi (fSel (fun h_ => h_ < nh ∧ (fun h_ => nI h_ = (-1) ∨ fUp la ki mi te1 to he sw sd1 h_) h_) (fun h_ => ar1 h_ ||| onlyI (nI sd1)) ar1) z, wMr G tr la ns sd to he sw nh ki te mi ar z, wI G mu 30 (upd (upd (upd mu1 (i * 3) ((fSel (fun h_ => h_ < nh ∧ (fun h_ => nI h_ = (-1) ∨ fUp la ki mi te1 to he sw sd1 h_) h_) (fun h_ => ar1 h_ ||| onlyI (nI sd1)) ar1) h)) (i * 3 + 1) ((fSel (fun h_ => h_ < nh ∧ (fun h_ => nI h_ = (-1) ∨ fUp la ki mi te1 to he sw sd1 h_) h_) (fun h_ => heldI (te1 h_ - fWears (ki h_) (la 2))) te1) h)) (i * 3 + 2) (fBC (fMask (fun h_ => nI h_ = (-1) ∨ fUp la ki mi te1 to he sw sd1 h_) nh)))])) 76 3 (i * 3 + 2) rfl (by rw [Nat.mul_comm]) (by omega) (by decide) rfl dX6_findRows_76 ?_
          refine J_iinc (v := nI (i + 1)) (lv' := [some (.ref o), some (.int (nI h)), some (.int (nI n)), some (.int (nI (i + 1))), some (.int (fMask (fun h_ => nI h_ = (-1) ∨ fUp la ki mi te1 to he sw sd1 h_) nh))]) 77 dX6_findRows_77 rfl (nI_add _ 1) (by decide) rfl ?_
          refine J_goto (tgt := 13) 80 dX6_findRows_80 (by decide) ?_
          refine J_mask (lv' := [some (.ref o), some (.int (nI h)), some (.int (nI n)), some (.int (nI (i + 1))), none]) 13 [true, true, true, true, false] rfl ?_
          exact ih_13_ (i + 1) (fSel (fun h_ => h_ < nh ∧ (fun h_ => nI h_ = (-1) ∨ fUp la ki mi te1 to he sw sd1 h_) h_) (fun h_ => heldI (te1 h_ - fWears (ki h_) (la 2))) te1) (fSel (fun h_ => h_ < nh ∧ (fun h_ => nI h_ = (-1) ∨ fUp la ki mi te1 to he sw sd1 h_) h_) (fun h_ => ar1 h_ ||| onlyI (nI sd1)) ar1) (sd1 + 1) (upd (upd (upd mu1 (i * 3) ((fSel (fun h_ => h_ < nh ∧ (fun h_ => nI h_ = (-1) ∨ fUp la ki mi te1 to he sw sd1 h_) h_) (fun h_ => ar1 h_ ||| onlyI (nI sd1)) ar1) h)) (i * 3 + 1) ((fSel (fun h_ => h_ < nh ∧ (fun h_ => nI h_ = (-1) ∨ fUp la ki mi te1 to he sw sd1 h_) h_) (fun h_ => heldI (te1 h_ - fWears (ki h_) (la 2))) te1) h)) (i * 3 + 2) (fBC (fMask (fun h_ => nI h_ = (-1) ∨ fUp la ki mi te1 to he sw sd1 h_) nh))) (by omega) (by first | assumption | omega | rfl) (by first | exact fTe_0 | exact (fTA_s hte har hs1 (mQ_iff hnh)).1) (by first | exact fAr_0 | exact (fTA_s hte har hs1 (mQ_iff hnh)).2) (by first | assumption | omega | rfl) (by first | exact fRow3_s hmu (congrFun (fTA_s hte har hs1 (mQ_iff hnh)).2 h) (congrFun (fTA_s hte har hs1 (mQ_iff hnh)).1 h) (by rw [hte, hs1]) | rfl)
  refine J_aload_n 0 0 dX6_findRows_0 rfl rfl ?_
  refine g_789 (v := .ref rw) 1 0 rfl rfl dX6_findRows_1 ?_
  refine J_aload_n 4 0 dX6_findRows_4 rfl rfl ?_
  refine g_792 (v := .ref tr) 5 0 rfl rfl dX6_findRows_5 ?_
  refine kb_RX6_173 (bs' := [wMo o rw fr kp tr ik tp tm mso bg en wd va gd rs mu rm ss msz msh mho mhn mhz kd nb tn tc bo ip, wMr G rw la ns sd to he sw nh ki te mi ar z, wMr G tr la ns sd to he sw nh ki te mi ar z, wI G mu 30 muf]) (rest := []) (st' := []) 8 (c_X6_moveAll_r l G rw la ns sd to he sw nh ki te mi ar z tr t_la t_ns t_sd t_to t_he t_sw t_nh t_ki t_te t_mi t_ar t_z ) [1, 2] rfl rfl [[rw], [tr]] rfl rfl rfl rfl rfl rfl (Nat.le_of_ble_eq_true rfl) rfl dX6_findRows_8 ?_
  refine J_iconst (v := 0) 11 dX6_findRows_11 rfl ?_
  refine J_istore_n (lv' := [some (.ref o), some (.int (nI h)), some (.int (nI n)), some (.int 0), none]) 12 3 dX6_findRows_12 rfl (by decide) rfl ?_
  exact cut_13_ ((min n (ns - sd) - 0) + 1) 0 te ar sd muf (Nat.lt_succ_self _) (by first | assumption | omega | rfl) (by first | exact fTe_0 | exact (fTA_s hte har hs1 (mQ_iff hnh)).1) (by first | exact fAr_0 | exact (fTA_s hte har hs1 (mQ_iff hnh)).2) (by first | assumption | omega | rfl) (by first | exact fRow3_s hmu (congrFun (fTA_s hte har hs1 (mQ_iff hnh)).2 h) (congrFun (fTA_s hte har hs1 (mQ_iff hnh)).1 h) (by rw [hte, hs1]) | rfl)
set_option maxRecDepth 100000 in
set_option maxHeartbeats 4000000 in
theorem c_X6_prove_bad (l : Launch) (G : Gd) (h : Int32) (n : Int32) (o : Nat) (rw : Nat) (fr : Nat) (kp : Nat) (tr : Nat) (ik : Int32) (tp : Nat) (tm : Nat) (mso : Int32) (bg : Nat) (en : Nat) (wd : Int64) (va : Int32) (gd : Int32) (rs : Nat) (mu : Nat) (rm : Nat) (ss : Nat) (msz : Nat) (msh : Nat) (mho : Nat) (mhn : Nat) (mhz : Nat) (kd : Int32) (nb : Int32) (tn : Int32) (tc : Nat) (bo : Nat) (ip : Int32) (la : Nat → Int32) (ns : Nat) (sd : Nat) (to : Nat → Int32) (he : Nat → Int32) (sw : Nat → Int32) (nh : Nat) (ki : Nat → Int32) (te : Nat → Int32) (mi : Nat → Int32) (ar : Nat → Int32) (z : Int32) (hw : ¬ (0 ≤ h ∧ h ≤ nI nh - 1)) : Ct l G yX6_prove cX6_prove 4 (some (FieldType.int)) 4 [.ref o, .int h, .int n] (wF [wMo o rw fr kp tr ik tp tm mso bg en wd va gd rs mu rm ss msz msh mho mhn mhz kd nb tn tc bo ip, wMr G rw la ns sd to he sw nh ki te mi ar z]) (some (.int (-1))) (wF [wMo o rw fr kp tr ik tp tm mso bg en wd va gd rs mu rm ss msz msh mho mhn mhz kd nb tn tc bo ip, wMr G rw la ns sd to he sw nh ki te mi ar z]) := by
  refine Ct.of "GooseArmsModel" [some (.ref o), some (.int h), some (.int n), none] (by decide +kernel) rfl (Nat.le_of_ble_eq_true rfl) rfl ?_
  refine J_aload_n 0 0 dX6_prove_0 rfl rfl ?_
  refine J_iload_n 1 1 dX6_prove_1 rfl rfl ?_
  refine kb_RX6_206 (bs' := [wMo o rw fr kp tr ik tp tm mso bg en wd va gd rs mu rm ss msz msh mho mhn mhz kd nb tn tc bo ip, wMr G rw la ns sd to he sw nh ki te mi ar z]) (rest := []) (st' := [.int 0]) 2 (c_X6_isOne_f l G h o rw fr kp tr ik tp tm mso bg en wd va gd rs mu rm ss msz msh mho mhn mhz kd nb tn tc bo ip la ns sd to he sw nh ki te mi ar z (by first | omega | assumption)) [0, 1] 0 rfl rfl rfl [[o], [rw]] rfl rfl rfl rfl rfl rfl (Nat.le_of_ble_eq_true rfl) rfl dX6_prove_2 ?_
  refine J_if_eq (tgt := 18) 5 dX6_prove_5 (by decide) (fun _ => ?_) (fun c_1_ => absurd c_1_ (by decide))
  refine J_iconst (v := (-1)) 18 dX6_prove_18 rfl ?_
  exact J_iret 19 dX6_prove_19 rfl rfl
set_option maxRecDepth 100000 in
set_option maxHeartbeats 4000000 in
theorem c_X6_prove_badv (l : Launch) (G : Gd) (h : Nat) (n : Int32) (o : Nat) (rw : Nat) (fr : Nat) (kp : Nat) (tr : Nat) (ik : Int32) (tp : Nat) (tm : Nat) (mso : Int32) (bg : Nat) (en : Nat) (wd : Int64) (va : Int32) (gd : Int32) (rs : Nat) (mu : Nat) (rm : Nat) (ss : Nat) (msz : Nat) (msh : Nat) (mho : Nat) (mhn : Nat) (mhz : Nat) (kd : Int32) (nb : Int32) (tn : Int32) (tc : Nat) (bo : Nat) (ip : Int32) (la : Nat → Int32) (ns : Nat) (sd : Nat) (to : Nat → Int32) (he : Nat → Int32) (sw : Nat → Int32) (nh : Nat) (ki : Nat → Int32) (te : Nat → Int32) (mi : Nat → Int32) (ar : Nat → Int32) (z : Int32) (hh : h < nh) (hnh : nh ≤ 8) (hw : ¬ (1 ≤ n ∧ n ≤ 10)) : Ct l G yX6_prove cX6_prove 4 (some (FieldType.int)) 4 [.ref o, .int (nI h), .int n] (wF [wMo o rw fr kp tr ik tp tm mso bg en wd va gd rs mu rm ss msz msh mho mhn mhz kd nb tn tc bo ip, wMr G rw la ns sd to he sw nh ki te mi ar z]) (some (.int (-1))) (wF [wMo o rw fr kp tr ik tp tm mso bg en wd va gd rs mu rm ss msz msh mho mhn mhz kd nb tn tc bo ip, wMr G rw la ns sd to he sw nh ki te mi ar z]) := by
  refine Ct.of "GooseArmsModel" [some (.ref o), some (.int (nI h)), some (.int n), none] (by decide +kernel) rfl (Nat.le_of_ble_eq_true rfl) rfl ?_
  refine J_aload_n 0 0 dX6_prove_0 rfl rfl ?_
  refine J_iload_n 1 1 dX6_prove_1 rfl rfl ?_
  refine kb_RX6_206 (bs' := [wMo o rw fr kp tr ik tp tm mso bg en wd va gd rs mu rm ss msz msh mho mhn mhz kd nb tn tc bo ip, wMr G rw la ns sd to he sw nh ki te mi ar z]) (rest := []) (st' := [.int 1]) 2 (c_X6_isOne_t l G h o rw fr kp tr ik tp tm mso bg en wd va gd rs mu rm ss msz msh mho mhn mhz kd nb tn tc bo ip la ns sd to he sw nh ki te mi ar z (by assumption) (by omega)) [0, 1] 0 rfl rfl rfl [[o], [rw]] rfl rfl rfl rfl rfl rfl (Nat.le_of_ble_eq_true rfl) rfl dX6_prove_2 ?_
  refine J_if_eq (tgt := 18) 5 dX6_prove_5 (by decide) (fun c_1_ => absurd c_1_ (by decide)) (fun _ => ?_)
  refine J_iload_n 8 2 dX6_prove_8 rfl rfl ?_
  refine J_iconst (v := 1) 9 dX6_prove_9 rfl ?_
  refine J_bipush (v := 10) 10 dX6_prove_10 rfl ?_
  refine kb_RX6_57 (bs' := [wMo o rw fr kp tr ik tp tm mso bg en wd va gd rs mu rm ss msz msh mho mhn mhz kd nb tn tc bo ip, wMr G rw la ns sd to he sw nh ki te mi ar z]) (rest := []) (st' := [.int 0]) 12 (c_X6_in_f l G n 1 10 hw) [] rfl rfl [] rfl rfl rfl rfl rfl rfl (Nat.le_of_ble_eq_true rfl) rfl dX6_prove_12 ?_
  refine J_if_ne (tgt := 20) 15 dX6_prove_15 (by decide) (fun c_2_ => absurd c_2_ (by decide)) (fun _ => ?_)
  refine J_iconst (v := (-1)) 18 dX6_prove_18 rfl ?_
  exact J_iret 19 dX6_prove_19 rfl rfl
set_option maxRecDepth 100000 in
set_option maxHeartbeats 4000000 in
theorem c_X6_prove_ok (l : Launch) (G : Gd) (h : Nat) (n : Nat) (o : Nat) (rw : Nat) (fr : Nat) (kp : Nat) (tr : Nat) (ik : Int32) (tp : Nat) (tm : Nat) (mso : Int32) (bg : Nat) (en : Nat) (wd : Int64) (va : Int32) (gd : Int32) (rs : Nat) (mu : Nat) (rm : Nat) (ss : Nat) (msz : Nat) (msh : Nat) (mho : Nat) (mhn : Nat) (mhz : Nat) (kd : Int32) (nb : Int32) (tn : Int32) (tc : Nat) (bo : Nat) (ip : Int32) (la : Nat → Int32) (ns : Nat) (sd : Nat) (to : Nat → Int32) (he : Nat → Int32) (sw : Nat → Int32) (nh : Nat) (ki : Nat → Int32) (te : Nat → Int32) (mi : Nat → Int32) (ar : Nat → Int32) (z : Int32) (t_la : Nat → Int32) (t_ns : Nat) (t_sd : Nat) (t_to : Nat → Int32) (t_he : Nat → Int32) (t_sw : Nat → Int32) (t_nh : Nat) (t_ki : Nat → Int32) (t_te : Nat → Int32) (t_mi : Nat → Int32) (t_ar : Nat → Int32) (t_z : Int32) (muf : Nat → Int32) (rf : Nat → Int32) (hh : h < nh) (hnh : nh ≤ 8) (hns : ns ≤ 12) (hsd : sd ≤ ns) (h1 : 1 ≤ n) (h10 : n ≤ 10) : CtP l G yX6_prove cX6_prove 4 (some (FieldType.int)) 4 [.ref o, .int (nI h), .int (nI n)] (wF [wMo o rw fr kp tr ik tp tm mso bg en wd va gd rs mu rm ss msz msh mho mhn mhz kd nb tn tc bo ip, wMr G rw la ns sd to he sw nh ki te mi ar z, wMr G tr t_la t_ns t_sd t_to t_he t_sw t_nh t_ki t_te t_mi t_ar t_z, wI G mu 30 muf, wI G rs 30 rf]) (some (.int (nI (min n (ns - sd))))) (fun w_ => ∃ (j_2_la : Nat → Int32) (j_2_ns : Nat) (j_2_sd : Nat) (j_2_to : Nat → Int32) (j_2_he : Nat → Int32) (j_2_sw : Nat → Int32) (j_2_nh : Nat) (j_2_ki : Nat → Int32) (j_2_te : Nat → Int32) (j_2_mi : Nat → Int32) (j_2_ar : Nat → Int32) (j_2_z : Int32) (j_3_f : Nat → Int32), w_ = (wF [wMo o rw fr kp tr ik tp tm mso bg en wd va gd rs mu (min n (ns - sd)) ss msz msh mho mhn mhz kd nb tn tc bo ip, wMr G rw la ns sd to he sw nh ki te mi ar z, wMr G tr j_2_la j_2_ns j_2_sd j_2_to j_2_he j_2_sw j_2_nh j_2_ki j_2_te j_2_mi j_2_ar j_2_z, wI G mu 30 j_3_f, wI G rs 30 (fun j_ => if j_ < 3 * min n (ns - sd) then (fRow3 (fun k_ => (fAr (fun h_ => h_ < nh) la ki mi te ar to he sw sd (k_ + 1)) h) (fun k_ => (fTe (fun h_ => h_ < nh) la ki mi te ar to he sw sd (k_ + 1)) h) (fun k_ => fBC (fMask (fun h_ => nI h_ = (-1) ∨ fUp la ki mi (fTe (fun h_ => h_ < nh) la ki mi te ar to he sw sd (k_)) to he sw (sd + k_) h_) nh)) muf (min n (ns - sd))) j_ else rf j_)])) := by
  refine CtP.of "GooseArmsModel" [some (.ref o), some (.int (nI h)), some (.int (nI n)), none] (by decide +kernel) rfl (Nat.le_of_ble_eq_true rfl) rfl ?_
  have cut_32_ : ∀ (n_32_ : Nat) (k : Nat) (rf1 : Nat → Int32) (t_la1 : Nat → Int32) (t_ns1 : Nat) (t_sd1 : Nat) (t_to1 : Nat → Int32) (t_he1 : Nat → Int32) (t_sw1 : Nat → Int32) (t_nh1 : Nat) (t_ki1 : Nat → Int32) (t_te1 : Nat → Int32) (t_mi1 : Nat → Int32) (t_ar1 : Nat → Int32) (t_z1 : Int32), (3 * min n (ns - sd) - k < n_32_) → (hk : k ≤ 3 * min n (ns - sd)) → (hrf : rf1 = (fun j_ => if j_ < k then (fRow3 (fun k_ => (fAr (fun h_ => h_ < nh) la ki mi te ar to he sw sd (k_ + 1)) h) (fun k_ => (fTe (fun h_ => h_ < nh) la ki mi te ar to he sw sd (k_ + 1)) h) (fun k_ => fBC (fMask (fun h_ => nI h_ = (-1) ∨ fUp la ki mi (fTe (fun h_ => h_ < nh) la ki mi te ar to he sw sd (k_)) to he sw (sd + k_) h_) nh)) muf (min n (ns - sd))) j_ else rf j_)) → J l G (bdP G 4 (some (FieldType.int)) (some (.int (nI (min n (ns - sd))))) (fun w_ => ∃ (j_2_la : Nat → Int32) (j_2_ns : Nat) (j_2_sd : Nat) (j_2_to : Nat → Int32) (j_2_he : Nat → Int32) (j_2_sw : Nat → Int32) (j_2_nh : Nat) (j_2_ki : Nat → Int32) (j_2_te : Nat → Int32) (j_2_mi : Nat → Int32) (j_2_ar : Nat → Int32) (j_2_z : Int32) (j_3_f : Nat → Int32), w_ = (wF [wMo o rw fr kp tr ik tp tm mso bg en wd va gd rs mu (min n (ns - sd)) ss msz msh mho mhn mhz kd nb tn tc bo ip, wMr G rw la ns sd to he sw nh ki te mi ar z, wMr G tr j_2_la j_2_ns j_2_sd j_2_to j_2_he j_2_sw j_2_nh j_2_ki j_2_te j_2_mi j_2_ar j_2_z, wI G mu 30 j_3_f, wI G rs 30 (fun j_ => if j_ < 3 * min n (ns - sd) then (fRow3 (fun k_ => (fAr (fun h_ => h_ < nh) la ki mi te ar to he sw sd (k_ + 1)) h) (fun k_ => (fTe (fun h_ => h_ < nh) la ki mi te ar to he sw sd (k_ + 1)) h) (fun k_ => fBC (fMask (fun h_ => nI h_ = (-1) ∨ fUp la ki mi (fTe (fun h_ => h_ < nh) la ki mi te ar to he sw sd (k_)) to he sw (sd + k_) h_) nh)) muf (min n (ns - sd))) j_ else rf j_)]))) cX6_prove 4 "GooseArmsModel" 32 [some (.ref o), some (.int (nI h)), some (.int (nI n)), some (.int (nI k))] [] (wF [wMo o rw fr kp tr ik tp tm mso bg en wd va gd rs mu (min n (ns - sd)) ss msz msh mho mhn mhz kd nb tn tc bo ip, wMr G rw la ns sd to he sw nh ki te mi ar z, wMr G tr t_la1 t_ns1 t_sd1 t_to1 t_he1 t_sw1 t_nh1 t_ki1 t_te1 t_mi1 t_ar1 t_z1, wI G mu 30 (fRow3 (fun k_ => (fAr (fun h_ => h_ < nh) la ki mi te ar to he sw sd (k_ + 1)) h) (fun k_ => (fTe (fun h_ => h_ < nh) la ki mi te ar to he sw sd (k_ + 1)) h) (fun k_ => fBC (fMask (fun h_ => nI h_ = (-1) ∨ fUp la ki mi (fTe (fun h_ => h_ < nh) la ki mi te ar to he sw sd (k_)) to he sw (sd + k_) h_) nh)) muf (min n (ns - sd))), wI G rs 30 rf1]) := by
    intro n_32_
    induction n_32_ with
    | zero => intro k rf1 t_la1 t_ns1 t_sd1 t_to1 t_he1 t_sw1 t_nh1 t_ki1 t_te1 t_mi1 t_ar1 t_z1 m_32_; exact absurd m_32_ (Nat.not_lt_zero _)
    | succ n_32_ ih_32_ =>
      intro k rf1 t_la1 t_ns1 t_sd1 t_to1 t_he1 t_sw1 t_nh1 t_ki1 t_te1 t_mi1 t_ar1 t_z1 m_32_ hk hrf
      refine J_iload_n 32 3 dX6_prove_32 rfl rfl ?_
      refine J_iconst (v := 3) 33 dX6_prove_33 rfl ?_
      refine J_aload_n 34 0 dX6_prove_34 rfl rfl ?_
      refine g_804 (v := .int (nI (min n (ns - sd)))) 35 0 rfl rfl dX6_prove_35 ?_
      refine J_imul 38 dX6_prove_38 ?_
      refine J_topi (y := nI (3 * (min n (ns - sd)))) 39 (pk_mul 3 (min n (ns - sd))) ?_
      refine J_icmp_ge (tgt := 60) 39 dX6_prove_39 (by decide) (fun c_1_ => ?_) (fun c_1_ => ?_)
      · skip
        have c_1_ : (3 * (min n (ns - sd))) ≤ k := (nI_leI (a := (3 * (min n (ns - sd)))) (b := k) (by omega) (by omega)).mp c_1_
        refine J_aload_n 60 0 dX6_prove_60 rfl rfl ?_
        refine g_804 (v := .int (nI (min n (ns - sd)))) 61 0 rfl rfl dX6_prove_61 ?_
        exact J_iretP 64 dX6_prove_64 rfl ⟨t_la1, t_ns1, t_sd1, t_to1, t_he1, t_sw1, t_nh1, t_ki1, t_te1, t_mi1, t_ar1, t_z1, (fRow3 (fun k_ => (fAr (fun h_ => h_ < nh) la ki mi te ar to he sw sd (k_ + 1)) h) (fun k_ => (fTe (fun h_ => h_ < nh) la ki mi te ar to he sw sd (k_ + 1)) h) (fun k_ => fBC (fMask (fun h_ => nI h_ = (-1) ∨ fUp la ki mi (fTe (fun h_ => h_ < nh) la ki mi te ar to he sw sd (k_)) to he sw (sd + k_) h_) nh)) muf (min n (ns - sd))), (cg1 (fun (x0_ : Nat → Int32) => (wF [wMo o rw fr kp tr ik tp tm mso bg en wd va gd rs mu (min n (ns - sd)) ss msz msh mho mhn mhz kd nb tn tc bo ip, wMr G rw la ns sd to he sw nh ki te mi ar z, wMr G tr t_la1 t_ns1 t_sd1 t_to1 t_he1 t_sw1 t_nh1 t_ki1 t_te1 t_mi1 t_ar1 t_z1, wI G mu 30 (fRow3 (fun k_ => (fAr (fun h_ => h_ < nh) la ki mi te ar to he sw sd (k_ + 1)) h) (fun k_ => (fTe (fun h_ => h_ < nh) la ki mi te ar to he sw sd (k_ + 1)) h) (fun k_ => fBC (fMask (fun h_ => nI h_ = (-1) ∨ fUp la ki mi (fTe (fun h_ => h_ < nh) la ki mi te ar to he sw sd (k_)) to he sw (sd + k_) h_) nh)) muf (min n (ns - sd))), wI G rs 30 x0_])) rf1 (fun j_ => if j_ < 3 * min n (ns - sd) then (fRow3 (fun k_ => (fAr (fun h_ => h_ < nh) la ki mi te ar to he sw sd (k_ + 1)) h) (fun k_ => (fTe (fun h_ => h_ < nh) la ki mi te ar to he sw sd (k_ + 1)) h) (fun k_ => fBC (fMask (fun h_ => nI h_ = (-1) ∨ fUp la ki mi (fTe (fun h_ => h_ < nh) la ki mi te ar to he sw sd (k_)) to he sw (sd + k_) h_) nh)) muf (min n (ns - sd))) j_ else rf j_) (by rw [hrf, show k = 3 * min n (ns - sd) by omega]))⟩
      · skip
        have c_1_ : ¬ (3 * (min n (ns - sd))) ≤ k := fun z_ => c_1_ ((nI_leI (a := (3 * (min n (ns - sd)))) (b := k) (by omega) (by omega)).mpr z_)
        refine J_aload_n 42 0 dX6_prove_42 rfl rfl ?_
        refine g_802 (v := .ref rs) 43 0 rfl rfl dX6_prove_43 ?_
        refine J_iload_n 46 3 dX6_prove_46 rfl rfl ?_
        refine J_aload_n 47 0 dX6_prove_47 rfl rfl ?_
        refine g_803 (v := .ref mu) 48 0 rfl rfl dX6_prove_48 ?_
        refine J_iload_n 51 3 dX6_prove_51 rfl rfl ?_
        refine J_iald 52 3 k rfl rfl (by omega) (by decide) dX6_prove_52 ?_
        refine J_iast (ws' := (wF [wMo o rw fr kp tr ik tp tm mso bg en wd va gd rs mu (min n (ns - sd)) ss msz msh mho mhn mhz kd nb tn tc bo ip, wMr G rw la ns sd to he sw nh ki te mi ar z, wMr G tr t_la1 t_ns1 t_sd1 t_to1 t_he1 t_sw1 t_nh1 t_ki1 t_te1 t_mi1 t_ar1 t_z1, wI G mu 30 (fRow3 (fun k_ => (fAr (fun h_ => h_ < nh) la ki mi te ar to he sw sd (k_ + 1)) h) (fun k_ => (fTe (fun h_ => h_ < nh) la ki mi te ar to he sw sd (k_ + 1)) h) (fun k_ => fBC (fMask (fun h_ => nI h_ = (-1) ∨ fUp la ki mi (fTe (fun h_ => h_ < nh) la ki mi te ar to he sw sd (k_)) to he sw (sd + k_) h_) nh)) muf (min n (ns - sd))), wI G rs 30 (upd rf1 k ((fRow3 (fun k_ => (fAr (fun h_ => h_ < nh) la ki mi te ar to he sw sd (k_ + 1)) h) (fun k_ => (fTe (fun h_ => h_ < nh) la ki mi te ar to he sw sd (k_ + 1)) h) (fun k_ => fBC (fMask (fun h_ => nI h_ = (-1) ∨ fUp la ki mi (fTe (fun h_ => h_ < nh) la ki mi te ar to he sw sd (k_)) to he sw (sd + k_) h_) nh)) muf (min n (ns - sd))) k))])) 53 4 k rfl rfl (by omega) (by decide) rfl dX6_prove_53 ?_
        refine J_iinc (v := nI (k + 1)) (lv' := [some (.ref o), some (.int (nI h)), some (.int (nI n)), some (.int (nI (k + 1)))]) 54 dX6_prove_54 rfl (nI_add _ 1) (by decide) rfl ?_
        refine J_goto (tgt := 32) 57 dX6_prove_57 (by decide) ?_
        exact ih_32_ (k + 1) (upd rf1 k ((fRow3 (fun k_ => (fAr (fun h_ => h_ < nh) la ki mi te ar to he sw sd (k_ + 1)) h) (fun k_ => (fTe (fun h_ => h_ < nh) la ki mi te ar to he sw sd (k_ + 1)) h) (fun k_ => fBC (fMask (fun h_ => nI h_ = (-1) ∨ fUp la ki mi (fTe (fun h_ => h_ < nh) la ki mi te ar to he sw sd (k_)) to he sw (sd + k_) h_) nh)) muf (min n (ns - sd))) k)) t_la1 t_ns1 t_sd1 t_to1 t_he1 t_sw1 t_nh1 t_ki1 t_te1 t_mi1 t_ar1 t_z1 (by omega) (by first | assumption | omega | rfl) (by first | exact mvI_s hrf | exact (funext fun j_ => (if_neg (Nat.not_lt_zero _)).symm))
  refine J_aload_n 0 0 dX6_prove_0 rfl rfl ?_
  refine J_iload_n 1 1 dX6_prove_1 rfl rfl ?_
  refine kb_RX6_206 (bs' := [wMo o rw fr kp tr ik tp tm mso bg en wd va gd rs mu rm ss msz msh mho mhn mhz kd nb tn tc bo ip, wMr G rw la ns sd to he sw nh ki te mi ar z, wMr G tr t_la t_ns t_sd t_to t_he t_sw t_nh t_ki t_te t_mi t_ar t_z, wI G mu 30 muf, wI G rs 30 rf]) (rest := []) (st' := [.int 1]) 2 (c_X6_isOne_t l G h o rw fr kp tr ik tp tm mso bg en wd va gd rs mu rm ss msz msh mho mhn mhz kd nb tn tc bo ip la ns sd to he sw nh ki te mi ar z (by assumption) (by omega)) [0, 1] 0 rfl rfl rfl [[o], [rw]] rfl rfl rfl rfl rfl rfl (Nat.le_of_ble_eq_true rfl) rfl dX6_prove_2 ?_
  refine J_if_eq (tgt := 18) 5 dX6_prove_5 (by decide) (fun c_2_ => absurd c_2_ (by decide)) (fun _ => ?_)
  refine J_iload_n 8 2 dX6_prove_8 rfl rfl ?_
  refine J_iconst (v := 1) 9 dX6_prove_9 rfl ?_
  refine J_bipush (v := 10) 10 dX6_prove_10 rfl ?_
  refine kb_RX6_57 (bs' := [wMo o rw fr kp tr ik tp tm mso bg en wd va gd rs mu rm ss msz msh mho mhn mhz kd nb tn tc bo ip, wMr G rw la ns sd to he sw nh ki te mi ar z, wMr G tr t_la t_ns t_sd t_to t_he t_sw t_nh t_ki t_te t_mi t_ar t_z, wI G mu 30 muf, wI G rs 30 rf]) (rest := []) (st' := [.int 1]) 12 (c_X6_in_t l G (nI n) 1 10 (inM_t (a := 1) (m := 10) h1 h10 (by decide))) [] rfl rfl [] rfl rfl rfl rfl rfl rfl (Nat.le_of_ble_eq_true rfl) rfl dX6_prove_12 ?_
  refine J_if_ne (tgt := 20) 15 dX6_prove_15 (by decide) (fun _ => ?_) (fun c_3_ => absurd c_3_ (by decide))
  refine J_aload_n 20 0 dX6_prove_20 rfl rfl ?_
  refine J_aload_n 21 0 dX6_prove_21 rfl rfl ?_
  refine J_iload_n 22 1 dX6_prove_22 rfl rfl ?_
  refine J_iload_n 23 2 dX6_prove_23 rfl rfl ?_
  refine J_bVP (rest := [.ref o]) (st' := [.int (nI (min n (ns - sd))), .ref o]) 24 (c_X6_findRows l G h n o rw fr kp tr ik tp tm mso bg en wd va gd rs mu rm ss msz msh mho mhn mhz kd nb tn tc bo ip la ns sd to he sw nh ki te mi ar z t_la t_ns t_sd t_to t_he t_sw t_nh t_ki t_te t_mi t_ar t_z muf (by first | omega | assumption) (by first | omega | assumption) (by first | omega | assumption) (by first | omega | assumption) (by first | omega | assumption)) w_1195 w_1197 v_56 w_7 w_1198 ok_X6_findRows [0, 1, 2, 3] 0 6 rfl rfl rfl rfl [[o], [rw], [tr], [mu]] rfl (fun w1s_ => ∃ (x_24_2_la : Nat → Int32) (x_24_2_ns : Nat) (x_24_2_sd : Nat) (x_24_2_to : Nat → Int32) (x_24_2_he : Nat → Int32) (x_24_2_sw : Nat → Int32) (x_24_2_nh : Nat) (x_24_2_ki : Nat → Int32) (x_24_2_te : Nat → Int32) (x_24_2_mi : Nat → Int32) (x_24_2_ar : Nat → Int32) (x_24_2_z : Int32), w1s_ = [wMo o rw fr kp tr ik tp tm mso bg en wd va gd rs mu rm ss msz msh mho mhn mhz kd nb tn tc bo ip, wMr G rw la ns sd to he sw nh ki te mi ar z, wMr G tr x_24_2_la x_24_2_ns x_24_2_sd x_24_2_to x_24_2_he x_24_2_sw x_24_2_nh x_24_2_ki x_24_2_te x_24_2_mi x_24_2_ar x_24_2_z, wI G mu 30 (fRow3 (fun k_ => (fAr (fun h_ => h_ < nh) la ki mi te ar to he sw sd (k_ + 1)) h) (fun k_ => (fTe (fun h_ => h_ < nh) la ki mi te ar to he sw sd (k_ + 1)) h) (fun k_ => fBC (fMask (fun h_ => nI h_ = (-1) ∨ fUp la ki mi (fTe (fun h_ => h_ < nh) la ki mi te ar to he sw sd (k_)) to he sw (sd + k_) h_) nh)) muf (min n (ns - sd)))]) (by rintro _ ⟨x_24_2_la, x_24_2_ns, x_24_2_sd, x_24_2_to, x_24_2_he, x_24_2_sw, x_24_2_nh, x_24_2_ki, x_24_2_te, x_24_2_mi, x_24_2_ar, x_24_2_z, rfl⟩; exact ⟨_, rfl, ⟨x_24_2_la, x_24_2_ns, x_24_2_sd, x_24_2_to, x_24_2_he, x_24_2_sw, x_24_2_nh, x_24_2_ki, x_24_2_te, x_24_2_mi, x_24_2_ar, x_24_2_z, rfl⟩, rfl⟩) rfl rfl rfl (Nat.le_of_ble_eq_true rfl) rfl dX6_prove_24 (fun w1_ hw1_ => ?_)
  obtain ⟨x_24_2_la, x_24_2_ns, x_24_2_sd, x_24_2_to, x_24_2_he, x_24_2_sw, x_24_2_nh, x_24_2_ki, x_24_2_te, x_24_2_mi, x_24_2_ar, x_24_2_z, rfl⟩ := hw1_
  refine J_ws (ws' := (wF [wMo o rw fr kp tr ik tp tm mso bg en wd va gd rs mu rm ss msz msh mho mhn mhz kd nb tn tc bo ip, wMr G rw la ns sd to he sw nh ki te mi ar z, wMr G tr x_24_2_la x_24_2_ns x_24_2_sd x_24_2_to x_24_2_he x_24_2_sw x_24_2_nh x_24_2_ki x_24_2_te x_24_2_mi x_24_2_ar x_24_2_z, wI G mu 30 (fRow3 (fun k_ => (fAr (fun h_ => h_ < nh) la ki mi te ar to he sw sd (k_ + 1)) h) (fun k_ => (fTe (fun h_ => h_ < nh) la ki mi te ar to he sw sd (k_ + 1)) h) (fun k_ => fBC (fMask (fun h_ => nI h_ = (-1) ∨ fUp la ki mi (fTe (fun h_ => h_ < nh) la ki mi te ar to he sw sd (k_)) to he sw (sd + k_) h_) nh)) muf (min n (ns - sd))), wI G rs 30 rf])) 27 rfl ?_
  refine p_804 (ws' := (wF [wMo o rw fr kp tr ik tp tm mso bg en wd va gd rs mu (min n (ns - sd)) ss msz msh mho mhn mhz kd nb tn tc bo ip, wMr G rw la ns sd to he sw nh ki te mi ar z, wMr G tr x_24_2_la x_24_2_ns x_24_2_sd x_24_2_to x_24_2_he x_24_2_sw x_24_2_nh x_24_2_ki x_24_2_te x_24_2_mi x_24_2_ar x_24_2_z, wI G mu 30 (fRow3 (fun k_ => (fAr (fun h_ => h_ < nh) la ki mi te ar to he sw sd (k_ + 1)) h) (fun k_ => (fTe (fun h_ => h_ < nh) la ki mi te ar to he sw sd (k_ + 1)) h) (fun k_ => fBC (fMask (fun h_ => nI h_ = (-1) ∨ fUp la ki mi (fTe (fun h_ => h_ < nh) la ki mi te ar to he sw sd (k_)) to he sw (sd + k_) h_) nh)) muf (min n (ns - sd))), wI G rs 30 rf])) 27 0 rfl rfl rfl (Nat.le_of_ble_eq_true rfl) rfl dX6_prove_27 ?_
  refine J_iconst (v := 0) 30 dX6_prove_30 rfl ?_
  refine J_istore_n (lv' := [some (.ref o), some (.int (nI h)), some (.int (nI n)), some (.int 0)]) 31 3 dX6_prove_31 rfl (by decide) rfl ?_
  exact cut_32_ ((3 * min n (ns - sd) - 0) + 1) 0 rf x_24_2_la x_24_2_ns x_24_2_sd x_24_2_to x_24_2_he x_24_2_sw x_24_2_nh x_24_2_ki x_24_2_te x_24_2_mi x_24_2_ar x_24_2_z (Nat.lt_succ_self _) (by first | assumption | omega | rfl) (by first | exact mvI_s hrf | exact (funext fun j_ => (if_neg (Nat.not_lt_zero _)).symm))
set_option maxRecDepth 100000 in
set_option maxHeartbeats 4000000 in
theorem c_X6_judge_bad (l : Launch) (G : Gd) (h : Int32) (o : Nat) (rw : Nat) (fr : Nat) (kp : Nat) (tr : Nat) (ik : Int32) (tp : Nat) (tm : Nat) (mso : Int32) (bg : Nat) (en : Nat) (wd : Int64) (va : Int32) (gd : Int32) (rs : Nat) (mu : Nat) (rm : Nat) (ss : Nat) (msz : Nat) (msh : Nat) (mho : Nat) (mhn : Nat) (mhz : Nat) (kd : Int32) (nb : Int32) (tn : Int32) (tc : Nat) (bo : Nat) (ip : Int32) (la : Nat → Int32) (ns : Nat) (sd : Nat) (to : Nat → Int32) (he : Nat → Int32) (sw : Nat → Int32) (nh : Nat) (ki : Nat → Int32) (te : Nat → Int32) (mi : Nat → Int32) (ar : Nat → Int32) (z : Int32) (hw : ¬ (0 ≤ h ∧ h ≤ nI nh - 1)) : Ct l G yX6_judge cX6_judge 4 (some (FieldType.int)) 4 [.ref o, .int h] (wF [wMo o rw fr kp tr ik tp tm mso bg en wd va gd rs mu rm ss msz msh mho mhn mhz kd nb tn tc bo ip, wMr G rw la ns sd to he sw nh ki te mi ar z]) (some (.int (-1))) (wF [wMo o rw fr kp tr ik tp tm mso bg en wd va gd rs mu rm ss msz msh mho mhn mhz kd nb tn tc bo ip, wMr G rw la ns sd to he sw nh ki te mi ar z]) := by
  refine Ct.of "GooseArmsModel" [some (.ref o), some (.int h), none, none] (by decide +kernel) rfl (Nat.le_of_ble_eq_true rfl) rfl ?_
  refine J_aload_n 0 0 dX6_judge_0 rfl rfl ?_
  refine J_iload_n 1 1 dX6_judge_1 rfl rfl ?_
  refine kb_RX6_206 (bs' := [wMo o rw fr kp tr ik tp tm mso bg en wd va gd rs mu rm ss msz msh mho mhn mhz kd nb tn tc bo ip, wMr G rw la ns sd to he sw nh ki te mi ar z]) (rest := []) (st' := [.int 0]) 2 (c_X6_isOne_f l G h o rw fr kp tr ik tp tm mso bg en wd va gd rs mu rm ss msz msh mho mhn mhz kd nb tn tc bo ip la ns sd to he sw nh ki te mi ar z (by first | omega | assumption)) [0, 1] 0 rfl rfl rfl [[o], [rw]] rfl rfl rfl rfl rfl rfl (Nat.le_of_ble_eq_true rfl) rfl dX6_judge_2 ?_
  refine J_if_ne (tgt := 10) 5 dX6_judge_5 (by decide) (fun c_1_ => absurd c_1_ (by decide)) (fun _ => ?_)
  refine J_iconst (v := (-1)) 8 dX6_judge_8 rfl ?_
  exact J_iret 9 dX6_judge_9 rfl rfl
set_option maxRecDepth 100000 in
set_option maxHeartbeats 4000000 in
theorem c_X6_judge_ok (l : Launch) (G : Gd) (h : Nat) (o : Nat) (rw : Nat) (fr : Nat) (kp : Nat) (tr : Nat) (ik : Int32) (tp : Nat) (tm : Nat) (mso : Int32) (bg : Nat) (en : Nat) (wd : Int64) (va : Int32) (gd : Int32) (rs : Nat) (mu : Nat) (rm : Nat) (ss : Nat) (msz : Nat) (msh : Nat) (mho : Nat) (mhn : Nat) (mhz : Nat) (kd : Int32) (nb : Int32) (tn : Int32) (tc : Nat) (bo : Nat) (ip : Int32) (la : Nat → Int32) (ns : Nat) (sd : Nat) (to : Nat → Int32) (he : Nat → Int32) (sw : Nat → Int32) (nh : Nat) (ki : Nat → Int32) (te : Nat → Int32) (mi : Nat → Int32) (ar : Nat → Int32) (z : Int32) (t_la : Nat → Int32) (t_ns : Nat) (t_sd : Nat) (t_to : Nat → Int32) (t_he : Nat → Int32) (t_sw : Nat → Int32) (t_nh : Nat) (t_ki : Nat → Int32) (t_te : Nat → Int32) (t_mi : Nat → Int32) (t_ar : Nat → Int32) (t_z : Int32) (muf : Nat → Int32) (rf : Nat → Int32) (hh : h < nh) (hnh : nh ≤ 8) (hns : ns ≤ 12) (hsd : sd ≤ ns) (hrm : rm ≤ 10) : CtP l G yX6_judge cX6_judge 4 (some (FieldType.int)) 4 [.ref o, .int (nI h)] (wF [wMo o rw fr kp tr ik tp tm mso bg en wd va gd rs mu rm ss msz msh mho mhn mhz kd nb tn tc bo ip, wMr G rw la ns sd to he sw nh ki te mi ar z, wMr G tr t_la t_ns t_sd t_to t_he t_sw t_nh t_ki t_te t_mi t_ar t_z, wI G mu 30 muf, wI G rs 30 rf]) (some (.int (fJm (fun k_ => k_ < 3 * min rm (ns - sd) ∧ rf k_ = (fRow3 (fun k_ => (fAr (fun h_ => h_ < nh) la ki mi te ar to he sw sd (k_ + 1)) h) (fun k_ => (fTe (fun h_ => h_ < nh) la ki mi te ar to he sw sd (k_ + 1)) h) (fun k_ => fBC (fMask (fun h_ => nI h_ = (-1) ∨ fUp la ki mi (fTe (fun h_ => h_ < nh) la ki mi te ar to he sw sd (k_)) to he sw (sd + k_) h_) nh)) muf (min rm (ns - sd))) k_) (3 * rm) 0))) (fun w_ => ∃ (j_2_la : Nat → Int32) (j_2_ns : Nat) (j_2_sd : Nat) (j_2_to : Nat → Int32) (j_2_he : Nat → Int32) (j_2_sw : Nat → Int32) (j_2_nh : Nat) (j_2_ki : Nat → Int32) (j_2_te : Nat → Int32) (j_2_mi : Nat → Int32) (j_2_ar : Nat → Int32) (j_2_z : Int32) (j_3_f : Nat → Int32), w_ = (wF [wMo o rw fr kp tr ik tp tm mso bg en wd va gd rs mu rm ss msz msh mho mhn mhz kd nb tn tc bo ip, wMr G rw la ns sd to he sw nh ki te mi ar z, wMr G tr j_2_la j_2_ns j_2_sd j_2_to j_2_he j_2_sw j_2_nh j_2_ki j_2_te j_2_mi j_2_ar j_2_z, wI G mu 30 j_3_f, wI G rs 30 rf])) := by
  refine CtP.of "GooseArmsModel" [some (.ref o), some (.int (nI h)), none, none] (by decide +kernel) rfl (Nat.le_of_ble_eq_true rfl) rfl ?_
  have cut_22_ : ∀ (n_22_ : Nat) (k : Nat) (t_la1 : Nat → Int32) (t_ns1 : Nat) (t_sd1 : Nat) (t_to1 : Nat → Int32) (t_he1 : Nat → Int32) (t_sw1 : Nat → Int32) (t_nh1 : Nat) (t_ki1 : Nat → Int32) (t_te1 : Nat → Int32) (t_mi1 : Nat → Int32) (t_ar1 : Nat → Int32) (t_z1 : Int32), (3 * rm - k < n_22_) → (hk : k ≤ 3 * rm) → (hJ : fJm (fun k_ => k_ < 3 * min rm (ns - sd) ∧ rf k_ = (fRow3 (fun k_ => (fAr (fun h_ => h_ < nh) la ki mi te ar to he sw sd (k_ + 1)) h) (fun k_ => (fTe (fun h_ => h_ < nh) la ki mi te ar to he sw sd (k_ + 1)) h) (fun k_ => fBC (fMask (fun h_ => nI h_ = (-1) ∨ fUp la ki mi (fTe (fun h_ => h_ < nh) la ki mi te ar to he sw sd (k_)) to he sw (sd + k_) h_) nh)) muf (min rm (ns - sd))) k_) (3 * rm) 0 = fJm (fun k_ => k_ < 3 * min rm (ns - sd) ∧ rf k_ = (fRow3 (fun k_ => (fAr (fun h_ => h_ < nh) la ki mi te ar to he sw sd (k_ + 1)) h) (fun k_ => (fTe (fun h_ => h_ < nh) la ki mi te ar to he sw sd (k_ + 1)) h) (fun k_ => fBC (fMask (fun h_ => nI h_ = (-1) ∨ fUp la ki mi (fTe (fun h_ => h_ < nh) la ki mi te ar to he sw sd (k_)) to he sw (sd + k_) h_) nh)) muf (min rm (ns - sd))) k_) (3 * rm - k) k) → J l G (bdP G 4 (some (FieldType.int)) (some (.int (fJm (fun k_ => k_ < 3 * min rm (ns - sd) ∧ rf k_ = (fRow3 (fun k_ => (fAr (fun h_ => h_ < nh) la ki mi te ar to he sw sd (k_ + 1)) h) (fun k_ => (fTe (fun h_ => h_ < nh) la ki mi te ar to he sw sd (k_ + 1)) h) (fun k_ => fBC (fMask (fun h_ => nI h_ = (-1) ∨ fUp la ki mi (fTe (fun h_ => h_ < nh) la ki mi te ar to he sw sd (k_)) to he sw (sd + k_) h_) nh)) muf (min rm (ns - sd))) k_) (3 * rm) 0))) (fun w_ => ∃ (j_2_la : Nat → Int32) (j_2_ns : Nat) (j_2_sd : Nat) (j_2_to : Nat → Int32) (j_2_he : Nat → Int32) (j_2_sw : Nat → Int32) (j_2_nh : Nat) (j_2_ki : Nat → Int32) (j_2_te : Nat → Int32) (j_2_mi : Nat → Int32) (j_2_ar : Nat → Int32) (j_2_z : Int32) (j_3_f : Nat → Int32), w_ = (wF [wMo o rw fr kp tr ik tp tm mso bg en wd va gd rs mu rm ss msz msh mho mhn mhz kd nb tn tc bo ip, wMr G rw la ns sd to he sw nh ki te mi ar z, wMr G tr j_2_la j_2_ns j_2_sd j_2_to j_2_he j_2_sw j_2_nh j_2_ki j_2_te j_2_mi j_2_ar j_2_z, wI G mu 30 j_3_f, wI G rs 30 rf]))) cX6_judge 4 "GooseArmsModel" 22 [some (.ref o), some (.int (nI h)), some (.int (nI (min rm (ns - sd)))), some (.int (nI k))] [] (wF [wMo o rw fr kp tr ik tp tm mso bg en wd va gd rs mu rm ss msz msh mho mhn mhz kd nb tn tc bo ip, wMr G rw la ns sd to he sw nh ki te mi ar z, wMr G tr t_la1 t_ns1 t_sd1 t_to1 t_he1 t_sw1 t_nh1 t_ki1 t_te1 t_mi1 t_ar1 t_z1, wI G mu 30 (fRow3 (fun k_ => (fAr (fun h_ => h_ < nh) la ki mi te ar to he sw sd (k_ + 1)) h) (fun k_ => (fTe (fun h_ => h_ < nh) la ki mi te ar to he sw sd (k_ + 1)) h) (fun k_ => fBC (fMask (fun h_ => nI h_ = (-1) ∨ fUp la ki mi (fTe (fun h_ => h_ < nh) la ki mi te ar to he sw sd (k_)) to he sw (sd + k_) h_) nh)) muf (min rm (ns - sd))), wI G rs 30 rf]) := by
    intro n_22_
    induction n_22_ with
    | zero => intro k t_la1 t_ns1 t_sd1 t_to1 t_he1 t_sw1 t_nh1 t_ki1 t_te1 t_mi1 t_ar1 t_z1 m_22_; exact absurd m_22_ (Nat.not_lt_zero _)
    | succ n_22_ ih_22_ =>
      intro k t_la1 t_ns1 t_sd1 t_to1 t_he1 t_sw1 t_nh1 t_ki1 t_te1 t_mi1 t_ar1 t_z1 m_22_ hk hJ
      refine J_iload_n 22 3 dX6_judge_22 rfl rfl ?_
      refine J_iconst (v := 3) 23 dX6_judge_23 rfl ?_
      refine J_aload_n 24 0 dX6_judge_24 rfl rfl ?_
      refine g_804 (v := .int (nI rm)) 25 0 rfl rfl dX6_judge_25 ?_
      refine J_imul 28 dX6_judge_28 ?_
      refine J_topi (y := nI (3 * rm)) 29 (pk_mul 3 rm) ?_
      refine J_icmp_ge (tgt := 66) 29 dX6_judge_29 (by decide) (fun c_1_ => ?_) (fun c_1_ => ?_)
      · skip
        have c_1_ : (3 * rm) ≤ k := (nI_leI (a := (3 * rm)) (b := k) (by omega) (by omega)).mp c_1_
        refine J_iconst (v := 0) 66 dX6_judge_66 rfl ?_
        exact J_iretP 67 dX6_judge_67 (congrArg (fun x_ => some (Value.int x_)) (by rw [hJ]; exact (fJm_e (by omega)).symm)) ⟨t_la1, t_ns1, t_sd1, t_to1, t_he1, t_sw1, t_nh1, t_ki1, t_te1, t_mi1, t_ar1, t_z1, (fRow3 (fun k_ => (fAr (fun h_ => h_ < nh) la ki mi te ar to he sw sd (k_ + 1)) h) (fun k_ => (fTe (fun h_ => h_ < nh) la ki mi te ar to he sw sd (k_ + 1)) h) (fun k_ => fBC (fMask (fun h_ => nI h_ = (-1) ∨ fUp la ki mi (fTe (fun h_ => h_ < nh) la ki mi te ar to he sw sd (k_)) to he sw (sd + k_) h_) nh)) muf (min rm (ns - sd))), rfl⟩
      · skip
        have c_1_ : ¬ (3 * rm) ≤ k := fun z_ => c_1_ ((nI_leI (a := (3 * rm)) (b := k) (by omega) (by omega)).mpr z_)
        refine J_iload_n 32 3 dX6_judge_32 rfl rfl ?_
        refine J_iconst (v := 3) 33 dX6_judge_33 rfl ?_
        refine J_iload_n 34 2 dX6_judge_34 rfl rfl ?_
        refine J_imul 35 dX6_judge_35 ?_
        refine J_topi (y := nI (3 * (min rm (ns - sd)))) 36 (pk_mul 3 (min rm (ns - sd))) ?_
        refine J_icmp_ge (tgt := 54) 36 dX6_judge_36 (by decide) (fun c_2_ => ?_) (fun c_2_ => ?_)
        · skip
          have c_2_ : (3 * (min rm (ns - sd))) ≤ k := (nI_leI (a := (3 * (min rm (ns - sd)))) (b := k) (by omega) (by omega)).mp c_2_
          refine J_iload_n 54 3 dX6_judge_54 rfl rfl ?_
          refine J_iconst (v := 3) 55 dX6_judge_55 rfl ?_
          refine J_idiv 56 dX6_judge_56 (by decide) ?_
          refine J_topi (y := nI (k / 3)) 57 (pk_div (d := 3) (by omega) (by decide) (by decide)) ?_
          refine J_iconst (v := 1) 57 dX6_judge_57 rfl ?_
          refine J_iadd 58 dX6_judge_58 ?_
          refine J_topi (y := nI ((k / 3) + 1)) 59 (nI_add (k / 3) 1) ?_
          exact J_iretP 59 dX6_judge_59 (congrArg (fun x_ => some (Value.int x_)) (by rw [hJ]; exact (fJm_f (by omega) (fun z_ => by first | exact absurd z_.1 (by omega) | exact absurd z_.2 (by assumption))).symm)) ⟨t_la1, t_ns1, t_sd1, t_to1, t_he1, t_sw1, t_nh1, t_ki1, t_te1, t_mi1, t_ar1, t_z1, (fRow3 (fun k_ => (fAr (fun h_ => h_ < nh) la ki mi te ar to he sw sd (k_ + 1)) h) (fun k_ => (fTe (fun h_ => h_ < nh) la ki mi te ar to he sw sd (k_ + 1)) h) (fun k_ => fBC (fMask (fun h_ => nI h_ = (-1) ∨ fUp la ki mi (fTe (fun h_ => h_ < nh) la ki mi te ar to he sw sd (k_)) to he sw (sd + k_) h_) nh)) muf (min rm (ns - sd))), rfl⟩
        · skip
          have c_2_ : ¬ (3 * (min rm (ns - sd))) ≤ k := fun z_ => c_2_ ((nI_leI (a := (3 * (min rm (ns - sd)))) (b := k) (by omega) (by omega)).mpr z_)
          refine J_aload_n 39 0 dX6_judge_39 rfl rfl ?_
          refine g_802 (v := .ref rs) 40 0 rfl rfl dX6_judge_40 ?_
          refine J_iload_n 43 3 dX6_judge_43 rfl rfl ?_
          refine J_iald 44 4 k rfl rfl (by omega) (by decide) dX6_judge_44 ?_
          refine J_aload_n 45 0 dX6_judge_45 rfl rfl ?_
          refine g_803 (v := .ref mu) 46 0 rfl rfl dX6_judge_46 ?_
          refine J_iload_n 49 3 dX6_judge_49 rfl rfl ?_
          refine J_iald 50 3 k rfl rfl (by omega) (by decide) dX6_judge_50 ?_
          refine J_icmp_eq (tgt := 60) 51 dX6_judge_51 (by decide) (fun c_3_ => ?_) (fun c_3_ => ?_)
          · skip
            refine J_iinc (v := nI (k + 1)) (lv' := [some (.ref o), some (.int (nI h)), some (.int (nI (min rm (ns - sd)))), some (.int (nI (k + 1)))]) 60 dX6_judge_60 rfl (nI_add _ 1) (by decide) rfl ?_
            refine J_goto (tgt := 22) 63 dX6_judge_63 (by decide) ?_
            exact ih_22_ (k + 1) t_la1 t_ns1 t_sd1 t_to1 t_he1 t_sw1 t_nh1 t_ki1 t_te1 t_mi1 t_ar1 t_z1 (by omega) (by first | assumption | omega | rfl) (by first | rfl | exact hJ.trans (fJm_t (by omega) ⟨by omega, by assumption⟩))
          · skip
            refine J_iload_n 54 3 dX6_judge_54 rfl rfl ?_
            refine J_iconst (v := 3) 55 dX6_judge_55 rfl ?_
            refine J_idiv 56 dX6_judge_56 (by decide) ?_
            refine J_topi (y := nI (k / 3)) 57 (pk_div (d := 3) (by omega) (by decide) (by decide)) ?_
            refine J_iconst (v := 1) 57 dX6_judge_57 rfl ?_
            refine J_iadd 58 dX6_judge_58 ?_
            refine J_topi (y := nI ((k / 3) + 1)) 59 (nI_add (k / 3) 1) ?_
            exact J_iretP 59 dX6_judge_59 (congrArg (fun x_ => some (Value.int x_)) (by rw [hJ]; exact (fJm_f (by omega) (fun z_ => by first | exact absurd z_.1 (by omega) | exact absurd z_.2 (by assumption))).symm)) ⟨t_la1, t_ns1, t_sd1, t_to1, t_he1, t_sw1, t_nh1, t_ki1, t_te1, t_mi1, t_ar1, t_z1, (fRow3 (fun k_ => (fAr (fun h_ => h_ < nh) la ki mi te ar to he sw sd (k_ + 1)) h) (fun k_ => (fTe (fun h_ => h_ < nh) la ki mi te ar to he sw sd (k_ + 1)) h) (fun k_ => fBC (fMask (fun h_ => nI h_ = (-1) ∨ fUp la ki mi (fTe (fun h_ => h_ < nh) la ki mi te ar to he sw sd (k_)) to he sw (sd + k_) h_) nh)) muf (min rm (ns - sd))), rfl⟩
  refine J_aload_n 0 0 dX6_judge_0 rfl rfl ?_
  refine J_iload_n 1 1 dX6_judge_1 rfl rfl ?_
  refine kb_RX6_206 (bs' := [wMo o rw fr kp tr ik tp tm mso bg en wd va gd rs mu rm ss msz msh mho mhn mhz kd nb tn tc bo ip, wMr G rw la ns sd to he sw nh ki te mi ar z, wMr G tr t_la t_ns t_sd t_to t_he t_sw t_nh t_ki t_te t_mi t_ar t_z, wI G mu 30 muf, wI G rs 30 rf]) (rest := []) (st' := [.int 1]) 2 (c_X6_isOne_t l G h o rw fr kp tr ik tp tm mso bg en wd va gd rs mu rm ss msz msh mho mhn mhz kd nb tn tc bo ip la ns sd to he sw nh ki te mi ar z (by assumption) (by omega)) [0, 1] 0 rfl rfl rfl [[o], [rw]] rfl rfl rfl rfl rfl rfl (Nat.le_of_ble_eq_true rfl) rfl dX6_judge_2 ?_
  refine J_if_ne (tgt := 10) 5 dX6_judge_5 (by decide) (fun _ => ?_) (fun c_4_ => absurd c_4_ (by decide))
  refine J_aload_n 10 0 dX6_judge_10 rfl rfl ?_
  refine J_iload_n 11 1 dX6_judge_11 rfl rfl ?_
  refine J_aload_n 12 0 dX6_judge_12 rfl rfl ?_
  refine g_804 (v := .int (nI rm)) 13 0 rfl rfl dX6_judge_13 ?_
  refine J_bVP (rest := []) (st' := [.int (nI (min rm (ns - sd)))]) 16 (c_X6_findRows l G h rm o rw fr kp tr ik tp tm mso bg en wd va gd rs mu rm ss msz msh mho mhn mhz kd nb tn tc bo ip la ns sd to he sw nh ki te mi ar z t_la t_ns t_sd t_to t_he t_sw t_nh t_ki t_te t_mi t_ar t_z muf (by first | omega | assumption) (by first | omega | assumption) (by first | omega | assumption) (by first | omega | assumption) (by first | omega | assumption)) w_1195 w_1197 v_56 w_7 w_1198 ok_X6_findRows [0, 1, 2, 3] 0 6 rfl rfl rfl rfl [[o], [rw], [tr], [mu]] rfl (fun w1s_ => ∃ (x_16_2_la : Nat → Int32) (x_16_2_ns : Nat) (x_16_2_sd : Nat) (x_16_2_to : Nat → Int32) (x_16_2_he : Nat → Int32) (x_16_2_sw : Nat → Int32) (x_16_2_nh : Nat) (x_16_2_ki : Nat → Int32) (x_16_2_te : Nat → Int32) (x_16_2_mi : Nat → Int32) (x_16_2_ar : Nat → Int32) (x_16_2_z : Int32), w1s_ = [wMo o rw fr kp tr ik tp tm mso bg en wd va gd rs mu rm ss msz msh mho mhn mhz kd nb tn tc bo ip, wMr G rw la ns sd to he sw nh ki te mi ar z, wMr G tr x_16_2_la x_16_2_ns x_16_2_sd x_16_2_to x_16_2_he x_16_2_sw x_16_2_nh x_16_2_ki x_16_2_te x_16_2_mi x_16_2_ar x_16_2_z, wI G mu 30 (fRow3 (fun k_ => (fAr (fun h_ => h_ < nh) la ki mi te ar to he sw sd (k_ + 1)) h) (fun k_ => (fTe (fun h_ => h_ < nh) la ki mi te ar to he sw sd (k_ + 1)) h) (fun k_ => fBC (fMask (fun h_ => nI h_ = (-1) ∨ fUp la ki mi (fTe (fun h_ => h_ < nh) la ki mi te ar to he sw sd (k_)) to he sw (sd + k_) h_) nh)) muf (min rm (ns - sd)))]) (by rintro _ ⟨x_16_2_la, x_16_2_ns, x_16_2_sd, x_16_2_to, x_16_2_he, x_16_2_sw, x_16_2_nh, x_16_2_ki, x_16_2_te, x_16_2_mi, x_16_2_ar, x_16_2_z, rfl⟩; exact ⟨_, rfl, ⟨x_16_2_la, x_16_2_ns, x_16_2_sd, x_16_2_to, x_16_2_he, x_16_2_sw, x_16_2_nh, x_16_2_ki, x_16_2_te, x_16_2_mi, x_16_2_ar, x_16_2_z, rfl⟩, rfl⟩) rfl rfl rfl (Nat.le_of_ble_eq_true rfl) rfl dX6_judge_16 (fun w1_ hw1_ => ?_)
  obtain ⟨x_16_2_la, x_16_2_ns, x_16_2_sd, x_16_2_to, x_16_2_he, x_16_2_sw, x_16_2_nh, x_16_2_ki, x_16_2_te, x_16_2_mi, x_16_2_ar, x_16_2_z, rfl⟩ := hw1_
  refine J_ws (ws' := (wF [wMo o rw fr kp tr ik tp tm mso bg en wd va gd rs mu rm ss msz msh mho mhn mhz kd nb tn tc bo ip, wMr G rw la ns sd to he sw nh ki te mi ar z, wMr G tr x_16_2_la x_16_2_ns x_16_2_sd x_16_2_to x_16_2_he x_16_2_sw x_16_2_nh x_16_2_ki x_16_2_te x_16_2_mi x_16_2_ar x_16_2_z, wI G mu 30 (fRow3 (fun k_ => (fAr (fun h_ => h_ < nh) la ki mi te ar to he sw sd (k_ + 1)) h) (fun k_ => (fTe (fun h_ => h_ < nh) la ki mi te ar to he sw sd (k_ + 1)) h) (fun k_ => fBC (fMask (fun h_ => nI h_ = (-1) ∨ fUp la ki mi (fTe (fun h_ => h_ < nh) la ki mi te ar to he sw sd (k_)) to he sw (sd + k_) h_) nh)) muf (min rm (ns - sd))), wI G rs 30 rf])) 19 rfl ?_
  refine J_istore_n (lv' := [some (.ref o), some (.int (nI h)), some (.int (nI (min rm (ns - sd)))), none]) 19 2 dX6_judge_19 rfl (by decide) rfl ?_
  refine J_iconst (v := 0) 20 dX6_judge_20 rfl ?_
  refine J_istore_n (lv' := [some (.ref o), some (.int (nI h)), some (.int (nI (min rm (ns - sd)))), some (.int 0)]) 21 3 dX6_judge_21 rfl (by decide) rfl ?_
  exact cut_22_ ((3 * rm - 0) + 1) 0 x_16_2_la x_16_2_ns x_16_2_sd x_16_2_to x_16_2_he x_16_2_sw x_16_2_nh x_16_2_ki x_16_2_te x_16_2_mi x_16_2_ar x_16_2_z (Nat.lt_succ_self _) (by first | assumption | omega | rfl) (by first | rfl | exact hJ.trans (fJm_t (by omega) ⟨by omega, by assumption⟩))
set_option maxRecDepth 100000 in
set_option maxHeartbeats 4000000 in
theorem c_X6_lacksSort_m (l : Launch) (G : Gd) (s : Nat) (v : Int32) (o : Nat) (rw : Nat) (fr : Nat) (kp : Nat) (tr : Nat) (ik : Int32) (tp : Nat) (tm : Nat) (mso : Int32) (bg : Nat) (en : Nat) (wd : Int64) (va : Int32) (gd : Int32) (rs : Nat) (mu : Nat) (rm : Nat) (ss : Nat) (msz : Nat) (msh : Nat) (mho : Nat) (mhn : Nat) (mhz : Nat) (kd : Int32) (nb : Int32) (tn : Int32) (tc : Nat) (bo : Nat) (ip : Int32) (ssf : Nat → Int32) (hs : s ≤ 3) (hso : ssf s < 0) : Ct l G yX6_lacksSort cX6_lacksSort 3 (some (FieldType.int)) 0 [.ref o, .int (nI s), .int v] (wF [wMo o rw fr kp tr ik tp tm mso bg en wd va gd rs mu rm ss msz msh mho mhn mhz kd nb tn tc bo ip, wI G ss 4 ssf]) (some (.int (-11))) (wF [wMo o rw fr kp tr ik tp tm mso bg en wd va gd rs mu rm ss msz msh mho mhn mhz kd nb tn tc bo ip, wI G ss 4 ssf]) := by
  refine Ct.of "GooseArmsModel" [some (.ref o), some (.int (nI s)), some (.int v)] (by decide +kernel) rfl (Nat.le_of_ble_eq_true rfl) rfl ?_
  refine J_aload_n 0 0 dX6_lacksSort_0 rfl rfl ?_
  refine g_805 (v := .ref ss) 1 0 rfl rfl dX6_lacksSort_1 ?_
  refine J_iload_n 4 1 dX6_lacksSort_4 rfl rfl ?_
  refine J_iald 5 1 s rfl rfl (by omega) (by decide) dX6_lacksSort_5 ?_
  refine J_if_ge (tgt := 14) 6 dX6_lacksSort_6 (by decide) (fun c_1_ => ?_) (fun c_1_ => ?_)
  · skip
    exact absurd hso (Int32.not_lt.mpr c_1_)
  · skip
    refine J_bipush (v := (-11)) 9 dX6_lacksSort_9 rfl ?_
    refine J_goto (tgt := 30) 11 dX6_lacksSort_11 (by decide) ?_
    exact J_iret 30 dX6_lacksSort_30 rfl rfl
set_option maxRecDepth 100000 in
set_option maxHeartbeats 4000000 in
theorem c_X6_lacksSort_s (l : Launch) (G : Gd) (s : Nat) (v : Int32) (o : Nat) (rw : Nat) (fr : Nat) (kp : Nat) (tr : Nat) (ik : Int32) (tp : Nat) (tm : Nat) (mso : Int32) (bg : Nat) (en : Nat) (wd : Int64) (va : Int32) (gd : Int32) (rs : Nat) (mu : Nat) (rm : Nat) (ss : Nat) (msz : Nat) (msh : Nat) (mho : Nat) (mhn : Nat) (mhz : Nat) (kd : Int32) (nb : Int32) (tn : Int32) (tc : Nat) (bo : Nat) (ip : Int32) (ssf : Nat → Int32) (hs : s ≤ 3) (hso : ¬ ssf s < 0) (hsv : ¬ ssf s = v) : Ct l G yX6_lacksSort cX6_lacksSort 3 (some (FieldType.int)) 0 [.ref o, .int (nI s), .int v] (wF [wMo o rw fr kp tr ik tp tm mso bg en wd va gd rs mu rm ss msz msh mho mhn mhz kd nb tn tc bo ip, wI G ss 4 ssf]) (some (.int (-13))) (wF [wMo o rw fr kp tr ik tp tm mso bg en wd va gd rs mu rm ss msz msh mho mhn mhz kd nb tn tc bo ip, wI G ss 4 ssf]) := by
  refine Ct.of "GooseArmsModel" [some (.ref o), some (.int (nI s)), some (.int v)] (by decide +kernel) rfl (Nat.le_of_ble_eq_true rfl) rfl ?_
  refine J_aload_n 0 0 dX6_lacksSort_0 rfl rfl ?_
  refine g_805 (v := .ref ss) 1 0 rfl rfl dX6_lacksSort_1 ?_
  refine J_iload_n 4 1 dX6_lacksSort_4 rfl rfl ?_
  refine J_iald 5 1 s rfl rfl (by omega) (by decide) dX6_lacksSort_5 ?_
  refine J_if_ge (tgt := 14) 6 dX6_lacksSort_6 (by decide) (fun c_1_ => ?_) (fun c_1_ => ?_)
  · skip
    refine J_aload_n 14 0 dX6_lacksSort_14 rfl rfl ?_
    refine g_805 (v := .ref ss) 15 0 rfl rfl dX6_lacksSort_15 ?_
    refine J_iload_n 18 1 dX6_lacksSort_18 rfl rfl ?_
    refine J_iald 19 1 s rfl rfl (by omega) (by decide) dX6_lacksSort_19 ?_
    refine J_iload_n 20 2 dX6_lacksSort_20 rfl rfl ?_
    refine J_icmp_eq (tgt := 29) 21 dX6_lacksSort_21 (by decide) (fun c_2_ => ?_) (fun c_2_ => ?_)
    · skip
      exact absurd c_2_ hsv
    · skip
      refine J_bipush (v := (-13)) 24 dX6_lacksSort_24 rfl ?_
      refine J_goto (tgt := 30) 26 dX6_lacksSort_26 (by decide) ?_
      exact J_iret 30 dX6_lacksSort_30 rfl rfl
  · skip
    exact absurd (Int32.not_le.mp c_1_) hso
set_option maxRecDepth 100000 in
set_option maxHeartbeats 4000000 in
theorem c_X6_lacksSort_t (l : Launch) (G : Gd) (s : Nat) (v : Int32) (o : Nat) (rw : Nat) (fr : Nat) (kp : Nat) (tr : Nat) (ik : Int32) (tp : Nat) (tm : Nat) (mso : Int32) (bg : Nat) (en : Nat) (wd : Int64) (va : Int32) (gd : Int32) (rs : Nat) (mu : Nat) (rm : Nat) (ss : Nat) (msz : Nat) (msh : Nat) (mho : Nat) (mhn : Nat) (mhz : Nat) (kd : Int32) (nb : Int32) (tn : Int32) (tc : Nat) (bo : Nat) (ip : Int32) (ssf : Nat → Int32) (hs : s ≤ 3) (hso : ¬ ssf s < 0) (hsv : ssf s = v) : Ct l G yX6_lacksSort cX6_lacksSort 3 (some (FieldType.int)) 0 [.ref o, .int (nI s), .int v] (wF [wMo o rw fr kp tr ik tp tm mso bg en wd va gd rs mu rm ss msz msh mho mhn mhz kd nb tn tc bo ip, wI G ss 4 ssf]) (some (.int 0)) (wF [wMo o rw fr kp tr ik tp tm mso bg en wd va gd rs mu rm ss msz msh mho mhn mhz kd nb tn tc bo ip, wI G ss 4 ssf]) := by
  refine Ct.of "GooseArmsModel" [some (.ref o), some (.int (nI s)), some (.int v)] (by decide +kernel) rfl (Nat.le_of_ble_eq_true rfl) rfl ?_
  refine J_aload_n 0 0 dX6_lacksSort_0 rfl rfl ?_
  refine g_805 (v := .ref ss) 1 0 rfl rfl dX6_lacksSort_1 ?_
  refine J_iload_n 4 1 dX6_lacksSort_4 rfl rfl ?_
  refine J_iald 5 1 s rfl rfl (by omega) (by decide) dX6_lacksSort_5 ?_
  refine J_if_ge (tgt := 14) 6 dX6_lacksSort_6 (by decide) (fun c_1_ => ?_) (fun c_1_ => ?_)
  · skip
    refine J_aload_n 14 0 dX6_lacksSort_14 rfl rfl ?_
    refine g_805 (v := .ref ss) 15 0 rfl rfl dX6_lacksSort_15 ?_
    refine J_iload_n 18 1 dX6_lacksSort_18 rfl rfl ?_
    refine J_iald 19 1 s rfl rfl (by omega) (by decide) dX6_lacksSort_19 ?_
    refine J_iload_n 20 2 dX6_lacksSort_20 rfl rfl ?_
    refine J_icmp_eq (tgt := 29) 21 dX6_lacksSort_21 (by decide) (fun c_2_ => ?_) (fun c_2_ => ?_)
    · skip
      refine J_iconst (v := 0) 29 dX6_lacksSort_29 rfl ?_
      exact J_iret 30 dX6_lacksSort_30 rfl rfl
    · skip
      exact absurd hsv c_2_
  · skip
    exact absurd (Int32.not_le.mp c_1_) hso
set_option maxRecDepth 100000 in
set_option maxHeartbeats 4000000 in
theorem c_X6_minds_bad (l : Launch) (G : Gd) (s : Int32) (i : Int32) (h : Int32) (n : Int32) (o : Nat) (rw : Nat) (fr : Nat) (kp : Nat) (tr : Nat) (ik : Int32) (tp : Nat) (tm : Nat) (mso : Int32) (bg : Nat) (en : Nat) (wd : Int64) (va : Int32) (gd : Int32) (rs : Nat) (mu : Nat) (rm : Nat) (ss : Nat) (msz : Nat) (msh : Nat) (mho : Nat) (mhn : Nat) (mhz : Nat) (kd : Int32) (nb : Int32) (tn : Int32) (tc : Nat) (bo : Nat) (ip : Int32) (la : Nat → Int32) (ns : Nat) (sd : Nat) (to : Nat → Int32) (he : Nat → Int32) (sw : Nat → Int32) (nh : Nat) (ki : Nat → Int32) (te : Nat → Int32) (mi : Nat → Int32) (ar : Nat → Int32) (z : Int32) (hw : ¬ ((0 ≤ s ∧ s ≤ 3) ∧ (0 ≤ h ∧ h ≤ nI nh - 1) ∧ (0 ≤ n ∧ n ≤ 8))) : Ct l G yX6_minds cX6_minds 7 (some (FieldType.int)) 2 [.ref o, .int s, .int i, .int h, .int n] (wF [wMo o rw fr kp tr ik tp tm mso bg en wd va gd rs mu rm ss msz msh mho mhn mhz kd nb tn tc bo ip, wMr G rw la ns sd to he sw nh ki te mi ar z]) (some (.int (-1))) (wF [wMo o rw fr kp tr ik tp tm mso bg en wd va gd rs mu rm ss msz msh mho mhn mhz kd nb tn tc bo ip, wMr G rw la ns sd to he sw nh ki te mi ar z]) := by
  refine Ct.of "GooseArmsModel" [some (.ref o), some (.int s), some (.int i), some (.int h), some (.int n), none, none] (by decide +kernel) rfl (Nat.le_of_ble_eq_true rfl) rfl ?_
  refine J_iload_n 0 1 dX6_minds_0 rfl rfl ?_
  refine kb_RX6_262 (bs' := [wMo o rw fr kp tr ik tp tm mso bg en wd va gd rs mu rm ss msz msh mho mhn mhz kd nb tn tc bo ip, wMr G rw la ns sd to he sw nh ki te mi ar z]) (rest := []) (st' := [.int (bI (0 ≤ s ∧ s ≤ 3))]) 1 (c_X6_isShelf l G s ) [] rfl rfl [] rfl rfl rfl rfl rfl rfl (Nat.le_of_ble_eq_true rfl) rfl dX6_minds_1 ?_
  refine J_ifB_eq (tgt := 40) 4 dX6_minds_4 (by decide) (fun c_1_ => ?_) (fun c_1_ => ?_)
  · skip
    refine J_iconst (v := (-1)) 40 dX6_minds_40 rfl ?_
    exact J_iret 41 dX6_minds_41 rfl rfl
  · skip
    refine J_aload_n 7 0 dX6_minds_7 rfl rfl ?_
    refine J_iload_n 8 3 dX6_minds_8 rfl rfl ?_
    refine kb_RX6_206 (bs' := [wMo o rw fr kp tr ik tp tm mso bg en wd va gd rs mu rm ss msz msh mho mhn mhz kd nb tn tc bo ip, wMr G rw la ns sd to he sw nh ki te mi ar z]) (rest := []) (st' := [.int (bI (0 ≤ h ∧ h ≤ nI nh - 1))]) 9 (c_X6_isOne l G h o rw fr kp tr ik tp tm mso bg en wd va gd rs mu rm ss msz msh mho mhn mhz kd nb tn tc bo ip la ns sd to he sw nh ki te mi ar z ) [0, 1] 0 rfl rfl rfl [[o], [rw]] rfl rfl rfl rfl rfl rfl (Nat.le_of_ble_eq_true rfl) rfl dX6_minds_9 ?_
    refine J_ifB_eq (tgt := 40) 12 dX6_minds_12 (by decide) (fun c_2_ => ?_) (fun c_2_ => ?_)
    · skip
      refine J_iconst (v := (-1)) 40 dX6_minds_40 rfl ?_
      exact J_iret 41 dX6_minds_41 rfl rfl
    · skip
      refine J_iload 15 dX6_minds_15 rfl ?_
      refine J_iconst (v := 0) 17 dX6_minds_17 rfl ?_
      refine J_bipush (v := 8) 18 dX6_minds_18 rfl ?_
      refine kb_RX6_57 (bs' := [wMo o rw fr kp tr ik tp tm mso bg en wd va gd rs mu rm ss msz msh mho mhn mhz kd nb tn tc bo ip, wMr G rw la ns sd to he sw nh ki te mi ar z]) (rest := []) (st' := [.int (bI (0 ≤ n ∧ n ≤ 8))]) 20 (c_X6_in l G n 0 8 ) [] rfl rfl [] rfl rfl rfl rfl rfl rfl (Nat.le_of_ble_eq_true rfl) rfl dX6_minds_20 ?_
      refine J_ifB_eq (tgt := 40) 23 dX6_minds_23 (by decide) (fun c_3_ => ?_) (fun c_3_ => ?_)
      · skip
        refine J_iconst (v := (-1)) 40 dX6_minds_40 rfl ?_
        exact J_iret 41 dX6_minds_41 rfl rfl
      · skip
        exact absurd ⟨by assumption, by assumption, by assumption⟩ hw
set_option maxRecDepth 100000 in
set_option maxHeartbeats 4000000 in
theorem c_X6_minds_over (l : Launch) (G : Gd) (s : Nat) (i : Int32) (h : Nat) (n : Nat) (o : Nat) (rw : Nat) (fr : Nat) (kp : Nat) (tr : Nat) (ik : Int32) (tp : Nat) (tm : Nat) (mso : Int32) (bg : Nat) (en : Nat) (wd : Int64) (va : Int32) (gd : Int32) (rs : Nat) (mu : Nat) (rm : Nat) (ss : Nat) (msz : Nat) (msh : Nat) (mho : Nat) (mhn : Nat) (mhz : Nat) (kd : Int32) (nb : Int32) (tn : Int32) (tc : Nat) (bo : Nat) (ip : Int32) (la : Nat → Int32) (ns : Nat) (sd : Nat) (to : Nat → Int32) (he : Nat → Int32) (sw : Nat → Int32) (nh : Nat) (ki : Nat → Int32) (te : Nat → Int32) (mi : Nat → Int32) (ar : Nat → Int32) (z : Int32) (hh : h < nh) (hnh : nh ≤ 8) (hn : n ≤ 8) (hs : s ≤ 3) (ho : nh < h + n) : Ct l G yX6_minds cX6_minds 7 (some (FieldType.int)) 2 [.ref o, .int (nI s), .int i, .int (nI h), .int (nI n)] (wF [wMo o rw fr kp tr ik tp tm mso bg en wd va gd rs mu rm ss msz msh mho mhn mhz kd nb tn tc bo ip, wMr G rw la ns sd to he sw nh ki te mi ar z]) (some (.int (-1))) (wF [wMo o rw fr kp tr ik tp tm mso bg en wd va gd rs mu rm ss msz msh mho mhn mhz kd nb tn tc bo ip, wMr G rw la ns sd to he sw nh ki te mi ar z]) := by
  refine Ct.of "GooseArmsModel" [some (.ref o), some (.int (nI s)), some (.int i), some (.int (nI h)), some (.int (nI n)), none, none] (by decide +kernel) rfl (Nat.le_of_ble_eq_true rfl) rfl ?_
  refine J_iload_n 0 1 dX6_minds_0 rfl rfl ?_
  refine kb_RX6_262 (bs' := [wMo o rw fr kp tr ik tp tm mso bg en wd va gd rs mu rm ss msz msh mho mhn mhz kd nb tn tc bo ip, wMr G rw la ns sd to he sw nh ki te mi ar z]) (rest := []) (st' := [.int 1]) 1 (c_X6_isShelf_t l G s (by first | omega | assumption)) [] rfl rfl [] rfl rfl rfl rfl rfl rfl (Nat.le_of_ble_eq_true rfl) rfl dX6_minds_1 ?_
  refine J_if_eq (tgt := 40) 4 dX6_minds_4 (by decide) (fun c_1_ => absurd c_1_ (by decide)) (fun _ => ?_)
  refine J_aload_n 7 0 dX6_minds_7 rfl rfl ?_
  refine J_iload_n 8 3 dX6_minds_8 rfl rfl ?_
  refine kb_RX6_206 (bs' := [wMo o rw fr kp tr ik tp tm mso bg en wd va gd rs mu rm ss msz msh mho mhn mhz kd nb tn tc bo ip, wMr G rw la ns sd to he sw nh ki te mi ar z]) (rest := []) (st' := [.int 1]) 9 (c_X6_isOne_t l G h o rw fr kp tr ik tp tm mso bg en wd va gd rs mu rm ss msz msh mho mhn mhz kd nb tn tc bo ip la ns sd to he sw nh ki te mi ar z (by assumption) (by omega)) [0, 1] 0 rfl rfl rfl [[o], [rw]] rfl rfl rfl rfl rfl rfl (Nat.le_of_ble_eq_true rfl) rfl dX6_minds_9 ?_
  refine J_if_eq (tgt := 40) 12 dX6_minds_12 (by decide) (fun c_2_ => absurd c_2_ (by decide)) (fun _ => ?_)
  refine J_iload 15 dX6_minds_15 rfl ?_
  refine J_iconst (v := 0) 17 dX6_minds_17 rfl ?_
  refine J_bipush (v := 8) 18 dX6_minds_18 rfl ?_
  refine kb_RX6_57 (bs' := [wMo o rw fr kp tr ik tp tm mso bg en wd va gd rs mu rm ss msz msh mho mhn mhz kd nb tn tc bo ip, wMr G rw la ns sd to he sw nh ki te mi ar z]) (rest := []) (st' := [.int 1]) 20 (c_X6_in_t l G (nI n) 0 8 (inL_t (j := n) (m := 8) hn (by decide))) [] rfl rfl [] rfl rfl rfl rfl rfl rfl (Nat.le_of_ble_eq_true rfl) rfl dX6_minds_20 ?_
  refine J_if_eq (tgt := 40) 23 dX6_minds_23 (by decide) (fun c_3_ => absurd c_3_ (by decide)) (fun _ => ?_)
  refine J_iload 26 dX6_minds_26 rfl ?_
  refine J_aload_n 28 0 dX6_minds_28 rfl rfl ?_
  refine g_789 (v := .ref rw) 29 0 rfl rfl dX6_minds_29 ?_
  refine J_bipush (v := 6) 32 dX6_minds_32 rfl ?_
  refine J_iald 34 1 6 rfl rfl (by omega) (by decide) dX6_minds_34 ?_
  refine J_topi (y := nI nh) 35 (fR_nh rfl) ?_
  refine J_iload_n 35 3 dX6_minds_35 rfl rfl ?_
  refine J_isub 36 dX6_minds_36 ?_
  refine J_topi (y := nI (nh - h)) 37 (pk_sub (by omega)) ?_
  refine J_icmp_le (tgt := 42) 37 dX6_minds_37 (by decide) (fun c_4_ => ?_) (fun c_4_ => ?_)
  · skip
    have c_4_ : n ≤ (nh - h) := (nI_leI (a := n) (b := (nh - h)) (by omega) (by omega)).mp c_4_
    omega
  · skip
    have c_4_ : ¬ n ≤ (nh - h) := fun z_ => c_4_ ((nI_leI (a := n) (b := (nh - h)) (by omega) (by omega)).mpr z_)
    refine J_iconst (v := (-1)) 40 dX6_minds_40 rfl ?_
    exact J_iret 41 dX6_minds_41 rfl rfl
set_option maxRecDepth 100000 in
set_option maxHeartbeats 4000000 in
theorem c_X6_minds_miss (l : Launch) (G : Gd) (s : Nat) (i : Int32) (h : Nat) (n : Nat) (o : Nat) (rw : Nat) (fr : Nat) (kp : Nat) (tr : Nat) (ik : Int32) (tp : Nat) (tm : Nat) (mso : Int32) (bg : Nat) (en : Nat) (wd : Int64) (va : Int32) (gd : Int32) (rs : Nat) (mu : Nat) (rm : Nat) (ss : Nat) (msz : Nat) (msh : Nat) (mho : Nat) (mhn : Nat) (mhz : Nat) (kd : Int32) (nb : Int32) (tn : Int32) (tc : Nat) (bo : Nat) (ip : Int32) (la : Nat → Int32) (ns : Nat) (sd : Nat) (to : Nat → Int32) (he : Nat → Int32) (sw : Nat → Int32) (nh : Nat) (ki : Nat → Int32) (te : Nat → Int32) (mi : Nat → Int32) (ar : Nat → Int32) (z : Int32) (ssf : Nat → Int32) (hh : h < nh) (hnh : nh ≤ 8) (hn : n ≤ 8) (hs : s ≤ 3) (ho : h + n ≤ nh) (hso : ssf s < 0) : Ct l G yX6_minds cX6_minds 7 (some (FieldType.int)) 2 [.ref o, .int (nI s), .int i, .int (nI h), .int (nI n)] (wF [wMo o rw fr kp tr ik tp tm mso bg en wd va gd rs mu rm ss msz msh mho mhn mhz kd nb tn tc bo ip, wMr G rw la ns sd to he sw nh ki te mi ar z, wI G ss 4 ssf]) (some (.int (-11))) (wF [wMo o rw fr kp tr ik tp tm mso bg en wd va gd rs mu rm ss msz msh mho mhn mhz kd nb tn tc bo ip, wMr G rw la ns sd to he sw nh ki te mi ar z, wI G ss 4 ssf]) := by
  refine Ct.of "GooseArmsModel" [some (.ref o), some (.int (nI s)), some (.int i), some (.int (nI h)), some (.int (nI n)), none, none] (by decide +kernel) rfl (Nat.le_of_ble_eq_true rfl) rfl ?_
  refine J_iload_n 0 1 dX6_minds_0 rfl rfl ?_
  refine kb_RX6_262 (bs' := [wMo o rw fr kp tr ik tp tm mso bg en wd va gd rs mu rm ss msz msh mho mhn mhz kd nb tn tc bo ip, wMr G rw la ns sd to he sw nh ki te mi ar z, wI G ss 4 ssf]) (rest := []) (st' := [.int 1]) 1 (c_X6_isShelf_t l G s (by first | omega | assumption)) [] rfl rfl [] rfl rfl rfl rfl rfl rfl (Nat.le_of_ble_eq_true rfl) rfl dX6_minds_1 ?_
  refine J_if_eq (tgt := 40) 4 dX6_minds_4 (by decide) (fun c_1_ => absurd c_1_ (by decide)) (fun _ => ?_)
  refine J_aload_n 7 0 dX6_minds_7 rfl rfl ?_
  refine J_iload_n 8 3 dX6_minds_8 rfl rfl ?_
  refine kb_RX6_206 (bs' := [wMo o rw fr kp tr ik tp tm mso bg en wd va gd rs mu rm ss msz msh mho mhn mhz kd nb tn tc bo ip, wMr G rw la ns sd to he sw nh ki te mi ar z, wI G ss 4 ssf]) (rest := []) (st' := [.int 1]) 9 (c_X6_isOne_t l G h o rw fr kp tr ik tp tm mso bg en wd va gd rs mu rm ss msz msh mho mhn mhz kd nb tn tc bo ip la ns sd to he sw nh ki te mi ar z (by assumption) (by omega)) [0, 1] 0 rfl rfl rfl [[o], [rw]] rfl rfl rfl rfl rfl rfl (Nat.le_of_ble_eq_true rfl) rfl dX6_minds_9 ?_
  refine J_if_eq (tgt := 40) 12 dX6_minds_12 (by decide) (fun c_2_ => absurd c_2_ (by decide)) (fun _ => ?_)
  refine J_iload 15 dX6_minds_15 rfl ?_
  refine J_iconst (v := 0) 17 dX6_minds_17 rfl ?_
  refine J_bipush (v := 8) 18 dX6_minds_18 rfl ?_
  refine kb_RX6_57 (bs' := [wMo o rw fr kp tr ik tp tm mso bg en wd va gd rs mu rm ss msz msh mho mhn mhz kd nb tn tc bo ip, wMr G rw la ns sd to he sw nh ki te mi ar z, wI G ss 4 ssf]) (rest := []) (st' := [.int 1]) 20 (c_X6_in_t l G (nI n) 0 8 (inL_t (j := n) (m := 8) hn (by decide))) [] rfl rfl [] rfl rfl rfl rfl rfl rfl (Nat.le_of_ble_eq_true rfl) rfl dX6_minds_20 ?_
  refine J_if_eq (tgt := 40) 23 dX6_minds_23 (by decide) (fun c_3_ => absurd c_3_ (by decide)) (fun _ => ?_)
  refine J_iload 26 dX6_minds_26 rfl ?_
  refine J_aload_n 28 0 dX6_minds_28 rfl rfl ?_
  refine g_789 (v := .ref rw) 29 0 rfl rfl dX6_minds_29 ?_
  refine J_bipush (v := 6) 32 dX6_minds_32 rfl ?_
  refine J_iald 34 1 6 rfl rfl (by omega) (by decide) dX6_minds_34 ?_
  refine J_topi (y := nI nh) 35 (fR_nh rfl) ?_
  refine J_iload_n 35 3 dX6_minds_35 rfl rfl ?_
  refine J_isub 36 dX6_minds_36 ?_
  refine J_topi (y := nI (nh - h)) 37 (pk_sub (by omega)) ?_
  refine J_icmp_le (tgt := 42) 37 dX6_minds_37 (by decide) (fun c_4_ => ?_) (fun c_4_ => ?_)
  · skip
    have c_4_ : n ≤ (nh - h) := (nI_leI (a := n) (b := (nh - h)) (by omega) (by omega)).mp c_4_
    refine J_aload_n 42 0 dX6_minds_42 rfl rfl ?_
    refine J_iload_n 43 1 dX6_minds_43 rfl rfl ?_
    refine J_iconst (v := 0) 44 dX6_minds_44 rfl ?_
    refine kb_RX6_284 (bs' := [wMo o rw fr kp tr ik tp tm mso bg en wd va gd rs mu rm ss msz msh mho mhn mhz kd nb tn tc bo ip, wMr G rw la ns sd to he sw nh ki te mi ar z, wI G ss 4 ssf]) (rest := []) (st' := [.int (-11)]) 45 (c_X6_lacksSort_m l G s 0 o rw fr kp tr ik tp tm mso bg en wd va gd rs mu rm ss msz msh mho mhn mhz kd nb tn tc bo ip ssf (by first | omega | assumption) (by first | omega | assumption)) [0, 2] 0 rfl rfl rfl [[o], [ss]] rfl rfl rfl rfl rfl rfl (Nat.le_of_ble_eq_true rfl) rfl dX6_minds_45 ?_
    refine J_istore (lv' := [some (.ref o), some (.int (nI s)), some (.int i), some (.int (nI h)), some (.int (nI n)), some (.int (-11)), none]) 48 dX6_minds_48 (by decide) rfl ?_
    refine J_iload 50 dX6_minds_50 rfl ?_
    refine J_if_eq (tgt := 58) 52 dX6_minds_52 (by decide) (fun c_5_ => absurd c_5_ (by decide)) (fun _ => ?_)
    refine J_iload 55 dX6_minds_55 rfl ?_
    exact J_iret 57 dX6_minds_57 rfl rfl
  · skip
    have c_4_ : ¬ n ≤ (nh - h) := fun z_ => c_4_ ((nI_leI (a := n) (b := (nh - h)) (by omega) (by omega)).mpr z_)
    omega
set_option maxRecDepth 100000 in
set_option maxHeartbeats 4000000 in
theorem c_X6_minds_sort (l : Launch) (G : Gd) (s : Nat) (i : Int32) (h : Nat) (n : Nat) (o : Nat) (rw : Nat) (fr : Nat) (kp : Nat) (tr : Nat) (ik : Int32) (tp : Nat) (tm : Nat) (mso : Int32) (bg : Nat) (en : Nat) (wd : Int64) (va : Int32) (gd : Int32) (rs : Nat) (mu : Nat) (rm : Nat) (ss : Nat) (msz : Nat) (msh : Nat) (mho : Nat) (mhn : Nat) (mhz : Nat) (kd : Int32) (nb : Int32) (tn : Int32) (tc : Nat) (bo : Nat) (ip : Int32) (la : Nat → Int32) (ns : Nat) (sd : Nat) (to : Nat → Int32) (he : Nat → Int32) (sw : Nat → Int32) (nh : Nat) (ki : Nat → Int32) (te : Nat → Int32) (mi : Nat → Int32) (ar : Nat → Int32) (z : Int32) (ssf : Nat → Int32) (hh : h < nh) (hnh : nh ≤ 8) (hn : n ≤ 8) (hs : s ≤ 3) (ho : h + n ≤ nh) (hso : ¬ ssf s < 0) (hsv : ¬ ssf s = 0) : Ct l G yX6_minds cX6_minds 7 (some (FieldType.int)) 2 [.ref o, .int (nI s), .int i, .int (nI h), .int (nI n)] (wF [wMo o rw fr kp tr ik tp tm mso bg en wd va gd rs mu rm ss msz msh mho mhn mhz kd nb tn tc bo ip, wMr G rw la ns sd to he sw nh ki te mi ar z, wI G ss 4 ssf]) (some (.int (-13))) (wF [wMo o rw fr kp tr ik tp tm mso bg en wd va gd rs mu rm ss msz msh mho mhn mhz kd nb tn tc bo ip, wMr G rw la ns sd to he sw nh ki te mi ar z, wI G ss 4 ssf]) := by
  refine Ct.of "GooseArmsModel" [some (.ref o), some (.int (nI s)), some (.int i), some (.int (nI h)), some (.int (nI n)), none, none] (by decide +kernel) rfl (Nat.le_of_ble_eq_true rfl) rfl ?_
  refine J_iload_n 0 1 dX6_minds_0 rfl rfl ?_
  refine kb_RX6_262 (bs' := [wMo o rw fr kp tr ik tp tm mso bg en wd va gd rs mu rm ss msz msh mho mhn mhz kd nb tn tc bo ip, wMr G rw la ns sd to he sw nh ki te mi ar z, wI G ss 4 ssf]) (rest := []) (st' := [.int 1]) 1 (c_X6_isShelf_t l G s (by first | omega | assumption)) [] rfl rfl [] rfl rfl rfl rfl rfl rfl (Nat.le_of_ble_eq_true rfl) rfl dX6_minds_1 ?_
  refine J_if_eq (tgt := 40) 4 dX6_minds_4 (by decide) (fun c_1_ => absurd c_1_ (by decide)) (fun _ => ?_)
  refine J_aload_n 7 0 dX6_minds_7 rfl rfl ?_
  refine J_iload_n 8 3 dX6_minds_8 rfl rfl ?_
  refine kb_RX6_206 (bs' := [wMo o rw fr kp tr ik tp tm mso bg en wd va gd rs mu rm ss msz msh mho mhn mhz kd nb tn tc bo ip, wMr G rw la ns sd to he sw nh ki te mi ar z, wI G ss 4 ssf]) (rest := []) (st' := [.int 1]) 9 (c_X6_isOne_t l G h o rw fr kp tr ik tp tm mso bg en wd va gd rs mu rm ss msz msh mho mhn mhz kd nb tn tc bo ip la ns sd to he sw nh ki te mi ar z (by assumption) (by omega)) [0, 1] 0 rfl rfl rfl [[o], [rw]] rfl rfl rfl rfl rfl rfl (Nat.le_of_ble_eq_true rfl) rfl dX6_minds_9 ?_
  refine J_if_eq (tgt := 40) 12 dX6_minds_12 (by decide) (fun c_2_ => absurd c_2_ (by decide)) (fun _ => ?_)
  refine J_iload 15 dX6_minds_15 rfl ?_
  refine J_iconst (v := 0) 17 dX6_minds_17 rfl ?_
  refine J_bipush (v := 8) 18 dX6_minds_18 rfl ?_
  refine kb_RX6_57 (bs' := [wMo o rw fr kp tr ik tp tm mso bg en wd va gd rs mu rm ss msz msh mho mhn mhz kd nb tn tc bo ip, wMr G rw la ns sd to he sw nh ki te mi ar z, wI G ss 4 ssf]) (rest := []) (st' := [.int 1]) 20 (c_X6_in_t l G (nI n) 0 8 (inL_t (j := n) (m := 8) hn (by decide))) [] rfl rfl [] rfl rfl rfl rfl rfl rfl (Nat.le_of_ble_eq_true rfl) rfl dX6_minds_20 ?_
  refine J_if_eq (tgt := 40) 23 dX6_minds_23 (by decide) (fun c_3_ => absurd c_3_ (by decide)) (fun _ => ?_)
  refine J_iload 26 dX6_minds_26 rfl ?_
  refine J_aload_n 28 0 dX6_minds_28 rfl rfl ?_
  refine g_789 (v := .ref rw) 29 0 rfl rfl dX6_minds_29 ?_
  refine J_bipush (v := 6) 32 dX6_minds_32 rfl ?_
  refine J_iald 34 1 6 rfl rfl (by omega) (by decide) dX6_minds_34 ?_
  refine J_topi (y := nI nh) 35 (fR_nh rfl) ?_
  refine J_iload_n 35 3 dX6_minds_35 rfl rfl ?_
  refine J_isub 36 dX6_minds_36 ?_
  refine J_topi (y := nI (nh - h)) 37 (pk_sub (by omega)) ?_
  refine J_icmp_le (tgt := 42) 37 dX6_minds_37 (by decide) (fun c_4_ => ?_) (fun c_4_ => ?_)
  · skip
    have c_4_ : n ≤ (nh - h) := (nI_leI (a := n) (b := (nh - h)) (by omega) (by omega)).mp c_4_
    refine J_aload_n 42 0 dX6_minds_42 rfl rfl ?_
    refine J_iload_n 43 1 dX6_minds_43 rfl rfl ?_
    refine J_iconst (v := 0) 44 dX6_minds_44 rfl ?_
    refine kb_RX6_284 (bs' := [wMo o rw fr kp tr ik tp tm mso bg en wd va gd rs mu rm ss msz msh mho mhn mhz kd nb tn tc bo ip, wMr G rw la ns sd to he sw nh ki te mi ar z, wI G ss 4 ssf]) (rest := []) (st' := [.int (-13)]) 45 (c_X6_lacksSort_s l G s 0 o rw fr kp tr ik tp tm mso bg en wd va gd rs mu rm ss msz msh mho mhn mhz kd nb tn tc bo ip ssf (by first | omega | assumption) (by first | omega | assumption) (by first | omega | assumption)) [0, 2] 0 rfl rfl rfl [[o], [ss]] rfl rfl rfl rfl rfl rfl (Nat.le_of_ble_eq_true rfl) rfl dX6_minds_45 ?_
    refine J_istore (lv' := [some (.ref o), some (.int (nI s)), some (.int i), some (.int (nI h)), some (.int (nI n)), some (.int (-13)), none]) 48 dX6_minds_48 (by decide) rfl ?_
    refine J_iload 50 dX6_minds_50 rfl ?_
    refine J_if_eq (tgt := 58) 52 dX6_minds_52 (by decide) (fun c_5_ => absurd c_5_ (by decide)) (fun _ => ?_)
    refine J_iload 55 dX6_minds_55 rfl ?_
    exact J_iret 57 dX6_minds_57 rfl rfl
  · skip
    have c_4_ : ¬ n ≤ (nh - h) := fun z_ => c_4_ ((nI_leI (a := n) (b := (nh - h)) (by omega) (by omega)).mpr z_)
    omega
set_option maxRecDepth 100000 in
set_option maxHeartbeats 4000000 in
theorem c_X6_minds_out (l : Launch) (G : Gd) (s : Nat) (i : Int32) (h : Nat) (n : Nat) (m : Nat) (o : Nat) (rw : Nat) (fr : Nat) (kp : Nat) (tr : Nat) (ik : Int32) (tp : Nat) (tm : Nat) (mso : Int32) (bg : Nat) (en : Nat) (wd : Int64) (va : Int32) (gd : Int32) (rs : Nat) (mu : Nat) (rm : Nat) (ss : Nat) (msz : Nat) (msh : Nat) (mho : Nat) (mhn : Nat) (mhz : Nat) (kd : Int32) (nb : Int32) (tn : Int32) (tc : Nat) (bo : Nat) (ip : Int32) (la : Nat → Int32) (ns : Nat) (sd : Nat) (to : Nat → Int32) (he : Nat → Int32) (sw : Nat → Int32) (nh : Nat) (ki : Nat → Int32) (te : Nat → Int32) (mi : Nat → Int32) (ar : Nat → Int32) (z : Int32) (ssf : Nat → Int32) (szf : Nat → Int32) (hh : h < nh) (hnh : nh ≤ 8) (hn : n ≤ 8) (hs : s ≤ 3) (ho : h + n ≤ nh) (hsv : ssf s = 0) (hso : ¬ ssf s < 0) (hm : m ≤ 40) (hsz : szf s = nI m) (hw : ¬ (0 ≤ i ∧ i ≤ nI m)) : Ct l G yX6_minds cX6_minds 7 (some (FieldType.int)) 2 [.ref o, .int (nI s), .int i, .int (nI h), .int (nI n)] (wF [wMo o rw fr kp tr ik tp tm mso bg en wd va gd rs mu rm ss msz msh mho mhn mhz kd nb tn tc bo ip, wMr G rw la ns sd to he sw nh ki te mi ar z, wI G ss 4 ssf, wI G msz 4 szf]) (some (.int (-12))) (wF [wMo o rw fr kp tr ik tp tm mso bg en wd va gd rs mu rm ss msz msh mho mhn mhz kd nb tn tc bo ip, wMr G rw la ns sd to he sw nh ki te mi ar z, wI G ss 4 ssf, wI G msz 4 szf]) := by
  refine Ct.of "GooseArmsModel" [some (.ref o), some (.int (nI s)), some (.int i), some (.int (nI h)), some (.int (nI n)), none, none] (by decide +kernel) rfl (Nat.le_of_ble_eq_true rfl) rfl ?_
  refine J_iload_n 0 1 dX6_minds_0 rfl rfl ?_
  refine kb_RX6_262 (bs' := [wMo o rw fr kp tr ik tp tm mso bg en wd va gd rs mu rm ss msz msh mho mhn mhz kd nb tn tc bo ip, wMr G rw la ns sd to he sw nh ki te mi ar z, wI G ss 4 ssf, wI G msz 4 szf]) (rest := []) (st' := [.int 1]) 1 (c_X6_isShelf_t l G s (by first | omega | assumption)) [] rfl rfl [] rfl rfl rfl rfl rfl rfl (Nat.le_of_ble_eq_true rfl) rfl dX6_minds_1 ?_
  refine J_if_eq (tgt := 40) 4 dX6_minds_4 (by decide) (fun c_1_ => absurd c_1_ (by decide)) (fun _ => ?_)
  refine J_aload_n 7 0 dX6_minds_7 rfl rfl ?_
  refine J_iload_n 8 3 dX6_minds_8 rfl rfl ?_
  refine kb_RX6_206 (bs' := [wMo o rw fr kp tr ik tp tm mso bg en wd va gd rs mu rm ss msz msh mho mhn mhz kd nb tn tc bo ip, wMr G rw la ns sd to he sw nh ki te mi ar z, wI G ss 4 ssf, wI G msz 4 szf]) (rest := []) (st' := [.int 1]) 9 (c_X6_isOne_t l G h o rw fr kp tr ik tp tm mso bg en wd va gd rs mu rm ss msz msh mho mhn mhz kd nb tn tc bo ip la ns sd to he sw nh ki te mi ar z (by assumption) (by omega)) [0, 1] 0 rfl rfl rfl [[o], [rw]] rfl rfl rfl rfl rfl rfl (Nat.le_of_ble_eq_true rfl) rfl dX6_minds_9 ?_
  refine J_if_eq (tgt := 40) 12 dX6_minds_12 (by decide) (fun c_2_ => absurd c_2_ (by decide)) (fun _ => ?_)
  refine J_iload 15 dX6_minds_15 rfl ?_
  refine J_iconst (v := 0) 17 dX6_minds_17 rfl ?_
  refine J_bipush (v := 8) 18 dX6_minds_18 rfl ?_
  refine kb_RX6_57 (bs' := [wMo o rw fr kp tr ik tp tm mso bg en wd va gd rs mu rm ss msz msh mho mhn mhz kd nb tn tc bo ip, wMr G rw la ns sd to he sw nh ki te mi ar z, wI G ss 4 ssf, wI G msz 4 szf]) (rest := []) (st' := [.int 1]) 20 (c_X6_in_t l G (nI n) 0 8 (inL_t (j := n) (m := 8) hn (by decide))) [] rfl rfl [] rfl rfl rfl rfl rfl rfl (Nat.le_of_ble_eq_true rfl) rfl dX6_minds_20 ?_
  refine J_if_eq (tgt := 40) 23 dX6_minds_23 (by decide) (fun c_3_ => absurd c_3_ (by decide)) (fun _ => ?_)
  refine J_iload 26 dX6_minds_26 rfl ?_
  refine J_aload_n 28 0 dX6_minds_28 rfl rfl ?_
  refine g_789 (v := .ref rw) 29 0 rfl rfl dX6_minds_29 ?_
  refine J_bipush (v := 6) 32 dX6_minds_32 rfl ?_
  refine J_iald 34 1 6 rfl rfl (by omega) (by decide) dX6_minds_34 ?_
  refine J_topi (y := nI nh) 35 (fR_nh rfl) ?_
  refine J_iload_n 35 3 dX6_minds_35 rfl rfl ?_
  refine J_isub 36 dX6_minds_36 ?_
  refine J_topi (y := nI (nh - h)) 37 (pk_sub (by omega)) ?_
  refine J_icmp_le (tgt := 42) 37 dX6_minds_37 (by decide) (fun c_4_ => ?_) (fun c_4_ => ?_)
  · skip
    have c_4_ : n ≤ (nh - h) := (nI_leI (a := n) (b := (nh - h)) (by omega) (by omega)).mp c_4_
    refine J_aload_n 42 0 dX6_minds_42 rfl rfl ?_
    refine J_iload_n 43 1 dX6_minds_43 rfl rfl ?_
    refine J_iconst (v := 0) 44 dX6_minds_44 rfl ?_
    refine kb_RX6_284 (bs' := [wMo o rw fr kp tr ik tp tm mso bg en wd va gd rs mu rm ss msz msh mho mhn mhz kd nb tn tc bo ip, wMr G rw la ns sd to he sw nh ki te mi ar z, wI G ss 4 ssf, wI G msz 4 szf]) (rest := []) (st' := [.int 0]) 45 (c_X6_lacksSort_t l G s 0 o rw fr kp tr ik tp tm mso bg en wd va gd rs mu rm ss msz msh mho mhn mhz kd nb tn tc bo ip ssf (by first | omega | assumption) (by first | omega | assumption) (by first | omega | assumption)) [0, 2] 0 rfl rfl rfl [[o], [ss]] rfl rfl rfl rfl rfl rfl (Nat.le_of_ble_eq_true rfl) rfl dX6_minds_45 ?_
    refine J_istore (lv' := [some (.ref o), some (.int (nI s)), some (.int i), some (.int (nI h)), some (.int (nI n)), some (.int 0), none]) 48 dX6_minds_48 (by decide) rfl ?_
    refine J_iload 50 dX6_minds_50 rfl ?_
    refine J_if_eq (tgt := 58) 52 dX6_minds_52 (by decide) (fun _ => ?_) (fun c_5_ => absurd c_5_ (by decide))
    refine J_iload_n 58 2 dX6_minds_58 rfl rfl ?_
    refine J_if_lt (tgt := 75) 59 dX6_minds_59 (by decide) (fun c_6_ => ?_) (fun c_6_ => ?_)
    · skip
      refine J_bipush (v := (-12)) 75 dX6_minds_75 rfl ?_
      exact J_iret 77 dX6_minds_77 rfl rfl
    · skip
      refine J_iload_n 62 2 dX6_minds_62 rfl rfl ?_
      refine J_aload_n 63 0 dX6_minds_63 rfl rfl ?_
      refine g_806 (v := .ref msz) 64 0 rfl rfl dX6_minds_64 ?_
      refine J_iload_n 67 1 dX6_minds_67 rfl rfl ?_
      refine J_iald 68 3 s rfl rfl (by omega) (by decide) dX6_minds_68 ?_
      refine J_topi (y := nI m) 69 hsz ?_
      refine J_iload 69 dX6_minds_69 rfl ?_
      refine J_isub 71 dX6_minds_71 ?_
      refine J_icmp_le (tgt := 78) 72 dX6_minds_72 (by decide) (fun c_7_ => ?_) (fun c_7_ => ?_)
      · skip
        exact absurd c_7_ (mi_1 hm hn hw (by assumption))
      · skip
        refine J_bipush (v := (-12)) 75 dX6_minds_75 rfl ?_
        exact J_iret 77 dX6_minds_77 rfl rfl
  · skip
    have c_4_ : ¬ n ≤ (nh - h) := fun z_ => c_4_ ((nI_leI (a := n) (b := (nh - h)) (by omega) (by omega)).mpr z_)
    omega
set_option maxRecDepth 100000 in
set_option maxHeartbeats 4000000 in
theorem c_X6_minds_out2 (l : Launch) (G : Gd) (s : Nat) (i : Nat) (h : Nat) (n : Nat) (m : Nat) (o : Nat) (rw : Nat) (fr : Nat) (kp : Nat) (tr : Nat) (ik : Int32) (tp : Nat) (tm : Nat) (mso : Int32) (bg : Nat) (en : Nat) (wd : Int64) (va : Int32) (gd : Int32) (rs : Nat) (mu : Nat) (rm : Nat) (ss : Nat) (msz : Nat) (msh : Nat) (mho : Nat) (mhn : Nat) (mhz : Nat) (kd : Int32) (nb : Int32) (tn : Int32) (tc : Nat) (bo : Nat) (ip : Int32) (la : Nat → Int32) (ns : Nat) (sd : Nat) (to : Nat → Int32) (he : Nat → Int32) (sw : Nat → Int32) (nh : Nat) (ki : Nat → Int32) (te : Nat → Int32) (mi : Nat → Int32) (ar : Nat → Int32) (z : Int32) (ssf : Nat → Int32) (szf : Nat → Int32) (hh : h < nh) (hnh : nh ≤ 8) (hn : n ≤ 8) (hs : s ≤ 3) (ho : h + n ≤ nh) (hsv : ssf s = 0) (hso : ¬ ssf s < 0) (hm : m ≤ 40) (hsz : szf s = nI m) (hi : i ≤ m) (hw : m < i + n) : Ct l G yX6_minds cX6_minds 7 (some (FieldType.int)) 2 [.ref o, .int (nI s), .int (nI i), .int (nI h), .int (nI n)] (wF [wMo o rw fr kp tr ik tp tm mso bg en wd va gd rs mu rm ss msz msh mho mhn mhz kd nb tn tc bo ip, wMr G rw la ns sd to he sw nh ki te mi ar z, wI G ss 4 ssf, wI G msz 4 szf]) (some (.int (-12))) (wF [wMo o rw fr kp tr ik tp tm mso bg en wd va gd rs mu rm ss msz msh mho mhn mhz kd nb tn tc bo ip, wMr G rw la ns sd to he sw nh ki te mi ar z, wI G ss 4 ssf, wI G msz 4 szf]) := by
  refine Ct.of "GooseArmsModel" [some (.ref o), some (.int (nI s)), some (.int (nI i)), some (.int (nI h)), some (.int (nI n)), none, none] (by decide +kernel) rfl (Nat.le_of_ble_eq_true rfl) rfl ?_
  refine J_iload_n 0 1 dX6_minds_0 rfl rfl ?_
  refine kb_RX6_262 (bs' := [wMo o rw fr kp tr ik tp tm mso bg en wd va gd rs mu rm ss msz msh mho mhn mhz kd nb tn tc bo ip, wMr G rw la ns sd to he sw nh ki te mi ar z, wI G ss 4 ssf, wI G msz 4 szf]) (rest := []) (st' := [.int 1]) 1 (c_X6_isShelf_t l G s (by first | omega | assumption)) [] rfl rfl [] rfl rfl rfl rfl rfl rfl (Nat.le_of_ble_eq_true rfl) rfl dX6_minds_1 ?_
  refine J_if_eq (tgt := 40) 4 dX6_minds_4 (by decide) (fun c_1_ => absurd c_1_ (by decide)) (fun _ => ?_)
  refine J_aload_n 7 0 dX6_minds_7 rfl rfl ?_
  refine J_iload_n 8 3 dX6_minds_8 rfl rfl ?_
  refine kb_RX6_206 (bs' := [wMo o rw fr kp tr ik tp tm mso bg en wd va gd rs mu rm ss msz msh mho mhn mhz kd nb tn tc bo ip, wMr G rw la ns sd to he sw nh ki te mi ar z, wI G ss 4 ssf, wI G msz 4 szf]) (rest := []) (st' := [.int 1]) 9 (c_X6_isOne_t l G h o rw fr kp tr ik tp tm mso bg en wd va gd rs mu rm ss msz msh mho mhn mhz kd nb tn tc bo ip la ns sd to he sw nh ki te mi ar z (by assumption) (by omega)) [0, 1] 0 rfl rfl rfl [[o], [rw]] rfl rfl rfl rfl rfl rfl (Nat.le_of_ble_eq_true rfl) rfl dX6_minds_9 ?_
  refine J_if_eq (tgt := 40) 12 dX6_minds_12 (by decide) (fun c_2_ => absurd c_2_ (by decide)) (fun _ => ?_)
  refine J_iload 15 dX6_minds_15 rfl ?_
  refine J_iconst (v := 0) 17 dX6_minds_17 rfl ?_
  refine J_bipush (v := 8) 18 dX6_minds_18 rfl ?_
  refine kb_RX6_57 (bs' := [wMo o rw fr kp tr ik tp tm mso bg en wd va gd rs mu rm ss msz msh mho mhn mhz kd nb tn tc bo ip, wMr G rw la ns sd to he sw nh ki te mi ar z, wI G ss 4 ssf, wI G msz 4 szf]) (rest := []) (st' := [.int 1]) 20 (c_X6_in_t l G (nI n) 0 8 (inL_t (j := n) (m := 8) hn (by decide))) [] rfl rfl [] rfl rfl rfl rfl rfl rfl (Nat.le_of_ble_eq_true rfl) rfl dX6_minds_20 ?_
  refine J_if_eq (tgt := 40) 23 dX6_minds_23 (by decide) (fun c_3_ => absurd c_3_ (by decide)) (fun _ => ?_)
  refine J_iload 26 dX6_minds_26 rfl ?_
  refine J_aload_n 28 0 dX6_minds_28 rfl rfl ?_
  refine g_789 (v := .ref rw) 29 0 rfl rfl dX6_minds_29 ?_
  refine J_bipush (v := 6) 32 dX6_minds_32 rfl ?_
  refine J_iald 34 1 6 rfl rfl (by omega) (by decide) dX6_minds_34 ?_
  refine J_topi (y := nI nh) 35 (fR_nh rfl) ?_
  refine J_iload_n 35 3 dX6_minds_35 rfl rfl ?_
  refine J_isub 36 dX6_minds_36 ?_
  refine J_topi (y := nI (nh - h)) 37 (pk_sub (by omega)) ?_
  refine J_icmp_le (tgt := 42) 37 dX6_minds_37 (by decide) (fun c_4_ => ?_) (fun c_4_ => ?_)
  · skip
    have c_4_ : n ≤ (nh - h) := (nI_leI (a := n) (b := (nh - h)) (by omega) (by omega)).mp c_4_
    refine J_aload_n 42 0 dX6_minds_42 rfl rfl ?_
    refine J_iload_n 43 1 dX6_minds_43 rfl rfl ?_
    refine J_iconst (v := 0) 44 dX6_minds_44 rfl ?_
    refine kb_RX6_284 (bs' := [wMo o rw fr kp tr ik tp tm mso bg en wd va gd rs mu rm ss msz msh mho mhn mhz kd nb tn tc bo ip, wMr G rw la ns sd to he sw nh ki te mi ar z, wI G ss 4 ssf, wI G msz 4 szf]) (rest := []) (st' := [.int 0]) 45 (c_X6_lacksSort_t l G s 0 o rw fr kp tr ik tp tm mso bg en wd va gd rs mu rm ss msz msh mho mhn mhz kd nb tn tc bo ip ssf (by first | omega | assumption) (by first | omega | assumption) (by first | omega | assumption)) [0, 2] 0 rfl rfl rfl [[o], [ss]] rfl rfl rfl rfl rfl rfl (Nat.le_of_ble_eq_true rfl) rfl dX6_minds_45 ?_
    refine J_istore (lv' := [some (.ref o), some (.int (nI s)), some (.int (nI i)), some (.int (nI h)), some (.int (nI n)), some (.int 0), none]) 48 dX6_minds_48 (by decide) rfl ?_
    refine J_iload 50 dX6_minds_50 rfl ?_
    refine J_if_eq (tgt := 58) 52 dX6_minds_52 (by decide) (fun _ => ?_) (fun c_5_ => absurd c_5_ (by decide))
    refine J_iload_n 58 2 dX6_minds_58 rfl rfl ?_
    refine J_if_lt (tgt := 75) 59 dX6_minds_59 (by decide) (fun c_6_ => ?_) (fun c_6_ => ?_)
    · skip
      have c_6_ : i < 0 := (nI_ltI (a := i) (b := 0) (by omega) (by omega)).mp c_6_
      refine J_bipush (v := (-12)) 75 dX6_minds_75 rfl ?_
      exact J_iret 77 dX6_minds_77 rfl rfl
    · skip
      have c_6_ : ¬ i < 0 := fun z_ => c_6_ ((nI_ltI (a := i) (b := 0) (by omega) (by omega)).mpr z_)
      refine J_iload_n 62 2 dX6_minds_62 rfl rfl ?_
      refine J_aload_n 63 0 dX6_minds_63 rfl rfl ?_
      refine g_806 (v := .ref msz) 64 0 rfl rfl dX6_minds_64 ?_
      refine J_iload_n 67 1 dX6_minds_67 rfl rfl ?_
      refine J_iald 68 3 s rfl rfl (by omega) (by decide) dX6_minds_68 ?_
      refine J_topi (y := nI m) 69 hsz ?_
      refine J_iload 69 dX6_minds_69 rfl ?_
      refine J_isub 71 dX6_minds_71 ?_
      refine J_icmp_le (tgt := 78) 72 dX6_minds_72 (by decide) (fun c_7_ => ?_) (fun c_7_ => ?_)
      · skip
        exact absurd c_7_ (mi_2 hm hn hi hw)
      · skip
        refine J_bipush (v := (-12)) 75 dX6_minds_75 rfl ?_
        exact J_iret 77 dX6_minds_77 rfl rfl
  · skip
    have c_4_ : ¬ n ≤ (nh - h) := fun z_ => c_4_ ((nI_leI (a := n) (b := (nh - h)) (by omega) (by omega)).mpr z_)
    omega
set_option maxRecDepth 100000 in
set_option maxHeartbeats 4000000 in
theorem c_X6_minds_ok (l : Launch) (G : Gd) (s : Nat) (i : Nat) (h : Nat) (n : Nat) (m : Nat) (o : Nat) (rw : Nat) (fr : Nat) (kp : Nat) (tr : Nat) (ik : Int32) (tp : Nat) (tm : Nat) (mso : Int32) (bg : Nat) (en : Nat) (wd : Int64) (va : Int32) (gd : Int32) (rs : Nat) (mu : Nat) (rm : Nat) (ss : Nat) (msz : Nat) (msh : Nat) (mho : Nat) (mhn : Nat) (mhz : Nat) (kd : Int32) (nb : Int32) (tn : Int32) (tc : Nat) (bo : Nat) (ip : Int32) (la : Nat → Int32) (ns : Nat) (sd : Nat) (to : Nat → Int32) (he : Nat → Int32) (sw : Nat → Int32) (nh : Nat) (ki : Nat → Int32) (te : Nat → Int32) (mi : Nat → Int32) (ar : Nat → Int32) (z : Int32) (ssf : Nat → Int32) (szf : Nat → Int32) (shf : Nat → Int64) (hh : h < nh) (hnh : nh ≤ 8) (hn : n ≤ 8) (hs : s ≤ 3) (ho : h + n ≤ nh) (hsv : ssf s = 0) (hso : ¬ ssf s < 0) (hm : m ≤ 40) (hsz : szf s = nI m) (hi : i + n ≤ m) : Ct l G yX6_minds cX6_minds 7 (some (FieldType.int)) 2 [.ref o, .int (nI s), .int (nI i), .int (nI h), .int (nI n)] (wF [wMo o rw fr kp tr ik tp tm mso bg en wd va gd rs mu rm ss msz msh mho mhn mhz kd nb tn tc bo ip, wMr G rw la ns sd to he sw nh ki te mi ar z, wI G ss 4 ssf, wI G msz 4 szf, wJ G msh 160 shf]) (some (.int (nI n))) (wF [wMo o rw fr kp tr ik tp tm mso bg en wd va gd rs mu rm ss msz msh mho mhn mhz kd nb tn tc bo ip, wMr G rw la ns sd to he sw nh ki (fMi te h shf (40 * s + i) n) mi ar z, wI G ss 4 ssf, wI G msz 4 szf, wJ G msh 160 shf]) := by
  refine Ct.of "GooseArmsModel" [some (.ref o), some (.int (nI s)), some (.int (nI i)), some (.int (nI h)), some (.int (nI n)), none, none] (by decide +kernel) rfl (Nat.le_of_ble_eq_true rfl) rfl ?_
  have cut_81_ : ∀ (n_81_ : Nat) (k : Nat) (te1 : Nat → Int32), (n - k < n_81_) → (hk : k ≤ n) → (hte : te1 = fMi te h shf (40 * s + i) k) → J l G (bd G 2 (some (FieldType.int)) (some (.int (nI n))) (wF [wMo o rw fr kp tr ik tp tm mso bg en wd va gd rs mu rm ss msz msh mho mhn mhz kd nb tn tc bo ip, wMr G rw la ns sd to he sw nh ki (fMi te h shf (40 * s + i) n) mi ar z, wI G ss 4 ssf, wI G msz 4 szf, wJ G msh 160 shf])) cX6_minds 7 "GooseArmsModel" 81 [some (.ref o), some (.int (nI s)), some (.int (nI i)), some (.int (nI h)), some (.int (nI n)), none, some (.int (nI k))] [] (wF [wMo o rw fr kp tr ik tp tm mso bg en wd va gd rs mu rm ss msz msh mho mhn mhz kd nb tn tc bo ip, wMr G rw la ns sd to he sw nh ki te1 mi ar z, wI G ss 4 ssf, wI G msz 4 szf, wJ G msh 160 shf]) := by
    intro n_81_
    induction n_81_ with
    | zero => intro k te1 m_81_; exact absurd m_81_ (Nat.not_lt_zero _)
    | succ n_81_ ih_81_ =>
      intro k te1 m_81_ hk hte
      refine J_iload 81 dX6_minds_81 rfl ?_
      refine J_iload 83 dX6_minds_83 rfl ?_
      refine J_icmp_ge (tgt := 124) 85 dX6_minds_85 (by decide) (fun c_1_ => ?_) (fun c_1_ => ?_)
      · skip
        have c_1_ : n ≤ k := (nI_leI (a := n) (b := k) (by omega) (by omega)).mp c_1_
        refine J_iload 124 dX6_minds_124 rfl ?_
        exact J_iret 126 dX6_minds_126 rfl (cg1 (fun (x0_ : Nat → Int32) => (wF [wMo o rw fr kp tr ik tp tm mso bg en wd va gd rs mu rm ss msz msh mho mhn mhz kd nb tn tc bo ip, wMr G rw la ns sd to he sw nh ki x0_ mi ar z, wI G ss 4 ssf, wI G msz 4 szf, wJ G msh 160 shf])) te1 (fMi te h shf (40 * s + i) n) (by rw [hte, show k = n by omega]))
      · skip
        have c_1_ : ¬ n ≤ k := fun z_ => c_1_ ((nI_leI (a := n) (b := k) (by omega) (by omega)).mpr z_)
        refine J_aload_n 88 0 dX6_minds_88 rfl rfl ?_
        refine J_iload_n 89 3 dX6_minds_89 rfl rfl ?_
        refine J_iload 90 dX6_minds_90 rfl ?_
        refine J_iadd 92 dX6_minds_92 ?_
        refine J_topi (y := nI (h + k)) 93 (nI_add h k) ?_
        refine J_iconst (v := 1) 93 dX6_minds_93 rfl ?_
        refine J_aload_n 94 0 dX6_minds_94 rfl rfl ?_
        refine g_807 (v := .ref msh) 95 0 rfl rfl dX6_minds_95 ?_
        refine J_bipush (v := 40) 98 dX6_minds_98 rfl ?_
        refine J_iload_n 100 1 dX6_minds_100 rfl rfl ?_
        refine J_imul 101 dX6_minds_101 ?_
        refine J_topi (y := nI (40 * s)) 102 (pk_mul 40 s) ?_
        refine J_iload_n 102 2 dX6_minds_102 rfl rfl ?_
        refine J_iadd 103 dX6_minds_103 ?_
        refine J_topi (y := nI ((40 * s) + i)) 104 (nI_add (40 * s) i) ?_
        refine J_iload 104 dX6_minds_104 rfl ?_
        refine J_iadd 106 dX6_minds_106 ?_
        refine J_topi (y := nI (((40 * s) + i) + k)) 107 (nI_add ((40 * s) + i) k) ?_
        refine J_lald 107 4 (((40 * s) + i) + k) rfl rfl (by omega) (by decide) dX6_minds_107 ?_
        refine J_l2i 108 dX6_minds_108 ?_
        refine J_iconst (v := 0) 109 dX6_minds_109 rfl ?_
        refine J_bipush (v := 99) 110 dX6_minds_110 rfl ?_
        refine kb_RX6_221 (bs' := [wMo o rw fr kp tr ik tp tm mso bg en wd va gd rs mu rm ss msz msh mho mhn mhz kd nb tn tc bo ip, wMr G rw la ns sd to he sw nh ki te1 mi ar z, wI G ss 4 ssf, wI G msz 4 szf, wJ G msh 160 shf]) (rest := [.int 1, .int (nI (h + k)), .ref o]) (st' := [.int (heldI ((shf (((40 * s) + i) + k)).toInt32)), .int 1, .int (nI (h + k)), .ref o]) 112 (c_X6_held_99 l G ((shf (((40 * s) + i) + k)).toInt32) ) [] rfl rfl [] rfl rfl rfl rfl rfl rfl (Nat.le_of_ble_eq_true rfl) rfl dX6_minds_112 ?_
        refine kb_RX6_202 (bs' := [wMo o rw fr kp tr ik tp tm mso bg en wd va gd rs mu rm ss msz msh mho mhn mhz kd nb tn tc bo ip, wMr G rw la ns sd to he sw nh ki (upd te1 (h + k) (heldI ((shf (((40 * s) + i) + k)).toInt32))) mi ar z, wI G ss 4 ssf, wI G msz 4 szf, wJ G msh 160 shf]) (rest := []) (st' := []) 115 (c_X6_sets_1 l G (h + k) (heldI ((shf (((40 * s) + i) + k)).toInt32)) o rw fr kp tr ik tp tm mso bg en wd va gd rs mu rm ss msz msh mho mhn mhz kd nb tn tc bo ip la ns sd to he sw nh ki te1 mi ar z (by first | omega | assumption)) [0, 1] 0 rfl rfl rfl [[o], [rw]] rfl rfl rfl rfl rfl rfl (Nat.le_of_ble_eq_true rfl) rfl dX6_minds_115 ?_
        refine J_iinc (v := nI (k + 1)) (lv' := [some (.ref o), some (.int (nI s)), some (.int (nI i)), some (.int (nI h)), some (.int (nI n)), none, some (.int (nI (k + 1)))]) 118 dX6_minds_118 rfl (nI_add _ 1) (by decide) rfl ?_
        refine J_goto (tgt := 81) 121 dX6_minds_121 (by decide) ?_
        exact ih_81_ (k + 1) (upd te1 (h + k) (heldI ((shf (((40 * s) + i) + k)).toInt32))) (by omega) (by first | assumption | omega | rfl) (by first | rfl | (rw [hte]; rfl))
  refine J_iload_n 0 1 dX6_minds_0 rfl rfl ?_
  refine kb_RX6_262 (bs' := [wMo o rw fr kp tr ik tp tm mso bg en wd va gd rs mu rm ss msz msh mho mhn mhz kd nb tn tc bo ip, wMr G rw la ns sd to he sw nh ki te mi ar z, wI G ss 4 ssf, wI G msz 4 szf, wJ G msh 160 shf]) (rest := []) (st' := [.int 1]) 1 (c_X6_isShelf_t l G s (by first | omega | assumption)) [] rfl rfl [] rfl rfl rfl rfl rfl rfl (Nat.le_of_ble_eq_true rfl) rfl dX6_minds_1 ?_
  refine J_if_eq (tgt := 40) 4 dX6_minds_4 (by decide) (fun c_2_ => absurd c_2_ (by decide)) (fun _ => ?_)
  refine J_aload_n 7 0 dX6_minds_7 rfl rfl ?_
  refine J_iload_n 8 3 dX6_minds_8 rfl rfl ?_
  refine kb_RX6_206 (bs' := [wMo o rw fr kp tr ik tp tm mso bg en wd va gd rs mu rm ss msz msh mho mhn mhz kd nb tn tc bo ip, wMr G rw la ns sd to he sw nh ki te mi ar z, wI G ss 4 ssf, wI G msz 4 szf, wJ G msh 160 shf]) (rest := []) (st' := [.int 1]) 9 (c_X6_isOne_t l G h o rw fr kp tr ik tp tm mso bg en wd va gd rs mu rm ss msz msh mho mhn mhz kd nb tn tc bo ip la ns sd to he sw nh ki te mi ar z (by assumption) (by omega)) [0, 1] 0 rfl rfl rfl [[o], [rw]] rfl rfl rfl rfl rfl rfl (Nat.le_of_ble_eq_true rfl) rfl dX6_minds_9 ?_
  refine J_if_eq (tgt := 40) 12 dX6_minds_12 (by decide) (fun c_3_ => absurd c_3_ (by decide)) (fun _ => ?_)
  refine J_iload 15 dX6_minds_15 rfl ?_
  refine J_iconst (v := 0) 17 dX6_minds_17 rfl ?_
  refine J_bipush (v := 8) 18 dX6_minds_18 rfl ?_
  refine kb_RX6_57 (bs' := [wMo o rw fr kp tr ik tp tm mso bg en wd va gd rs mu rm ss msz msh mho mhn mhz kd nb tn tc bo ip, wMr G rw la ns sd to he sw nh ki te mi ar z, wI G ss 4 ssf, wI G msz 4 szf, wJ G msh 160 shf]) (rest := []) (st' := [.int 1]) 20 (c_X6_in_t l G (nI n) 0 8 (inL_t (j := n) (m := 8) hn (by decide))) [] rfl rfl [] rfl rfl rfl rfl rfl rfl (Nat.le_of_ble_eq_true rfl) rfl dX6_minds_20 ?_
  refine J_if_eq (tgt := 40) 23 dX6_minds_23 (by decide) (fun c_4_ => absurd c_4_ (by decide)) (fun _ => ?_)
  refine J_iload 26 dX6_minds_26 rfl ?_
  refine J_aload_n 28 0 dX6_minds_28 rfl rfl ?_
  refine g_789 (v := .ref rw) 29 0 rfl rfl dX6_minds_29 ?_
  refine J_bipush (v := 6) 32 dX6_minds_32 rfl ?_
  refine J_iald 34 1 6 rfl rfl (by omega) (by decide) dX6_minds_34 ?_
  refine J_topi (y := nI nh) 35 (fR_nh rfl) ?_
  refine J_iload_n 35 3 dX6_minds_35 rfl rfl ?_
  refine J_isub 36 dX6_minds_36 ?_
  refine J_topi (y := nI (nh - h)) 37 (pk_sub (by omega)) ?_
  refine J_icmp_le (tgt := 42) 37 dX6_minds_37 (by decide) (fun c_5_ => ?_) (fun c_5_ => ?_)
  · skip
    have c_5_ : n ≤ (nh - h) := (nI_leI (a := n) (b := (nh - h)) (by omega) (by omega)).mp c_5_
    refine J_aload_n 42 0 dX6_minds_42 rfl rfl ?_
    refine J_iload_n 43 1 dX6_minds_43 rfl rfl ?_
    refine J_iconst (v := 0) 44 dX6_minds_44 rfl ?_
    refine kb_RX6_284 (bs' := [wMo o rw fr kp tr ik tp tm mso bg en wd va gd rs mu rm ss msz msh mho mhn mhz kd nb tn tc bo ip, wMr G rw la ns sd to he sw nh ki te mi ar z, wI G ss 4 ssf, wI G msz 4 szf, wJ G msh 160 shf]) (rest := []) (st' := [.int 0]) 45 (c_X6_lacksSort_t l G s 0 o rw fr kp tr ik tp tm mso bg en wd va gd rs mu rm ss msz msh mho mhn mhz kd nb tn tc bo ip ssf (by first | omega | assumption) (by first | omega | assumption) (by first | omega | assumption)) [0, 2] 0 rfl rfl rfl [[o], [ss]] rfl rfl rfl rfl rfl rfl (Nat.le_of_ble_eq_true rfl) rfl dX6_minds_45 ?_
    refine J_istore (lv' := [some (.ref o), some (.int (nI s)), some (.int (nI i)), some (.int (nI h)), some (.int (nI n)), some (.int 0), none]) 48 dX6_minds_48 (by decide) rfl ?_
    refine J_iload 50 dX6_minds_50 rfl ?_
    refine J_if_eq (tgt := 58) 52 dX6_minds_52 (by decide) (fun _ => ?_) (fun c_6_ => absurd c_6_ (by decide))
    refine J_iload_n 58 2 dX6_minds_58 rfl rfl ?_
    refine J_if_lt (tgt := 75) 59 dX6_minds_59 (by decide) (fun c_7_ => ?_) (fun c_7_ => ?_)
    · skip
      have c_7_ : i < 0 := (nI_ltI (a := i) (b := 0) (by omega) (by omega)).mp c_7_
      omega
    · skip
      have c_7_ : ¬ i < 0 := fun z_ => c_7_ ((nI_ltI (a := i) (b := 0) (by omega) (by omega)).mpr z_)
      refine J_iload_n 62 2 dX6_minds_62 rfl rfl ?_
      refine J_aload_n 63 0 dX6_minds_63 rfl rfl ?_
      refine g_806 (v := .ref msz) 64 0 rfl rfl dX6_minds_64 ?_
      refine J_iload_n 67 1 dX6_minds_67 rfl rfl ?_
      refine J_iald 68 3 s rfl rfl (by omega) (by decide) dX6_minds_68 ?_
      refine J_topi (y := nI m) 69 hsz ?_
      refine J_iload 69 dX6_minds_69 rfl ?_
      refine J_isub 71 dX6_minds_71 ?_
      refine J_topi (y := nI (m - n)) 72 (pk_sub (by omega)) ?_
      refine J_icmp_le (tgt := 78) 72 dX6_minds_72 (by decide) (fun c_8_ => ?_) (fun c_8_ => ?_)
      · skip
        have c_8_ : i ≤ (m - n) := (nI_leI (a := i) (b := (m - n)) (by omega) (by omega)).mp c_8_
        refine J_iconst (v := 0) 78 dX6_minds_78 rfl ?_
        refine J_istore (lv' := [some (.ref o), some (.int (nI s)), some (.int (nI i)), some (.int (nI h)), some (.int (nI n)), some (.int 0), some (.int 0)]) 79 dX6_minds_79 (by decide) rfl ?_
        refine J_mask (lv' := [some (.ref o), some (.int (nI s)), some (.int (nI i)), some (.int (nI h)), some (.int (nI n)), none, some (.int 0)]) 81 [true, true, true, true, true, false, true] rfl ?_
        exact cut_81_ ((n - 0) + 1) 0 te (Nat.lt_succ_self _) (by first | assumption | omega | rfl) (by first | rfl | (rw [hte]; rfl))
      · skip
        have c_8_ : ¬ i ≤ (m - n) := fun z_ => c_8_ ((nI_leI (a := i) (b := (m - n)) (by omega) (by omega)).mpr z_)
        omega
  · skip
    have c_5_ : ¬ n ≤ (nh - h) := fun z_ => c_5_ ((nI_leI (a := n) (b := (nh - h)) (by omega) (by omega)).mpr z_)
    omega
set_option maxRecDepth 100000 in
set_option maxHeartbeats 4000000 in
theorem c_X6_sheet_bad (l : Launch) (G : Gd) (s : Int32) (v : Int32) (n : Int32) (o : Nat) (rw : Nat) (fr : Nat) (kp : Nat) (tr : Nat) (ik : Int32) (tp : Nat) (tm : Nat) (mso : Int32) (bg : Nat) (en : Nat) (wd : Int64) (va : Int32) (gd : Int32) (rs : Nat) (mu : Nat) (rm : Nat) (ss : Nat) (msz : Nat) (msh : Nat) (mho : Nat) (mhn : Nat) (mhz : Nat) (kd : Int32) (nb : Int32) (tn : Int32) (tc : Nat) (bo : Nat) (ip : Int32) (hw : ¬ ((0 ≤ s ∧ s ≤ 3) ∧ (-1 ≤ v ∧ v ≤ 3))) : Ct l G yX6_sheet cX6_sheet 5 (some (FieldType.int)) 2 [.ref o, .int s, .int v, .int n] (wF [wMo o rw fr kp tr ik tp tm mso bg en wd va gd rs mu rm ss msz msh mho mhn mhz kd nb tn tc bo ip]) (some (.int (-1))) (wF [wMo o rw fr kp tr ik tp tm mso bg en wd va gd rs mu rm ss msz msh mho mhn mhz kd nb tn tc bo ip]) := by
  refine Ct.of "GooseArmsModel" [some (.ref o), some (.int s), some (.int v), some (.int n), none] (by decide +kernel) rfl (Nat.le_of_ble_eq_true rfl) rfl ?_
  refine J_iload_n 0 1 dX6_sheet_0 rfl rfl ?_
  refine kb_RX6_262 (bs' := [wMo o rw fr kp tr ik tp tm mso bg en wd va gd rs mu rm ss msz msh mho mhn mhz kd nb tn tc bo ip]) (rest := []) (st' := [.int (bI (0 ≤ s ∧ s ≤ 3))]) 1 (c_X6_isShelf l G s ) [] rfl rfl [] rfl rfl rfl rfl rfl rfl (Nat.le_of_ble_eq_true rfl) rfl dX6_sheet_1 ?_
  refine J_ifB_eq (tgt := 26) 4 dX6_sheet_4 (by decide) (fun c_1_ => ?_) (fun c_1_ => ?_)
  · skip
    refine J_iconst (v := (-1)) 26 dX6_sheet_26 rfl ?_
    exact J_iret 27 dX6_sheet_27 rfl rfl
  · skip
    refine J_iload_n 7 2 dX6_sheet_7 rfl rfl ?_
    refine J_iconst (v := (-1)) 8 dX6_sheet_8 rfl ?_
    refine J_iconst (v := 3) 9 dX6_sheet_9 rfl ?_
    refine kb_RX6_57 (bs' := [wMo o rw fr kp tr ik tp tm mso bg en wd va gd rs mu rm ss msz msh mho mhn mhz kd nb tn tc bo ip]) (rest := []) (st' := [.int (bI ((-1) ≤ v ∧ v ≤ 3))]) 10 (c_X6_in l G v (-1) 3 ) [] rfl rfl [] rfl rfl rfl rfl rfl rfl (Nat.le_of_ble_eq_true rfl) rfl dX6_sheet_10 ?_
    refine J_ifB_eq (tgt := 26) 13 dX6_sheet_13 (by decide) (fun c_2_ => ?_) (fun c_2_ => ?_)
    · skip
      refine J_iconst (v := (-1)) 26 dX6_sheet_26 rfl ?_
      exact J_iret 27 dX6_sheet_27 rfl rfl
    · skip
      exact absurd ⟨by assumption, by assumption⟩ hw
set_option maxRecDepth 100000 in
set_option maxHeartbeats 4000000 in
theorem c_X6_sheet_miss (l : Launch) (G : Gd) (s : Nat) (n : Int32) (o : Nat) (rw : Nat) (fr : Nat) (kp : Nat) (tr : Nat) (ik : Int32) (tp : Nat) (tm : Nat) (mso : Int32) (bg : Nat) (en : Nat) (wd : Int64) (va : Int32) (gd : Int32) (rs : Nat) (mu : Nat) (rm : Nat) (ss : Nat) (msz : Nat) (msh : Nat) (mho : Nat) (mhn : Nat) (mhz : Nat) (kd : Int32) (nb : Int32) (tn : Int32) (tc : Nat) (bo : Nat) (ip : Int32) (ssf : Nat → Int32) (szf : Nat → Int32) (shf : Nat → Int64) (hs : s ≤ 3) : Ct l G yX6_sheet cX6_sheet 5 (some (FieldType.int)) 2 [.ref o, .int (nI s), .int (-1), .int n] (wF [wMo o rw fr kp tr ik tp tm mso bg en wd va gd rs mu rm ss msz msh mho mhn mhz kd nb tn tc bo ip, wI G ss 4 ssf, wI G msz 4 szf, wJ G msh 160 shf]) (some (.int 1)) (wF [wMo o rw fr kp tr ik tp tm mso bg en wd va gd rs mu rm ss msz msh mho mhn mhz kd nb tn tc bo ip, wI G ss 4 (upd ssf s (-1)), wI G msz 4 (upd szf s 0), wJ G msh 160 (fZs s 40 shf)]) := by
  refine Ct.of "GooseArmsModel" [some (.ref o), some (.int (nI s)), some (.int (-1)), some (.int n), none] (by decide +kernel) rfl (Nat.le_of_ble_eq_true rfl) rfl ?_
  have cut_64_ : ∀ (n_64_ : Nat) (k : Nat) (sh1 : Nat → Int64), (40 - k < n_64_) → (hk : k ≤ 40) → (hsh : sh1 = fZs s k shf) → J l G (bd G 2 (some (FieldType.int)) (some (.int 1)) (wF [wMo o rw fr kp tr ik tp tm mso bg en wd va gd rs mu rm ss msz msh mho mhn mhz kd nb tn tc bo ip, wI G ss 4 (upd ssf s (-1)), wI G msz 4 (upd szf s 0), wJ G msh 160 (fZs s 40 shf)])) cX6_sheet 5 "GooseArmsModel" 64 [some (.ref o), some (.int (nI s)), some (.int (-1)), some (.int n), some (.int (nI k))] [] (wF [wMo o rw fr kp tr ik tp tm mso bg en wd va gd rs mu rm ss msz msh mho mhn mhz kd nb tn tc bo ip, wI G ss 4 (upd ssf s (-1)), wI G msz 4 (upd szf s 0), wJ G msh 160 sh1]) := by
    intro n_64_
    induction n_64_ with
    | zero => intro k sh1 m_64_; exact absurd m_64_ (Nat.not_lt_zero _)
    | succ n_64_ ih_64_ =>
      intro k sh1 m_64_ hk hsh
      refine J_iload 64 dX6_sheet_64 rfl ?_
      refine J_bipush (v := 40) 66 dX6_sheet_66 rfl ?_
      refine J_icmp_ge (tgt := 90) 68 dX6_sheet_68 (by decide) (fun c_1_ => ?_) (fun c_1_ => ?_)
      · skip
        have c_1_ : 40 ≤ k := (nI_leI (a := 40) (b := k) (by omega) (by omega)).mp c_1_
        refine J_iconst (v := 1) 90 dX6_sheet_90 rfl ?_
        exact J_iret 91 dX6_sheet_91 rfl (cg1 (fun (x0_ : Nat → Int64) => (wF [wMo o rw fr kp tr ik tp tm mso bg en wd va gd rs mu rm ss msz msh mho mhn mhz kd nb tn tc bo ip, wI G ss 4 (upd ssf s (-1)), wI G msz 4 (upd szf s 0), wJ G msh 160 x0_])) sh1 (fZs s 40 shf) (by rw [hsh, show k = 40 by omega]))
      · skip
        have c_1_ : ¬ 40 ≤ k := fun z_ => c_1_ ((nI_leI (a := 40) (b := k) (by omega) (by omega)).mpr z_)
        refine J_aload_n 71 0 dX6_sheet_71 rfl rfl ?_
        refine g_807 (v := .ref msh) 72 0 rfl rfl dX6_sheet_72 ?_
        refine J_bipush (v := 40) 75 dX6_sheet_75 rfl ?_
        refine J_iload_n 77 1 dX6_sheet_77 rfl rfl ?_
        refine J_imul 78 dX6_sheet_78 ?_
        refine J_topi (y := nI (40 * s)) 79 (pk_mul 40 s) ?_
        refine J_iload 79 dX6_sheet_79 rfl ?_
        refine J_iadd 81 dX6_sheet_81 ?_
        refine J_topi (y := nI ((40 * s) + k)) 82 (nI_add (40 * s) k) ?_
        refine J_lconst (v := 0) 82 dX6_sheet_82 rfl ?_
        refine J_last (ws' := (wF [wMo o rw fr kp tr ik tp tm mso bg en wd va gd rs mu rm ss msz msh mho mhn mhz kd nb tn tc bo ip, wI G ss 4 (upd ssf s (-1)), wI G msz 4 (upd szf s 0), wJ G msh 160 (vp_updL sh1 ((40 * s) + k) 0)])) 83 3 ((40 * s) + k) rfl rfl (by omega) (by decide) rfl dX6_sheet_83 ?_
        refine J_iinc (v := nI (k + 1)) (lv' := [some (.ref o), some (.int (nI s)), some (.int (-1)), some (.int n), some (.int (nI (k + 1)))]) 84 dX6_sheet_84 rfl (nI_add _ 1) (by decide) rfl ?_
        refine J_goto (tgt := 64) 87 dX6_sheet_87 (by decide) ?_
        exact ih_64_ (k + 1) (vp_updL sh1 ((40 * s) + k) 0) (by omega) (by first | assumption | omega | rfl) (by first | exact fZs_0 | exact fZs_s hsh)
  refine J_iload_n 0 1 dX6_sheet_0 rfl rfl ?_
  refine kb_RX6_262 (bs' := [wMo o rw fr kp tr ik tp tm mso bg en wd va gd rs mu rm ss msz msh mho mhn mhz kd nb tn tc bo ip, wI G ss 4 ssf, wI G msz 4 szf, wJ G msh 160 shf]) (rest := []) (st' := [.int 1]) 1 (c_X6_isShelf_t l G s (by first | omega | assumption)) [] rfl rfl [] rfl rfl rfl rfl rfl rfl (Nat.le_of_ble_eq_true rfl) rfl dX6_sheet_1 ?_
  refine J_if_eq (tgt := 26) 4 dX6_sheet_4 (by decide) (fun c_2_ => absurd c_2_ (by decide)) (fun _ => ?_)
  refine J_iload_n 7 2 dX6_sheet_7 rfl rfl ?_
  refine J_iconst (v := (-1)) 8 dX6_sheet_8 rfl ?_
  refine J_iconst (v := 3) 9 dX6_sheet_9 rfl ?_
  refine kb_RX6_57 (bs' := [wMo o rw fr kp tr ik tp tm mso bg en wd va gd rs mu rm ss msz msh mho mhn mhz kd nb tn tc bo ip, wI G ss 4 ssf, wI G msz 4 szf, wJ G msh 160 shf]) (rest := []) (st' := [.int 1]) 10 (c_X6_in_t l G (-1) (-1) 3 (by decide)) [] rfl rfl [] rfl rfl rfl rfl rfl rfl (Nat.le_of_ble_eq_true rfl) rfl dX6_sheet_10 ?_
  refine J_if_eq (tgt := 26) 13 dX6_sheet_13 (by decide) (fun c_3_ => absurd c_3_ (by decide)) (fun _ => ?_)
  refine J_iload_n 16 2 dX6_sheet_16 rfl rfl ?_
  refine J_if_lt (tgt := 28) 17 dX6_sheet_17 (by decide) (fun _ => ?_) (fun c_4_ => absurd c_4_ (by decide))
  refine J_iload_n 28 2 dX6_sheet_28 rfl rfl ?_
  refine J_if_lt (tgt := 39) 29 dX6_sheet_29 (by decide) (fun _ => ?_) (fun c_5_ => absurd c_5_ (by decide))
  refine J_aload_n 39 0 dX6_sheet_39 rfl rfl ?_
  refine g_805 (v := .ref ss) 40 0 rfl rfl dX6_sheet_40 ?_
  refine J_iload_n 43 1 dX6_sheet_43 rfl rfl ?_
  refine J_iload_n 44 2 dX6_sheet_44 rfl rfl ?_
  refine J_iast (ws' := (wF [wMo o rw fr kp tr ik tp tm mso bg en wd va gd rs mu rm ss msz msh mho mhn mhz kd nb tn tc bo ip, wI G ss 4 (upd ssf s (-1)), wI G msz 4 szf, wJ G msh 160 shf])) 45 1 s rfl rfl (by omega) (by decide) rfl dX6_sheet_45 ?_
  refine J_aload_n 46 0 dX6_sheet_46 rfl rfl ?_
  refine g_806 (v := .ref msz) 47 0 rfl rfl dX6_sheet_47 ?_
  refine J_iload_n 50 1 dX6_sheet_50 rfl rfl ?_
  refine J_iload_n 51 2 dX6_sheet_51 rfl rfl ?_
  refine J_if_ge (tgt := 59) 52 dX6_sheet_52 (by decide) (fun c_6_ => absurd c_6_ (by decide)) (fun _ => ?_)
  refine J_iconst (v := 0) 55 dX6_sheet_55 rfl ?_
  refine J_goto (tgt := 60) 56 dX6_sheet_56 (by decide) ?_
  refine J_iast (ws' := (wF [wMo o rw fr kp tr ik tp tm mso bg en wd va gd rs mu rm ss msz msh mho mhn mhz kd nb tn tc bo ip, wI G ss 4 (upd ssf s (-1)), wI G msz 4 (upd szf s 0), wJ G msh 160 shf])) 60 2 s rfl rfl (by omega) (by decide) rfl dX6_sheet_60 ?_
  refine J_iconst (v := 0) 61 dX6_sheet_61 rfl ?_
  refine J_istore (lv' := [some (.ref o), some (.int (nI s)), some (.int (-1)), some (.int n), some (.int 0)]) 62 dX6_sheet_62 (by decide) rfl ?_
  exact cut_64_ ((40 - 0) + 1) 0 shf (Nat.lt_succ_self _) (by first | assumption | omega | rfl) (by first | exact fZs_0 | exact fZs_s hsh)
set_option maxRecDepth 100000 in
set_option maxHeartbeats 4000000 in
theorem c_X6_sheet_big (l : Launch) (G : Gd) (s : Nat) (v : Int32) (n : Int32) (o : Nat) (rw : Nat) (fr : Nat) (kp : Nat) (tr : Nat) (ik : Int32) (tp : Nat) (tm : Nat) (mso : Int32) (bg : Nat) (en : Nat) (wd : Int64) (va : Int32) (gd : Int32) (rs : Nat) (mu : Nat) (rm : Nat) (ss : Nat) (msz : Nat) (msh : Nat) (mho : Nat) (mhn : Nat) (mhz : Nat) (kd : Int32) (nb : Int32) (tn : Int32) (tc : Nat) (bo : Nat) (ip : Int32) (hs : s ≤ 3) (hv : 0 ≤ v ∧ v ≤ 3) (hn : ¬ n ≤ 40) : Ct l G yX6_sheet cX6_sheet 5 (some (FieldType.int)) 2 [.ref o, .int (nI s), .int v, .int n] (wF [wMo o rw fr kp tr ik tp tm mso bg en wd va gd rs mu rm ss msz msh mho mhn mhz kd nb tn tc bo ip]) (some (.int (-1))) (wF [wMo o rw fr kp tr ik tp tm mso bg en wd va gd rs mu rm ss msz msh mho mhn mhz kd nb tn tc bo ip]) := by
  refine Ct.of "GooseArmsModel" [some (.ref o), some (.int (nI s)), some (.int v), some (.int n), none] (by decide +kernel) rfl (Nat.le_of_ble_eq_true rfl) rfl ?_
  refine J_iload_n 0 1 dX6_sheet_0 rfl rfl ?_
  refine kb_RX6_262 (bs' := [wMo o rw fr kp tr ik tp tm mso bg en wd va gd rs mu rm ss msz msh mho mhn mhz kd nb tn tc bo ip]) (rest := []) (st' := [.int 1]) 1 (c_X6_isShelf_t l G s (by first | omega | assumption)) [] rfl rfl [] rfl rfl rfl rfl rfl rfl (Nat.le_of_ble_eq_true rfl) rfl dX6_sheet_1 ?_
  refine J_if_eq (tgt := 26) 4 dX6_sheet_4 (by decide) (fun c_1_ => absurd c_1_ (by decide)) (fun _ => ?_)
  refine J_iload_n 7 2 dX6_sheet_7 rfl rfl ?_
  refine J_iconst (v := (-1)) 8 dX6_sheet_8 rfl ?_
  refine J_iconst (v := 3) 9 dX6_sheet_9 rfl ?_
  refine kb_RX6_57 (bs' := [wMo o rw fr kp tr ik tp tm mso bg en wd va gd rs mu rm ss msz msh mho mhn mhz kd nb tn tc bo ip]) (rest := []) (st' := [.int 1]) 10 (c_X6_in_t l G v (-1) 3 ⟨Int32.le_trans (by decide) hv.1, hv.2⟩) [] rfl rfl [] rfl rfl rfl rfl rfl rfl (Nat.le_of_ble_eq_true rfl) rfl dX6_sheet_10 ?_
  refine J_if_eq (tgt := 26) 13 dX6_sheet_13 (by decide) (fun c_2_ => absurd c_2_ (by decide)) (fun _ => ?_)
  refine J_iload_n 16 2 dX6_sheet_16 rfl rfl ?_
  refine J_if_lt (tgt := 28) 17 dX6_sheet_17 (by decide) (fun c_3_ => ?_) (fun c_3_ => ?_)
  · skip
    exact absurd c_3_ (Int32.not_lt.mpr hv.1)
  · skip
    refine J_iload_n 20 3 dX6_sheet_20 rfl rfl ?_
    refine J_bipush (v := 40) 21 dX6_sheet_21 rfl ?_
    refine J_icmp_le (tgt := 28) 23 dX6_sheet_23 (by decide) (fun c_4_ => ?_) (fun c_4_ => ?_)
    · skip
      exact absurd c_4_ hn
    · skip
      refine J_iconst (v := (-1)) 26 dX6_sheet_26 rfl ?_
      exact J_iret 27 dX6_sheet_27 rfl rfl
set_option maxRecDepth 100000 in
set_option maxHeartbeats 4000000 in
theorem c_X6_sheet_neg (l : Launch) (G : Gd) (s : Nat) (v : Int32) (n : Int32) (o : Nat) (rw : Nat) (fr : Nat) (kp : Nat) (tr : Nat) (ik : Int32) (tp : Nat) (tm : Nat) (mso : Int32) (bg : Nat) (en : Nat) (wd : Int64) (va : Int32) (gd : Int32) (rs : Nat) (mu : Nat) (rm : Nat) (ss : Nat) (msz : Nat) (msh : Nat) (mho : Nat) (mhn : Nat) (mhz : Nat) (kd : Int32) (nb : Int32) (tn : Int32) (tc : Nat) (bo : Nat) (ip : Int32) (hs : s ≤ 3) (hv : 0 ≤ v ∧ v ≤ 3) (hn : n ≤ 40) (hn0 : n < 0) : Ct l G yX6_sheet cX6_sheet 5 (some (FieldType.int)) 2 [.ref o, .int (nI s), .int v, .int n] (wF [wMo o rw fr kp tr ik tp tm mso bg en wd va gd rs mu rm ss msz msh mho mhn mhz kd nb tn tc bo ip]) (some (.int (-14))) (wF [wMo o rw fr kp tr ik tp tm mso bg en wd va gd rs mu rm ss msz msh mho mhn mhz kd nb tn tc bo ip]) := by
  refine Ct.of "GooseArmsModel" [some (.ref o), some (.int (nI s)), some (.int v), some (.int n), none] (by decide +kernel) rfl (Nat.le_of_ble_eq_true rfl) rfl ?_
  refine J_iload_n 0 1 dX6_sheet_0 rfl rfl ?_
  refine kb_RX6_262 (bs' := [wMo o rw fr kp tr ik tp tm mso bg en wd va gd rs mu rm ss msz msh mho mhn mhz kd nb tn tc bo ip]) (rest := []) (st' := [.int 1]) 1 (c_X6_isShelf_t l G s (by first | omega | assumption)) [] rfl rfl [] rfl rfl rfl rfl rfl rfl (Nat.le_of_ble_eq_true rfl) rfl dX6_sheet_1 ?_
  refine J_if_eq (tgt := 26) 4 dX6_sheet_4 (by decide) (fun c_1_ => absurd c_1_ (by decide)) (fun _ => ?_)
  refine J_iload_n 7 2 dX6_sheet_7 rfl rfl ?_
  refine J_iconst (v := (-1)) 8 dX6_sheet_8 rfl ?_
  refine J_iconst (v := 3) 9 dX6_sheet_9 rfl ?_
  refine kb_RX6_57 (bs' := [wMo o rw fr kp tr ik tp tm mso bg en wd va gd rs mu rm ss msz msh mho mhn mhz kd nb tn tc bo ip]) (rest := []) (st' := [.int 1]) 10 (c_X6_in_t l G v (-1) 3 ⟨Int32.le_trans (by decide) hv.1, hv.2⟩) [] rfl rfl [] rfl rfl rfl rfl rfl rfl (Nat.le_of_ble_eq_true rfl) rfl dX6_sheet_10 ?_
  refine J_if_eq (tgt := 26) 13 dX6_sheet_13 (by decide) (fun c_2_ => absurd c_2_ (by decide)) (fun _ => ?_)
  refine J_iload_n 16 2 dX6_sheet_16 rfl rfl ?_
  refine J_if_lt (tgt := 28) 17 dX6_sheet_17 (by decide) (fun c_3_ => ?_) (fun c_3_ => ?_)
  · skip
    exact absurd c_3_ (Int32.not_lt.mpr hv.1)
  · skip
    refine J_iload_n 20 3 dX6_sheet_20 rfl rfl ?_
    refine J_bipush (v := 40) 21 dX6_sheet_21 rfl ?_
    refine J_icmp_le (tgt := 28) 23 dX6_sheet_23 (by decide) (fun c_4_ => ?_) (fun c_4_ => ?_)
    · skip
      refine J_iload_n 28 2 dX6_sheet_28 rfl rfl ?_
      refine J_if_lt (tgt := 39) 29 dX6_sheet_29 (by decide) (fun c_5_ => ?_) (fun c_5_ => ?_)
      · skip
        exact absurd c_5_ (Int32.not_lt.mpr hv.1)
      · skip
        refine J_iload_n 32 3 dX6_sheet_32 rfl rfl ?_
        refine J_if_ge (tgt := 39) 33 dX6_sheet_33 (by decide) (fun c_6_ => ?_) (fun c_6_ => ?_)
        · skip
          exact absurd hn0 (Int32.not_lt.mpr c_6_)
        · skip
          refine J_bipush (v := (-14)) 36 dX6_sheet_36 rfl ?_
          exact J_iret 38 dX6_sheet_38 rfl rfl
    · skip
      exact absurd hn c_4_
set_option maxRecDepth 100000 in
set_option maxHeartbeats 4000000 in
theorem c_X6_sheet_ok (l : Launch) (G : Gd) (s : Nat) (v : Int32) (n : Nat) (o : Nat) (rw : Nat) (fr : Nat) (kp : Nat) (tr : Nat) (ik : Int32) (tp : Nat) (tm : Nat) (mso : Int32) (bg : Nat) (en : Nat) (wd : Int64) (va : Int32) (gd : Int32) (rs : Nat) (mu : Nat) (rm : Nat) (ss : Nat) (msz : Nat) (msh : Nat) (mho : Nat) (mhn : Nat) (mhz : Nat) (kd : Int32) (nb : Int32) (tn : Int32) (tc : Nat) (bo : Nat) (ip : Int32) (ssf : Nat → Int32) (szf : Nat → Int32) (shf : Nat → Int64) (hs : s ≤ 3) (hv : 0 ≤ v ∧ v ≤ 3) (hn : n ≤ 40) : Ct l G yX6_sheet cX6_sheet 5 (some (FieldType.int)) 2 [.ref o, .int (nI s), .int v, .int (nI n)] (wF [wMo o rw fr kp tr ik tp tm mso bg en wd va gd rs mu rm ss msz msh mho mhn mhz kd nb tn tc bo ip, wI G ss 4 ssf, wI G msz 4 szf, wJ G msh 160 shf]) (some (.int 1)) (wF [wMo o rw fr kp tr ik tp tm mso bg en wd va gd rs mu rm ss msz msh mho mhn mhz kd nb tn tc bo ip, wI G ss 4 (upd ssf s v), wI G msz 4 (upd szf s (nI n)), wJ G msh 160 (fZs s 40 shf)]) := by
  refine Ct.of "GooseArmsModel" [some (.ref o), some (.int (nI s)), some (.int v), some (.int (nI n)), none] (by decide +kernel) rfl (Nat.le_of_ble_eq_true rfl) rfl ?_
  have cut_64_ : ∀ (n_64_ : Nat) (k : Nat) (sh1 : Nat → Int64), (40 - k < n_64_) → (hk : k ≤ 40) → (hsh : sh1 = fZs s k shf) → J l G (bd G 2 (some (FieldType.int)) (some (.int 1)) (wF [wMo o rw fr kp tr ik tp tm mso bg en wd va gd rs mu rm ss msz msh mho mhn mhz kd nb tn tc bo ip, wI G ss 4 (upd ssf s v), wI G msz 4 (upd szf s (nI n)), wJ G msh 160 (fZs s 40 shf)])) cX6_sheet 5 "GooseArmsModel" 64 [some (.ref o), some (.int (nI s)), some (.int v), some (.int (nI n)), some (.int (nI k))] [] (wF [wMo o rw fr kp tr ik tp tm mso bg en wd va gd rs mu rm ss msz msh mho mhn mhz kd nb tn tc bo ip, wI G ss 4 (upd ssf s v), wI G msz 4 (upd szf s (nI n)), wJ G msh 160 sh1]) := by
    intro n_64_
    induction n_64_ with
    | zero => intro k sh1 m_64_; exact absurd m_64_ (Nat.not_lt_zero _)
    | succ n_64_ ih_64_ =>
      intro k sh1 m_64_ hk hsh
      refine J_iload 64 dX6_sheet_64 rfl ?_
      refine J_bipush (v := 40) 66 dX6_sheet_66 rfl ?_
      refine J_icmp_ge (tgt := 90) 68 dX6_sheet_68 (by decide) (fun c_1_ => ?_) (fun c_1_ => ?_)
      · skip
        have c_1_ : 40 ≤ k := (nI_leI (a := 40) (b := k) (by omega) (by omega)).mp c_1_
        refine J_iconst (v := 1) 90 dX6_sheet_90 rfl ?_
        exact J_iret 91 dX6_sheet_91 rfl (cg1 (fun (x0_ : Nat → Int64) => (wF [wMo o rw fr kp tr ik tp tm mso bg en wd va gd rs mu rm ss msz msh mho mhn mhz kd nb tn tc bo ip, wI G ss 4 (upd ssf s v), wI G msz 4 (upd szf s (nI n)), wJ G msh 160 x0_])) sh1 (fZs s 40 shf) (by rw [hsh, show k = 40 by omega]))
      · skip
        have c_1_ : ¬ 40 ≤ k := fun z_ => c_1_ ((nI_leI (a := 40) (b := k) (by omega) (by omega)).mpr z_)
        refine J_aload_n 71 0 dX6_sheet_71 rfl rfl ?_
        refine g_807 (v := .ref msh) 72 0 rfl rfl dX6_sheet_72 ?_
        refine J_bipush (v := 40) 75 dX6_sheet_75 rfl ?_
        refine J_iload_n 77 1 dX6_sheet_77 rfl rfl ?_
        refine J_imul 78 dX6_sheet_78 ?_
        refine J_topi (y := nI (40 * s)) 79 (pk_mul 40 s) ?_
        refine J_iload 79 dX6_sheet_79 rfl ?_
        refine J_iadd 81 dX6_sheet_81 ?_
        refine J_topi (y := nI ((40 * s) + k)) 82 (nI_add (40 * s) k) ?_
        refine J_lconst (v := 0) 82 dX6_sheet_82 rfl ?_
        refine J_last (ws' := (wF [wMo o rw fr kp tr ik tp tm mso bg en wd va gd rs mu rm ss msz msh mho mhn mhz kd nb tn tc bo ip, wI G ss 4 (upd ssf s v), wI G msz 4 (upd szf s (nI n)), wJ G msh 160 (vp_updL sh1 ((40 * s) + k) 0)])) 83 3 ((40 * s) + k) rfl rfl (by omega) (by decide) rfl dX6_sheet_83 ?_
        refine J_iinc (v := nI (k + 1)) (lv' := [some (.ref o), some (.int (nI s)), some (.int v), some (.int (nI n)), some (.int (nI (k + 1)))]) 84 dX6_sheet_84 rfl (nI_add _ 1) (by decide) rfl ?_
        refine J_goto (tgt := 64) 87 dX6_sheet_87 (by decide) ?_
        exact ih_64_ (k + 1) (vp_updL sh1 ((40 * s) + k) 0) (by omega) (by first | assumption | omega | rfl) (by first | exact fZs_0 | exact fZs_s hsh)
  refine J_iload_n 0 1 dX6_sheet_0 rfl rfl ?_
  refine kb_RX6_262 (bs' := [wMo o rw fr kp tr ik tp tm mso bg en wd va gd rs mu rm ss msz msh mho mhn mhz kd nb tn tc bo ip, wI G ss 4 ssf, wI G msz 4 szf, wJ G msh 160 shf]) (rest := []) (st' := [.int 1]) 1 (c_X6_isShelf_t l G s (by first | omega | assumption)) [] rfl rfl [] rfl rfl rfl rfl rfl rfl (Nat.le_of_ble_eq_true rfl) rfl dX6_sheet_1 ?_
  refine J_if_eq (tgt := 26) 4 dX6_sheet_4 (by decide) (fun c_2_ => absurd c_2_ (by decide)) (fun _ => ?_)
  refine J_iload_n 7 2 dX6_sheet_7 rfl rfl ?_
  refine J_iconst (v := (-1)) 8 dX6_sheet_8 rfl ?_
  refine J_iconst (v := 3) 9 dX6_sheet_9 rfl ?_
  refine kb_RX6_57 (bs' := [wMo o rw fr kp tr ik tp tm mso bg en wd va gd rs mu rm ss msz msh mho mhn mhz kd nb tn tc bo ip, wI G ss 4 ssf, wI G msz 4 szf, wJ G msh 160 shf]) (rest := []) (st' := [.int 1]) 10 (c_X6_in_t l G v (-1) 3 ⟨Int32.le_trans (by decide) hv.1, hv.2⟩) [] rfl rfl [] rfl rfl rfl rfl rfl rfl (Nat.le_of_ble_eq_true rfl) rfl dX6_sheet_10 ?_
  refine J_if_eq (tgt := 26) 13 dX6_sheet_13 (by decide) (fun c_3_ => absurd c_3_ (by decide)) (fun _ => ?_)
  refine J_iload_n 16 2 dX6_sheet_16 rfl rfl ?_
  refine J_if_lt (tgt := 28) 17 dX6_sheet_17 (by decide) (fun c_4_ => ?_) (fun c_4_ => ?_)
  · skip
    exact absurd c_4_ (Int32.not_lt.mpr hv.1)
  · skip
    refine J_iload_n 20 3 dX6_sheet_20 rfl rfl ?_
    refine J_bipush (v := 40) 21 dX6_sheet_21 rfl ?_
    refine J_icmp_le (tgt := 28) 23 dX6_sheet_23 (by decide) (fun c_5_ => ?_) (fun c_5_ => ?_)
    · skip
      have c_5_ : n ≤ 40 := (nI_leI (a := n) (b := 40) (by omega) (by omega)).mp c_5_
      refine J_iload_n 28 2 dX6_sheet_28 rfl rfl ?_
      refine J_if_lt (tgt := 39) 29 dX6_sheet_29 (by decide) (fun c_6_ => ?_) (fun c_6_ => ?_)
      · skip
        exact absurd c_6_ (Int32.not_lt.mpr hv.1)
      · skip
        refine J_iload_n 32 3 dX6_sheet_32 rfl rfl ?_
        refine J_if_ge (tgt := 39) 33 dX6_sheet_33 (by decide) (fun c_7_ => ?_) (fun c_7_ => ?_)
        · skip
          have c_7_ : 0 ≤ n := (nI_leI (a := 0) (b := n) (by omega) (by omega)).mp c_7_
          refine J_aload_n 39 0 dX6_sheet_39 rfl rfl ?_
          refine g_805 (v := .ref ss) 40 0 rfl rfl dX6_sheet_40 ?_
          refine J_iload_n 43 1 dX6_sheet_43 rfl rfl ?_
          refine J_iload_n 44 2 dX6_sheet_44 rfl rfl ?_
          refine J_iast (ws' := (wF [wMo o rw fr kp tr ik tp tm mso bg en wd va gd rs mu rm ss msz msh mho mhn mhz kd nb tn tc bo ip, wI G ss 4 (upd ssf s v), wI G msz 4 szf, wJ G msh 160 shf])) 45 1 s rfl rfl (by omega) (by decide) rfl dX6_sheet_45 ?_
          refine J_aload_n 46 0 dX6_sheet_46 rfl rfl ?_
          refine g_806 (v := .ref msz) 47 0 rfl rfl dX6_sheet_47 ?_
          refine J_iload_n 50 1 dX6_sheet_50 rfl rfl ?_
          refine J_iload_n 51 2 dX6_sheet_51 rfl rfl ?_
          refine J_if_ge (tgt := 59) 52 dX6_sheet_52 (by decide) (fun c_8_ => ?_) (fun c_8_ => ?_)
          · skip
            refine J_iload_n 59 3 dX6_sheet_59 rfl rfl ?_
            refine J_iast (ws' := (wF [wMo o rw fr kp tr ik tp tm mso bg en wd va gd rs mu rm ss msz msh mho mhn mhz kd nb tn tc bo ip, wI G ss 4 (upd ssf s v), wI G msz 4 (upd szf s (nI n)), wJ G msh 160 shf])) 60 2 s rfl rfl (by omega) (by decide) rfl dX6_sheet_60 ?_
            refine J_iconst (v := 0) 61 dX6_sheet_61 rfl ?_
            refine J_istore (lv' := [some (.ref o), some (.int (nI s)), some (.int v), some (.int (nI n)), some (.int 0)]) 62 dX6_sheet_62 (by decide) rfl ?_
            exact cut_64_ ((40 - 0) + 1) 0 shf (Nat.lt_succ_self _) (by first | assumption | omega | rfl) (by first | exact fZs_0 | exact fZs_s hsh)
          · skip
            exact absurd hv.1 c_8_
        · skip
          have c_7_ : ¬ 0 ≤ n := fun z_ => c_7_ ((nI_leI (a := 0) (b := n) (by omega) (by omega)).mpr z_)
          omega
    · skip
      have c_5_ : ¬ n ≤ 40 := fun z_ => c_5_ ((nI_leI (a := n) (b := 40) (by omega) (by omega)).mpr z_)
      omega
set_option maxRecDepth 100000 in
set_option maxHeartbeats 4000000 in
theorem c_X6_put_bad (l : Launch) (G : Gd) (s : Int32) (i : Int32) (v : Int32) (o : Nat) (rw : Nat) (fr : Nat) (kp : Nat) (tr : Nat) (ik : Int32) (tp : Nat) (tm : Nat) (mso : Int32) (bg : Nat) (en : Nat) (wd : Int64) (va : Int32) (gd : Int32) (rs : Nat) (mu : Nat) (rm : Nat) (ss : Nat) (msz : Nat) (msh : Nat) (mho : Nat) (mhn : Nat) (mhz : Nat) (kd : Int32) (nb : Int32) (tn : Int32) (tc : Nat) (bo : Nat) (ip : Int32) (hw : ¬ (0 ≤ s ∧ s ≤ 3)) : Ct l G yX6_put cX6_put 4 (some (FieldType.int)) 2 [.ref o, .int s, .int i, .int v] (wF [wMo o rw fr kp tr ik tp tm mso bg en wd va gd rs mu rm ss msz msh mho mhn mhz kd nb tn tc bo ip]) (some (.int (-1))) (wF [wMo o rw fr kp tr ik tp tm mso bg en wd va gd rs mu rm ss msz msh mho mhn mhz kd nb tn tc bo ip]) := by
  refine Ct.of "GooseArmsModel" [some (.ref o), some (.int s), some (.int i), some (.int v)] (by decide +kernel) rfl (Nat.le_of_ble_eq_true rfl) rfl ?_
  refine J_iload_n 0 1 dX6_put_0 rfl rfl ?_
  refine kb_RX6_262 (bs' := [wMo o rw fr kp tr ik tp tm mso bg en wd va gd rs mu rm ss msz msh mho mhn mhz kd nb tn tc bo ip]) (rest := []) (st' := [.int 0]) 1 (c_X6_isShelf_f l G s (by first | omega | assumption)) [] rfl rfl [] rfl rfl rfl rfl rfl rfl (Nat.le_of_ble_eq_true rfl) rfl dX6_put_1 ?_
  refine J_if_ne (tgt := 9) 4 dX6_put_4 (by decide) (fun c_1_ => absurd c_1_ (by decide)) (fun _ => ?_)
  refine J_iconst (v := (-1)) 7 dX6_put_7 rfl ?_
  exact J_iret 8 dX6_put_8 rfl rfl
set_option maxRecDepth 100000 in
set_option maxHeartbeats 4000000 in
theorem c_X6_put_miss (l : Launch) (G : Gd) (s : Nat) (i : Int32) (v : Int32) (o : Nat) (rw : Nat) (fr : Nat) (kp : Nat) (tr : Nat) (ik : Int32) (tp : Nat) (tm : Nat) (mso : Int32) (bg : Nat) (en : Nat) (wd : Int64) (va : Int32) (gd : Int32) (rs : Nat) (mu : Nat) (rm : Nat) (ss : Nat) (msz : Nat) (msh : Nat) (mho : Nat) (mhn : Nat) (mhz : Nat) (kd : Int32) (nb : Int32) (tn : Int32) (tc : Nat) (bo : Nat) (ip : Int32) (ssf : Nat → Int32) (hs : s ≤ 3) (hso : ssf s < 0) : Ct l G yX6_put cX6_put 4 (some (FieldType.int)) 2 [.ref o, .int (nI s), .int i, .int v] (wF [wMo o rw fr kp tr ik tp tm mso bg en wd va gd rs mu rm ss msz msh mho mhn mhz kd nb tn tc bo ip, wI G ss 4 ssf]) (some (.int (-11))) (wF [wMo o rw fr kp tr ik tp tm mso bg en wd va gd rs mu rm ss msz msh mho mhn mhz kd nb tn tc bo ip, wI G ss 4 ssf]) := by
  refine Ct.of "GooseArmsModel" [some (.ref o), some (.int (nI s)), some (.int i), some (.int v)] (by decide +kernel) rfl (Nat.le_of_ble_eq_true rfl) rfl ?_
  refine J_iload_n 0 1 dX6_put_0 rfl rfl ?_
  refine kb_RX6_262 (bs' := [wMo o rw fr kp tr ik tp tm mso bg en wd va gd rs mu rm ss msz msh mho mhn mhz kd nb tn tc bo ip, wI G ss 4 ssf]) (rest := []) (st' := [.int 1]) 1 (c_X6_isShelf_t l G s (by first | omega | assumption)) [] rfl rfl [] rfl rfl rfl rfl rfl rfl (Nat.le_of_ble_eq_true rfl) rfl dX6_put_1 ?_
  refine J_if_ne (tgt := 9) 4 dX6_put_4 (by decide) (fun _ => ?_) (fun c_1_ => absurd c_1_ (by decide))
  refine J_aload_n 9 0 dX6_put_9 rfl rfl ?_
  refine g_805 (v := .ref ss) 10 0 rfl rfl dX6_put_10 ?_
  refine J_iload_n 13 1 dX6_put_13 rfl rfl ?_
  refine J_iald 14 1 s rfl rfl (by omega) (by decide) dX6_put_14 ?_
  refine J_if_ge (tgt := 21) 15 dX6_put_15 (by decide) (fun c_2_ => ?_) (fun c_2_ => ?_)
  · skip
    exact absurd hso (Int32.not_lt.mpr c_2_)
  · skip
    refine J_bipush (v := (-11)) 18 dX6_put_18 rfl ?_
    exact J_iret 20 dX6_put_20 rfl rfl
set_option maxRecDepth 100000 in
set_option maxHeartbeats 4000000 in
theorem c_X6_put_out (l : Launch) (G : Gd) (s : Nat) (i : Int32) (v : Int32) (m : Nat) (o : Nat) (rw : Nat) (fr : Nat) (kp : Nat) (tr : Nat) (ik : Int32) (tp : Nat) (tm : Nat) (mso : Int32) (bg : Nat) (en : Nat) (wd : Int64) (va : Int32) (gd : Int32) (rs : Nat) (mu : Nat) (rm : Nat) (ss : Nat) (msz : Nat) (msh : Nat) (mho : Nat) (mhn : Nat) (mhz : Nat) (kd : Int32) (nb : Int32) (tn : Int32) (tc : Nat) (bo : Nat) (ip : Int32) (ssf : Nat → Int32) (szf : Nat → Int32) (hs : s ≤ 3) (hso : ¬ ssf s < 0) (hm : m ≤ 40) (hsz : szf s = nI m) (hw : ¬ (0 ≤ i ∧ i ≤ nI m - 1)) : Ct l G yX6_put cX6_put 4 (some (FieldType.int)) 2 [.ref o, .int (nI s), .int i, .int v] (wF [wMo o rw fr kp tr ik tp tm mso bg en wd va gd rs mu rm ss msz msh mho mhn mhz kd nb tn tc bo ip, wI G ss 4 ssf, wI G msz 4 szf]) (some (.int (-12))) (wF [wMo o rw fr kp tr ik tp tm mso bg en wd va gd rs mu rm ss msz msh mho mhn mhz kd nb tn tc bo ip, wI G ss 4 ssf, wI G msz 4 szf]) := by
  refine Ct.of "GooseArmsModel" [some (.ref o), some (.int (nI s)), some (.int i), some (.int v)] (by decide +kernel) rfl (Nat.le_of_ble_eq_true rfl) rfl ?_
  refine J_iload_n 0 1 dX6_put_0 rfl rfl ?_
  refine kb_RX6_262 (bs' := [wMo o rw fr kp tr ik tp tm mso bg en wd va gd rs mu rm ss msz msh mho mhn mhz kd nb tn tc bo ip, wI G ss 4 ssf, wI G msz 4 szf]) (rest := []) (st' := [.int 1]) 1 (c_X6_isShelf_t l G s (by first | omega | assumption)) [] rfl rfl [] rfl rfl rfl rfl rfl rfl (Nat.le_of_ble_eq_true rfl) rfl dX6_put_1 ?_
  refine J_if_ne (tgt := 9) 4 dX6_put_4 (by decide) (fun _ => ?_) (fun c_1_ => absurd c_1_ (by decide))
  refine J_aload_n 9 0 dX6_put_9 rfl rfl ?_
  refine g_805 (v := .ref ss) 10 0 rfl rfl dX6_put_10 ?_
  refine J_iload_n 13 1 dX6_put_13 rfl rfl ?_
  refine J_iald 14 1 s rfl rfl (by omega) (by decide) dX6_put_14 ?_
  refine J_if_ge (tgt := 21) 15 dX6_put_15 (by decide) (fun c_2_ => ?_) (fun c_2_ => ?_)
  · skip
    refine J_iload_n 21 2 dX6_put_21 rfl rfl ?_
    refine J_iconst (v := 0) 22 dX6_put_22 rfl ?_
    refine J_aload_n 23 0 dX6_put_23 rfl rfl ?_
    refine g_806 (v := .ref msz) 24 0 rfl rfl dX6_put_24 ?_
    refine J_iload_n 27 1 dX6_put_27 rfl rfl ?_
    refine J_iald 28 2 s rfl rfl (by omega) (by decide) dX6_put_28 ?_
    refine J_topi (y := nI m) 29 hsz ?_
    refine J_iconst (v := 1) 29 dX6_put_29 rfl ?_
    refine J_isub 30 dX6_put_30 ?_
    refine kb_RX6_57 (bs' := [wMo o rw fr kp tr ik tp tm mso bg en wd va gd rs mu rm ss msz msh mho mhn mhz kd nb tn tc bo ip, wI G ss 4 ssf, wI G msz 4 szf]) (rest := []) (st' := [.int 0]) 31 (c_X6_in_f l G i 0 ((nI m) - 1) hw) [] rfl rfl [] rfl rfl rfl rfl rfl rfl (Nat.le_of_ble_eq_true rfl) rfl dX6_put_31 ?_
    refine J_if_ne (tgt := 40) 34 dX6_put_34 (by decide) (fun c_3_ => absurd c_3_ (by decide)) (fun _ => ?_)
    refine J_bipush (v := (-12)) 37 dX6_put_37 rfl ?_
    exact J_iret 39 dX6_put_39 rfl rfl
  · skip
    exact absurd (Int32.not_le.mp c_2_) hso
set_option maxRecDepth 100000 in
set_option maxHeartbeats 4000000 in
theorem c_X6_put_ok (l : Launch) (G : Gd) (s : Nat) (i : Nat) (v : Int32) (m : Nat) (o : Nat) (rw : Nat) (fr : Nat) (kp : Nat) (tr : Nat) (ik : Int32) (tp : Nat) (tm : Nat) (mso : Int32) (bg : Nat) (en : Nat) (wd : Int64) (va : Int32) (gd : Int32) (rs : Nat) (mu : Nat) (rm : Nat) (ss : Nat) (msz : Nat) (msh : Nat) (mho : Nat) (mhn : Nat) (mhz : Nat) (kd : Int32) (nb : Int32) (tn : Int32) (tc : Nat) (bo : Nat) (ip : Int32) (ssf : Nat → Int32) (szf : Nat → Int32) (shf : Nat → Int64) (hs : s ≤ 3) (hso : ¬ ssf s < 0) (hm : m ≤ 40) (hsz : szf s = nI m) (hi : i < m) : Ct l G yX6_put cX6_put 4 (some (FieldType.int)) 2 [.ref o, .int (nI s), .int (nI i), .int v] (wF [wMo o rw fr kp tr ik tp tm mso bg en wd va gd rs mu rm ss msz msh mho mhn mhz kd nb tn tc bo ip, wI G ss 4 ssf, wI G msz 4 szf, wJ G msh 160 shf]) (some (.int 1)) (wF [wMo o rw fr kp tr ik tp tm mso bg en wd va gd rs mu rm ss msz msh mho mhn mhz kd nb tn tc bo ip, wI G ss 4 ssf, wI G msz 4 szf, wJ G msh 160 (vp_updL shf (40 * s + i) (fNar (ssf s) v))]) := by
  refine Ct.of "GooseArmsModel" [some (.ref o), some (.int (nI s)), some (.int (nI i)), some (.int v)] (by decide +kernel) rfl (Nat.le_of_ble_eq_true rfl) rfl ?_
  refine J_iload_n 0 1 dX6_put_0 rfl rfl ?_
  refine kb_RX6_262 (bs' := [wMo o rw fr kp tr ik tp tm mso bg en wd va gd rs mu rm ss msz msh mho mhn mhz kd nb tn tc bo ip, wI G ss 4 ssf, wI G msz 4 szf, wJ G msh 160 shf]) (rest := []) (st' := [.int 1]) 1 (c_X6_isShelf_t l G s (by first | omega | assumption)) [] rfl rfl [] rfl rfl rfl rfl rfl rfl (Nat.le_of_ble_eq_true rfl) rfl dX6_put_1 ?_
  refine J_if_ne (tgt := 9) 4 dX6_put_4 (by decide) (fun _ => ?_) (fun c_1_ => absurd c_1_ (by decide))
  refine J_aload_n 9 0 dX6_put_9 rfl rfl ?_
  refine g_805 (v := .ref ss) 10 0 rfl rfl dX6_put_10 ?_
  refine J_iload_n 13 1 dX6_put_13 rfl rfl ?_
  refine J_iald 14 1 s rfl rfl (by omega) (by decide) dX6_put_14 ?_
  refine J_if_ge (tgt := 21) 15 dX6_put_15 (by decide) (fun c_2_ => ?_) (fun c_2_ => ?_)
  · skip
    refine J_iload_n 21 2 dX6_put_21 rfl rfl ?_
    refine J_iconst (v := 0) 22 dX6_put_22 rfl ?_
    refine J_aload_n 23 0 dX6_put_23 rfl rfl ?_
    refine g_806 (v := .ref msz) 24 0 rfl rfl dX6_put_24 ?_
    refine J_iload_n 27 1 dX6_put_27 rfl rfl ?_
    refine J_iald 28 2 s rfl rfl (by omega) (by decide) dX6_put_28 ?_
    refine J_topi (y := nI m) 29 hsz ?_
    refine J_iconst (v := 1) 29 dX6_put_29 rfl ?_
    refine J_isub 30 dX6_put_30 ?_
    refine kb_RX6_57 (bs' := [wMo o rw fr kp tr ik tp tm mso bg en wd va gd rs mu rm ss msz msh mho mhn mhz kd nb tn tc bo ip, wI G ss 4 ssf, wI G msz 4 szf, wJ G msh 160 shf]) (rest := []) (st' := [.int 1]) 31 (c_X6_in_t l G (nI i) 0 ((nI m) - 1) (inR_t hi (by omega))) [] rfl rfl [] rfl rfl rfl rfl rfl rfl (Nat.le_of_ble_eq_true rfl) rfl dX6_put_31 ?_
    refine J_if_ne (tgt := 40) 34 dX6_put_34 (by decide) (fun _ => ?_) (fun c_3_ => absurd c_3_ (by decide))
    refine J_aload_n 40 0 dX6_put_40 rfl rfl ?_
    refine g_807 (v := .ref msh) 41 0 rfl rfl dX6_put_41 ?_
    refine J_bipush (v := 40) 44 dX6_put_44 rfl ?_
    refine J_iload_n 46 1 dX6_put_46 rfl rfl ?_
    refine J_imul 47 dX6_put_47 ?_
    refine J_topi (y := nI (40 * s)) 48 (pk_mul 40 s) ?_
    refine J_iload_n 48 2 dX6_put_48 rfl rfl ?_
    refine J_iadd 49 dX6_put_49 ?_
    refine J_topi (y := nI ((40 * s) + i)) 50 (nI_add (40 * s) i) ?_
    refine J_aload_n 50 0 dX6_put_50 rfl rfl ?_
    refine g_805 (v := .ref ss) 51 0 rfl rfl dX6_put_51 ?_
    refine J_iload_n 54 1 dX6_put_54 rfl rfl ?_
    refine J_iald 55 1 s rfl rfl (by omega) (by decide) dX6_put_55 ?_
    refine J_if_ne (tgt := 65) 56 dX6_put_56 (by decide) (fun c_4_ => ?_) (fun c_4_ => ?_)
    · skip
      refine J_aload_n 65 0 dX6_put_65 rfl rfl ?_
      refine g_805 (v := .ref ss) 66 0 rfl rfl dX6_put_66 ?_
      refine J_iload_n 69 1 dX6_put_69 rfl rfl ?_
      refine J_iald 70 1 s rfl rfl (by omega) (by decide) dX6_put_70 ?_
      refine J_iconst (v := 1) 71 dX6_put_71 rfl ?_
      refine J_icmp_ne (tgt := 81) 72 dX6_put_72 (by decide) (fun c_5_ => ?_) (fun c_5_ => ?_)
      · skip
        refine J_iload_n 81 3 dX6_put_81 rfl rfl ?_
        refine J_i2l 82 dX6_put_82 ?_
        refine J_last (ws' := (wF [wMo o rw fr kp tr ik tp tm mso bg en wd va gd rs mu rm ss msz msh mho mhn mhz kd nb tn tc bo ip, wI G ss 4 ssf, wI G msz 4 szf, wJ G msh 160 (vp_updL shf ((40 * s) + i) v.toInt64)])) 83 3 ((40 * s) + i) rfl rfl (by omega) (by decide) rfl dX6_put_83 ?_
        refine J_iconst (v := 1) 84 dX6_put_84 rfl ?_
        exact J_iret 85 dX6_put_85 rfl (cg1 (fun (x0_ : Nat → Int64) => (wF [wMo o rw fr kp tr ik tp tm mso bg en wd va gd rs mu rm ss msz msh mho mhn mhz kd nb tn tc bo ip, wI G ss 4 ssf, wI G msz 4 szf, wJ G msh 160 x0_])) (vp_updL shf ((40 * s) + i) v.toInt64) (vp_updL shf (40 * s + i) (fNar (ssf s) v)) (by first | (unfold fNar; simp [*]; done) | grind [fNar]))
      · skip
        refine J_iload_n 75 3 dX6_put_75 rfl rfl ?_
        refine J_i2s 76 dX6_put_76 ?_
        refine J_i2l 77 dX6_put_77 ?_
        refine J_goto (tgt := 83) 78 dX6_put_78 (by decide) ?_
        refine J_last (ws' := (wF [wMo o rw fr kp tr ik tp tm mso bg en wd va gd rs mu rm ss msz msh mho mhn mhz kd nb tn tc bo ip, wI G ss 4 ssf, wI G msz 4 szf, wJ G msh 160 (vp_updL shf ((40 * s) + i) v.toInt16.toInt32.toInt64)])) 83 3 ((40 * s) + i) rfl rfl (by omega) (by decide) rfl dX6_put_83 ?_
        refine J_iconst (v := 1) 84 dX6_put_84 rfl ?_
        exact J_iret 85 dX6_put_85 rfl (cg1 (fun (x0_ : Nat → Int64) => (wF [wMo o rw fr kp tr ik tp tm mso bg en wd va gd rs mu rm ss msz msh mho mhn mhz kd nb tn tc bo ip, wI G ss 4 ssf, wI G msz 4 szf, wJ G msh 160 x0_])) (vp_updL shf ((40 * s) + i) v.toInt16.toInt32.toInt64) (vp_updL shf (40 * s + i) (fNar (ssf s) v)) (by first | (unfold fNar; simp [*]; done) | grind [fNar]))
    · skip
      refine J_iload_n 59 3 dX6_put_59 rfl rfl ?_
      refine J_i2b 60 dX6_put_60 ?_
      refine J_i2l 61 dX6_put_61 ?_
      refine J_goto (tgt := 83) 62 dX6_put_62 (by decide) ?_
      refine J_last (ws' := (wF [wMo o rw fr kp tr ik tp tm mso bg en wd va gd rs mu rm ss msz msh mho mhn mhz kd nb tn tc bo ip, wI G ss 4 ssf, wI G msz 4 szf, wJ G msh 160 (vp_updL shf ((40 * s) + i) v.toInt8.toInt32.toInt64)])) 83 3 ((40 * s) + i) rfl rfl (by omega) (by decide) rfl dX6_put_83 ?_
      refine J_iconst (v := 1) 84 dX6_put_84 rfl ?_
      exact J_iret 85 dX6_put_85 rfl (cg1 (fun (x0_ : Nat → Int64) => (wF [wMo o rw fr kp tr ik tp tm mso bg en wd va gd rs mu rm ss msz msh mho mhn mhz kd nb tn tc bo ip, wI G ss 4 ssf, wI G msz 4 szf, wJ G msh 160 x0_])) (vp_updL shf ((40 * s) + i) v.toInt8.toInt32.toInt64) (vp_updL shf (40 * s + i) (fNar (ssf s) v)) (by first | (unfold fNar; simp [*]; done) | grind [fNar]))
  · skip
    exact absurd (Int32.not_le.mp c_2_) hso
set_option maxRecDepth 100000 in
set_option maxHeartbeats 4000000 in
theorem c_X6_item_bad (l : Launch) (G : Gd) (s : Int32) (v : Int32) (i : Int32) (o : Nat) (rw : Nat) (fr : Nat) (kp : Nat) (tr : Nat) (ik : Int32) (tp : Nat) (tm : Nat) (mso : Int32) (bg : Nat) (en : Nat) (wd : Int64) (va : Int32) (gd : Int32) (rs : Nat) (mu : Nat) (rm : Nat) (ss : Nat) (msz : Nat) (msh : Nat) (mho : Nat) (mhn : Nat) (mhz : Nat) (kd : Int32) (nb : Int32) (tn : Int32) (tc : Nat) (bo : Nat) (ip : Int32) (hw : ¬ ((0 ≤ s ∧ s ≤ 3) ∧ (0 ≤ v ∧ v ≤ 3))) : Ct l G yX6_item cX6_item 5 (some (FieldType.int)) 2 [.ref o, .int s, .int v, .int i] (wF [wMo o rw fr kp tr ik tp tm mso bg en wd va gd rs mu rm ss msz msh mho mhn mhz kd nb tn tc bo ip]) (some (.int (-1))) (wF [wMo o rw fr kp tr ik tp tm mso bg en wd va gd rs mu rm ss msz msh mho mhn mhz kd nb tn tc bo ip]) := by
  refine Ct.of "GooseArmsModel" [some (.ref o), some (.int s), some (.int v), some (.int i), none] (by decide +kernel) rfl (Nat.le_of_ble_eq_true rfl) rfl ?_
  refine J_iload_n 0 1 dX6_item_0 rfl rfl ?_
  refine kb_RX6_262 (bs' := [wMo o rw fr kp tr ik tp tm mso bg en wd va gd rs mu rm ss msz msh mho mhn mhz kd nb tn tc bo ip]) (rest := []) (st' := [.int (bI (0 ≤ s ∧ s ≤ 3))]) 1 (c_X6_isShelf l G s ) [] rfl rfl [] rfl rfl rfl rfl rfl rfl (Nat.le_of_ble_eq_true rfl) rfl dX6_item_1 ?_
  refine J_ifB_eq (tgt := 16) 4 dX6_item_4 (by decide) (fun c_1_ => ?_) (fun c_1_ => ?_)
  · skip
    refine J_iconst (v := (-1)) 16 dX6_item_16 rfl ?_
    exact J_iret 17 dX6_item_17 rfl rfl
  · skip
    refine J_iload_n 7 2 dX6_item_7 rfl rfl ?_
    refine J_iconst (v := 0) 8 dX6_item_8 rfl ?_
    refine J_iconst (v := 3) 9 dX6_item_9 rfl ?_
    refine kb_RX6_57 (bs' := [wMo o rw fr kp tr ik tp tm mso bg en wd va gd rs mu rm ss msz msh mho mhn mhz kd nb tn tc bo ip]) (rest := []) (st' := [.int (bI (0 ≤ v ∧ v ≤ 3))]) 10 (c_X6_in l G v 0 3 ) [] rfl rfl [] rfl rfl rfl rfl rfl rfl (Nat.le_of_ble_eq_true rfl) rfl dX6_item_10 ?_
    refine J_ifB_ne (tgt := 18) 13 dX6_item_13 (by decide) (fun c_2_ => ?_) (fun c_2_ => ?_)
    · skip
      exact absurd ⟨by assumption, by assumption⟩ hw
    · skip
      refine J_iconst (v := (-1)) 16 dX6_item_16 rfl ?_
      exact J_iret 17 dX6_item_17 rfl rfl
set_option maxRecDepth 100000 in
set_option maxHeartbeats 4000000 in
theorem c_X6_item_miss (l : Launch) (G : Gd) (s : Nat) (v : Int32) (i : Int32) (o : Nat) (rw : Nat) (fr : Nat) (kp : Nat) (tr : Nat) (ik : Int32) (tp : Nat) (tm : Nat) (mso : Int32) (bg : Nat) (en : Nat) (wd : Int64) (va : Int32) (gd : Int32) (rs : Nat) (mu : Nat) (rm : Nat) (ss : Nat) (msz : Nat) (msh : Nat) (mho : Nat) (mhn : Nat) (mhz : Nat) (kd : Int32) (nb : Int32) (tn : Int32) (tc : Nat) (bo : Nat) (ip : Int32) (ssf : Nat → Int32) (hs : s ≤ 3) (hv : 0 ≤ v ∧ v ≤ 3) (hso : ssf s < 0) : Ct l G yX6_item cX6_item 5 (some (FieldType.int)) 2 [.ref o, .int (nI s), .int v, .int i] (wF [wMo o rw fr kp tr ik tp tm mso bg en wd va gd rs mu rm ss msz msh mho mhn mhz kd nb tn tc bo ip, wI G ss 4 ssf]) (some (.int (-11))) (wF [wMo o rw fr kp tr ik tp tm mso bg en wd va gd rs mu rm ss msz msh mho mhn mhz kd nb tn tc bo ip, wI G ss 4 ssf]) := by
  refine Ct.of "GooseArmsModel" [some (.ref o), some (.int (nI s)), some (.int v), some (.int i), none] (by decide +kernel) rfl (Nat.le_of_ble_eq_true rfl) rfl ?_
  refine J_iload_n 0 1 dX6_item_0 rfl rfl ?_
  refine kb_RX6_262 (bs' := [wMo o rw fr kp tr ik tp tm mso bg en wd va gd rs mu rm ss msz msh mho mhn mhz kd nb tn tc bo ip, wI G ss 4 ssf]) (rest := []) (st' := [.int 1]) 1 (c_X6_isShelf_t l G s (by first | omega | assumption)) [] rfl rfl [] rfl rfl rfl rfl rfl rfl (Nat.le_of_ble_eq_true rfl) rfl dX6_item_1 ?_
  refine J_if_eq (tgt := 16) 4 dX6_item_4 (by decide) (fun c_1_ => absurd c_1_ (by decide)) (fun _ => ?_)
  refine J_iload_n 7 2 dX6_item_7 rfl rfl ?_
  refine J_iconst (v := 0) 8 dX6_item_8 rfl ?_
  refine J_iconst (v := 3) 9 dX6_item_9 rfl ?_
  refine kb_RX6_57 (bs' := [wMo o rw fr kp tr ik tp tm mso bg en wd va gd rs mu rm ss msz msh mho mhn mhz kd nb tn tc bo ip, wI G ss 4 ssf]) (rest := []) (st' := [.int 1]) 10 (c_X6_in_t l G v 0 3 hv) [] rfl rfl [] rfl rfl rfl rfl rfl rfl (Nat.le_of_ble_eq_true rfl) rfl dX6_item_10 ?_
  refine J_if_ne (tgt := 18) 13 dX6_item_13 (by decide) (fun _ => ?_) (fun c_2_ => absurd c_2_ (by decide))
  refine J_aload_n 18 0 dX6_item_18 rfl rfl ?_
  refine J_iload_n 19 1 dX6_item_19 rfl rfl ?_
  refine J_iload_n 20 2 dX6_item_20 rfl rfl ?_
  refine kb_RX6_284 (bs' := [wMo o rw fr kp tr ik tp tm mso bg en wd va gd rs mu rm ss msz msh mho mhn mhz kd nb tn tc bo ip, wI G ss 4 ssf]) (rest := []) (st' := [.int (-11)]) 21 (c_X6_lacksSort_m l G s v o rw fr kp tr ik tp tm mso bg en wd va gd rs mu rm ss msz msh mho mhn mhz kd nb tn tc bo ip ssf (by first | omega | assumption) (by first | omega | assumption)) [0, 1] 0 rfl rfl rfl [[o], [ss]] rfl rfl rfl rfl rfl rfl (Nat.le_of_ble_eq_true rfl) rfl dX6_item_21 ?_
  refine J_istore (lv' := [some (.ref o), some (.int (nI s)), some (.int v), some (.int i), some (.int (-11))]) 24 dX6_item_24 (by decide) rfl ?_
  refine J_iload 26 dX6_item_26 rfl ?_
  refine J_if_eq (tgt := 34) 28 dX6_item_28 (by decide) (fun c_3_ => absurd c_3_ (by decide)) (fun _ => ?_)
  refine J_iload 31 dX6_item_31 rfl ?_
  exact J_iret 33 dX6_item_33 rfl rfl
set_option maxRecDepth 100000 in
set_option maxHeartbeats 4000000 in
theorem c_X6_item_sort (l : Launch) (G : Gd) (s : Nat) (v : Int32) (i : Int32) (o : Nat) (rw : Nat) (fr : Nat) (kp : Nat) (tr : Nat) (ik : Int32) (tp : Nat) (tm : Nat) (mso : Int32) (bg : Nat) (en : Nat) (wd : Int64) (va : Int32) (gd : Int32) (rs : Nat) (mu : Nat) (rm : Nat) (ss : Nat) (msz : Nat) (msh : Nat) (mho : Nat) (mhn : Nat) (mhz : Nat) (kd : Int32) (nb : Int32) (tn : Int32) (tc : Nat) (bo : Nat) (ip : Int32) (ssf : Nat → Int32) (hs : s ≤ 3) (hv : 0 ≤ v ∧ v ≤ 3) (hso : ¬ ssf s < 0) (hsv : ¬ ssf s = v) : Ct l G yX6_item cX6_item 5 (some (FieldType.int)) 2 [.ref o, .int (nI s), .int v, .int i] (wF [wMo o rw fr kp tr ik tp tm mso bg en wd va gd rs mu rm ss msz msh mho mhn mhz kd nb tn tc bo ip, wI G ss 4 ssf]) (some (.int (-13))) (wF [wMo o rw fr kp tr ik tp tm mso bg en wd va gd rs mu rm ss msz msh mho mhn mhz kd nb tn tc bo ip, wI G ss 4 ssf]) := by
  refine Ct.of "GooseArmsModel" [some (.ref o), some (.int (nI s)), some (.int v), some (.int i), none] (by decide +kernel) rfl (Nat.le_of_ble_eq_true rfl) rfl ?_
  refine J_iload_n 0 1 dX6_item_0 rfl rfl ?_
  refine kb_RX6_262 (bs' := [wMo o rw fr kp tr ik tp tm mso bg en wd va gd rs mu rm ss msz msh mho mhn mhz kd nb tn tc bo ip, wI G ss 4 ssf]) (rest := []) (st' := [.int 1]) 1 (c_X6_isShelf_t l G s (by first | omega | assumption)) [] rfl rfl [] rfl rfl rfl rfl rfl rfl (Nat.le_of_ble_eq_true rfl) rfl dX6_item_1 ?_
  refine J_if_eq (tgt := 16) 4 dX6_item_4 (by decide) (fun c_1_ => absurd c_1_ (by decide)) (fun _ => ?_)
  refine J_iload_n 7 2 dX6_item_7 rfl rfl ?_
  refine J_iconst (v := 0) 8 dX6_item_8 rfl ?_
  refine J_iconst (v := 3) 9 dX6_item_9 rfl ?_
  refine kb_RX6_57 (bs' := [wMo o rw fr kp tr ik tp tm mso bg en wd va gd rs mu rm ss msz msh mho mhn mhz kd nb tn tc bo ip, wI G ss 4 ssf]) (rest := []) (st' := [.int 1]) 10 (c_X6_in_t l G v 0 3 hv) [] rfl rfl [] rfl rfl rfl rfl rfl rfl (Nat.le_of_ble_eq_true rfl) rfl dX6_item_10 ?_
  refine J_if_ne (tgt := 18) 13 dX6_item_13 (by decide) (fun _ => ?_) (fun c_2_ => absurd c_2_ (by decide))
  refine J_aload_n 18 0 dX6_item_18 rfl rfl ?_
  refine J_iload_n 19 1 dX6_item_19 rfl rfl ?_
  refine J_iload_n 20 2 dX6_item_20 rfl rfl ?_
  refine kb_RX6_284 (bs' := [wMo o rw fr kp tr ik tp tm mso bg en wd va gd rs mu rm ss msz msh mho mhn mhz kd nb tn tc bo ip, wI G ss 4 ssf]) (rest := []) (st' := [.int (-13)]) 21 (c_X6_lacksSort_s l G s v o rw fr kp tr ik tp tm mso bg en wd va gd rs mu rm ss msz msh mho mhn mhz kd nb tn tc bo ip ssf (by first | omega | assumption) (by first | omega | assumption) (by first | omega | assumption)) [0, 1] 0 rfl rfl rfl [[o], [ss]] rfl rfl rfl rfl rfl rfl (Nat.le_of_ble_eq_true rfl) rfl dX6_item_21 ?_
  refine J_istore (lv' := [some (.ref o), some (.int (nI s)), some (.int v), some (.int i), some (.int (-13))]) 24 dX6_item_24 (by decide) rfl ?_
  refine J_iload 26 dX6_item_26 rfl ?_
  refine J_if_eq (tgt := 34) 28 dX6_item_28 (by decide) (fun c_3_ => absurd c_3_ (by decide)) (fun _ => ?_)
  refine J_iload 31 dX6_item_31 rfl ?_
  exact J_iret 33 dX6_item_33 rfl rfl
set_option maxRecDepth 100000 in
set_option maxHeartbeats 4000000 in
theorem c_X6_item_out (l : Launch) (G : Gd) (s : Nat) (v : Int32) (i : Int32) (m : Nat) (o : Nat) (rw : Nat) (fr : Nat) (kp : Nat) (tr : Nat) (ik : Int32) (tp : Nat) (tm : Nat) (mso : Int32) (bg : Nat) (en : Nat) (wd : Int64) (va : Int32) (gd : Int32) (rs : Nat) (mu : Nat) (rm : Nat) (ss : Nat) (msz : Nat) (msh : Nat) (mho : Nat) (mhn : Nat) (mhz : Nat) (kd : Int32) (nb : Int32) (tn : Int32) (tc : Nat) (bo : Nat) (ip : Int32) (ssf : Nat → Int32) (szf : Nat → Int32) (hs : s ≤ 3) (hv : 0 ≤ v ∧ v ≤ 3) (hso : ¬ ssf s < 0) (hsv : ssf s = v) (hm : m ≤ 40) (hsz : szf s = nI m) (hw : ¬ (0 ≤ i ∧ i ≤ nI m - 1)) : Ct l G yX6_item cX6_item 5 (some (FieldType.int)) 2 [.ref o, .int (nI s), .int v, .int i] (wF [wMo o rw fr kp tr ik tp tm mso bg en wd va gd rs mu rm ss msz msh mho mhn mhz kd nb tn tc bo ip, wI G ss 4 ssf, wI G msz 4 szf]) (some (.int (-12))) (wF [wMo o rw fr kp tr ik tp tm mso bg en wd va gd rs mu rm ss msz msh mho mhn mhz kd nb tn tc bo ip, wI G ss 4 ssf, wI G msz 4 szf]) := by
  refine Ct.of "GooseArmsModel" [some (.ref o), some (.int (nI s)), some (.int v), some (.int i), none] (by decide +kernel) rfl (Nat.le_of_ble_eq_true rfl) rfl ?_
  refine J_iload_n 0 1 dX6_item_0 rfl rfl ?_
  refine kb_RX6_262 (bs' := [wMo o rw fr kp tr ik tp tm mso bg en wd va gd rs mu rm ss msz msh mho mhn mhz kd nb tn tc bo ip, wI G ss 4 ssf, wI G msz 4 szf]) (rest := []) (st' := [.int 1]) 1 (c_X6_isShelf_t l G s (by first | omega | assumption)) [] rfl rfl [] rfl rfl rfl rfl rfl rfl (Nat.le_of_ble_eq_true rfl) rfl dX6_item_1 ?_
  refine J_if_eq (tgt := 16) 4 dX6_item_4 (by decide) (fun c_1_ => absurd c_1_ (by decide)) (fun _ => ?_)
  refine J_iload_n 7 2 dX6_item_7 rfl rfl ?_
  refine J_iconst (v := 0) 8 dX6_item_8 rfl ?_
  refine J_iconst (v := 3) 9 dX6_item_9 rfl ?_
  refine kb_RX6_57 (bs' := [wMo o rw fr kp tr ik tp tm mso bg en wd va gd rs mu rm ss msz msh mho mhn mhz kd nb tn tc bo ip, wI G ss 4 ssf, wI G msz 4 szf]) (rest := []) (st' := [.int 1]) 10 (c_X6_in_t l G v 0 3 hv) [] rfl rfl [] rfl rfl rfl rfl rfl rfl (Nat.le_of_ble_eq_true rfl) rfl dX6_item_10 ?_
  refine J_if_ne (tgt := 18) 13 dX6_item_13 (by decide) (fun _ => ?_) (fun c_2_ => absurd c_2_ (by decide))
  refine J_aload_n 18 0 dX6_item_18 rfl rfl ?_
  refine J_iload_n 19 1 dX6_item_19 rfl rfl ?_
  refine J_iload_n 20 2 dX6_item_20 rfl rfl ?_
  refine kb_RX6_284 (bs' := [wMo o rw fr kp tr ik tp tm mso bg en wd va gd rs mu rm ss msz msh mho mhn mhz kd nb tn tc bo ip, wI G ss 4 ssf, wI G msz 4 szf]) (rest := []) (st' := [.int 0]) 21 (c_X6_lacksSort_t l G s v o rw fr kp tr ik tp tm mso bg en wd va gd rs mu rm ss msz msh mho mhn mhz kd nb tn tc bo ip ssf (by first | omega | assumption) (by first | omega | assumption) (by first | omega | assumption)) [0, 1] 0 rfl rfl rfl [[o], [ss]] rfl rfl rfl rfl rfl rfl (Nat.le_of_ble_eq_true rfl) rfl dX6_item_21 ?_
  refine J_istore (lv' := [some (.ref o), some (.int (nI s)), some (.int v), some (.int i), some (.int 0)]) 24 dX6_item_24 (by decide) rfl ?_
  refine J_iload 26 dX6_item_26 rfl ?_
  refine J_if_eq (tgt := 34) 28 dX6_item_28 (by decide) (fun _ => ?_) (fun c_3_ => absurd c_3_ (by decide))
  refine J_iload_n 34 3 dX6_item_34 rfl rfl ?_
  refine J_iconst (v := 0) 35 dX6_item_35 rfl ?_
  refine J_aload_n 36 0 dX6_item_36 rfl rfl ?_
  refine g_806 (v := .ref msz) 37 0 rfl rfl dX6_item_37 ?_
  refine J_iload_n 40 1 dX6_item_40 rfl rfl ?_
  refine J_iald 41 2 s rfl rfl (by omega) (by decide) dX6_item_41 ?_
  refine J_topi (y := nI m) 42 hsz ?_
  refine J_iconst (v := 1) 42 dX6_item_42 rfl ?_
  refine J_isub 43 dX6_item_43 ?_
  refine kb_RX6_57 (bs' := [wMo o rw fr kp tr ik tp tm mso bg en wd va gd rs mu rm ss msz msh mho mhn mhz kd nb tn tc bo ip, wI G ss 4 ssf, wI G msz 4 szf]) (rest := []) (st' := [.int 0]) 44 (c_X6_in_f l G i 0 ((nI m) - 1) hw) [] rfl rfl [] rfl rfl rfl rfl rfl rfl (Nat.le_of_ble_eq_true rfl) rfl dX6_item_44 ?_
  refine J_if_eq (tgt := 65) 47 dX6_item_47 (by decide) (fun _ => ?_) (fun c_4_ => absurd c_4_ (by decide))
  refine J_bipush (v := (-12)) 65 dX6_item_65 rfl ?_
  exact J_iret 67 dX6_item_67 rfl rfl
set_option maxRecDepth 100000 in
set_option maxHeartbeats 4000000 in
theorem c_X6_item_ok (l : Launch) (G : Gd) (s : Nat) (v : Int32) (i : Nat) (m : Nat) (o : Nat) (rw : Nat) (fr : Nat) (kp : Nat) (tr : Nat) (ik : Int32) (tp : Nat) (tm : Nat) (mso : Int32) (bg : Nat) (en : Nat) (wd : Int64) (va : Int32) (gd : Int32) (rs : Nat) (mu : Nat) (rm : Nat) (ss : Nat) (msz : Nat) (msh : Nat) (mho : Nat) (mhn : Nat) (mhz : Nat) (kd : Int32) (nb : Int32) (tn : Int32) (tc : Nat) (bo : Nat) (ip : Int32) (ssf : Nat → Int32) (szf : Nat → Int32) (shf : Nat → Int64) (hs : s ≤ 3) (hv : 0 ≤ v ∧ v ≤ 3) (hso : ¬ ssf s < 0) (hsv : ssf s = v) (hm : m ≤ 40) (hsz : szf s = nI m) (hi : i < m) : Ct l G yX6_item cX6_item 5 (some (FieldType.int)) 2 [.ref o, .int (nI s), .int v, .int (nI i)] (wF [wMo o rw fr kp tr ik tp tm mso bg en wd va gd rs mu rm ss msz msh mho mhn mhz kd nb tn tc bo ip, wI G ss 4 ssf, wI G msz 4 szf, wJ G msh 160 shf]) (some (.int ((shf (40 * s + i)).toInt32))) (wF [wMo o rw fr kp tr ik tp tm mso bg en wd va gd rs mu rm ss msz msh mho mhn mhz kd nb tn tc bo ip, wI G ss 4 ssf, wI G msz 4 szf, wJ G msh 160 shf]) := by
  refine Ct.of "GooseArmsModel" [some (.ref o), some (.int (nI s)), some (.int v), some (.int (nI i)), none] (by decide +kernel) rfl (Nat.le_of_ble_eq_true rfl) rfl ?_
  refine J_iload_n 0 1 dX6_item_0 rfl rfl ?_
  refine kb_RX6_262 (bs' := [wMo o rw fr kp tr ik tp tm mso bg en wd va gd rs mu rm ss msz msh mho mhn mhz kd nb tn tc bo ip, wI G ss 4 ssf, wI G msz 4 szf, wJ G msh 160 shf]) (rest := []) (st' := [.int 1]) 1 (c_X6_isShelf_t l G s (by first | omega | assumption)) [] rfl rfl [] rfl rfl rfl rfl rfl rfl (Nat.le_of_ble_eq_true rfl) rfl dX6_item_1 ?_
  refine J_if_eq (tgt := 16) 4 dX6_item_4 (by decide) (fun c_1_ => absurd c_1_ (by decide)) (fun _ => ?_)
  refine J_iload_n 7 2 dX6_item_7 rfl rfl ?_
  refine J_iconst (v := 0) 8 dX6_item_8 rfl ?_
  refine J_iconst (v := 3) 9 dX6_item_9 rfl ?_
  refine kb_RX6_57 (bs' := [wMo o rw fr kp tr ik tp tm mso bg en wd va gd rs mu rm ss msz msh mho mhn mhz kd nb tn tc bo ip, wI G ss 4 ssf, wI G msz 4 szf, wJ G msh 160 shf]) (rest := []) (st' := [.int 1]) 10 (c_X6_in_t l G v 0 3 hv) [] rfl rfl [] rfl rfl rfl rfl rfl rfl (Nat.le_of_ble_eq_true rfl) rfl dX6_item_10 ?_
  refine J_if_ne (tgt := 18) 13 dX6_item_13 (by decide) (fun _ => ?_) (fun c_2_ => absurd c_2_ (by decide))
  refine J_aload_n 18 0 dX6_item_18 rfl rfl ?_
  refine J_iload_n 19 1 dX6_item_19 rfl rfl ?_
  refine J_iload_n 20 2 dX6_item_20 rfl rfl ?_
  refine kb_RX6_284 (bs' := [wMo o rw fr kp tr ik tp tm mso bg en wd va gd rs mu rm ss msz msh mho mhn mhz kd nb tn tc bo ip, wI G ss 4 ssf, wI G msz 4 szf, wJ G msh 160 shf]) (rest := []) (st' := [.int 0]) 21 (c_X6_lacksSort_t l G s v o rw fr kp tr ik tp tm mso bg en wd va gd rs mu rm ss msz msh mho mhn mhz kd nb tn tc bo ip ssf (by first | omega | assumption) (by first | omega | assumption) (by first | omega | assumption)) [0, 1] 0 rfl rfl rfl [[o], [ss]] rfl rfl rfl rfl rfl rfl (Nat.le_of_ble_eq_true rfl) rfl dX6_item_21 ?_
  refine J_istore (lv' := [some (.ref o), some (.int (nI s)), some (.int v), some (.int (nI i)), some (.int 0)]) 24 dX6_item_24 (by decide) rfl ?_
  refine J_iload 26 dX6_item_26 rfl ?_
  refine J_if_eq (tgt := 34) 28 dX6_item_28 (by decide) (fun _ => ?_) (fun c_3_ => absurd c_3_ (by decide))
  refine J_iload_n 34 3 dX6_item_34 rfl rfl ?_
  refine J_iconst (v := 0) 35 dX6_item_35 rfl ?_
  refine J_aload_n 36 0 dX6_item_36 rfl rfl ?_
  refine g_806 (v := .ref msz) 37 0 rfl rfl dX6_item_37 ?_
  refine J_iload_n 40 1 dX6_item_40 rfl rfl ?_
  refine J_iald 41 2 s rfl rfl (by omega) (by decide) dX6_item_41 ?_
  refine J_topi (y := nI m) 42 hsz ?_
  refine J_iconst (v := 1) 42 dX6_item_42 rfl ?_
  refine J_isub 43 dX6_item_43 ?_
  refine kb_RX6_57 (bs' := [wMo o rw fr kp tr ik tp tm mso bg en wd va gd rs mu rm ss msz msh mho mhn mhz kd nb tn tc bo ip, wI G ss 4 ssf, wI G msz 4 szf, wJ G msh 160 shf]) (rest := []) (st' := [.int 1]) 44 (c_X6_in_t l G (nI i) 0 ((nI m) - 1) (inR_t hi (by omega))) [] rfl rfl [] rfl rfl rfl rfl rfl rfl (Nat.le_of_ble_eq_true rfl) rfl dX6_item_44 ?_
  refine J_if_eq (tgt := 65) 47 dX6_item_47 (by decide) (fun c_4_ => absurd c_4_ (by decide)) (fun _ => ?_)
  refine J_aload_n 50 0 dX6_item_50 rfl rfl ?_
  refine g_807 (v := .ref msh) 51 0 rfl rfl dX6_item_51 ?_
  refine J_bipush (v := 40) 54 dX6_item_54 rfl ?_
  refine J_iload_n 56 1 dX6_item_56 rfl rfl ?_
  refine J_imul 57 dX6_item_57 ?_
  refine J_topi (y := nI (40 * s)) 58 (pk_mul 40 s) ?_
  refine J_iload_n 58 3 dX6_item_58 rfl rfl ?_
  refine J_iadd 59 dX6_item_59 ?_
  refine J_topi (y := nI ((40 * s) + i)) 60 (nI_add (40 * s) i) ?_
  refine J_lald 60 3 ((40 * s) + i) rfl rfl (by omega) (by decide) dX6_item_60 ?_
  refine J_l2i 61 dX6_item_61 ?_
  refine J_goto (tgt := 67) 62 dX6_item_62 (by decide) ?_
  exact J_iret 67 dX6_item_67 (congrArg (fun x_ => some (Value.int x_)) (by first | rfl | omega | grind)) rfl
set_option maxRecDepth 100000 in
set_option maxHeartbeats 4000000 in
theorem c_X6_isHeld_0 (l : Launch) (G : Gd) (n : Int32) (o : Nat) (rw : Nat) (fr : Nat) (kp : Nat) (tr : Nat) (ik : Int32) (tp : Nat) (tm : Nat) (mso : Int32) (bg : Nat) (en : Nat) (wd : Int64) (va : Int32) (gd : Int32) (rs : Nat) (mu : Nat) (rm : Nat) (ss : Nat) (msz : Nat) (msh : Nat) (mho : Nat) (mhn : Nat) (mhz : Nat) (kd : Int32) (nb : Int32) (tn : Int32) (tc : Nat) (bo : Nat) (ip : Int32) (la : Nat → Int32) (ns : Nat) (sd : Nat) (to : Nat → Int32) (he : Nat → Int32) (sw : Nat → Int32) (nh : Nat) (ki : Nat → Int32) (te : Nat → Int32) (mi : Nat → Int32) (ar : Nat → Int32) (z : Int32)  : Ct l G yX6_isHeld cX6_isHeld 3 (some (FieldType.boolean)) 2 [.ref o, .int 0, .int n] (wF [wMo o rw fr kp tr ik tp tm mso bg en wd va gd rs mu rm ss msz msh mho mhn mhz kd nb tn tc bo ip, wMr G rw la ns sd to he sw nh ki te mi ar z]) (some (.int (bI (0 ≤ n ∧ n ≤ nI nh - 1)))) (wF [wMo o rw fr kp tr ik tp tm mso bg en wd va gd rs mu rm ss msz msh mho mhn mhz kd nb tn tc bo ip, wMr G rw la ns sd to he sw nh ki te mi ar z]) := by
  refine Ct.of "GooseArmsModel" [some (.ref o), some (.int 0), some (.int n)] (by decide +kernel) rfl (Nat.le_of_ble_eq_true rfl) rfl ?_
  refine J_iload_n 0 1 dX6_isHeld_0 rfl rfl ?_
  refine J_if_ne (tgt := 12) 1 dX6_isHeld_1 (by decide) (fun c_1_ => absurd c_1_ (by decide)) (fun _ => ?_)
  refine J_aload_n 4 0 dX6_isHeld_4 rfl rfl ?_
  refine J_iload_n 5 2 dX6_isHeld_5 rfl rfl ?_
  refine kb_RX6_206 (bs' := [wMo o rw fr kp tr ik tp tm mso bg en wd va gd rs mu rm ss msz msh mho mhn mhz kd nb tn tc bo ip, wMr G rw la ns sd to he sw nh ki te mi ar z]) (rest := []) (st' := [.int (bI (0 ≤ n ∧ n ≤ nI nh - 1))]) 6 (c_X6_isOne l G n o rw fr kp tr ik tp tm mso bg en wd va gd rs mu rm ss msz msh mho mhn mhz kd nb tn tc bo ip la ns sd to he sw nh ki te mi ar z ) [0, 1] 0 rfl rfl rfl [[o], [rw]] rfl rfl rfl rfl rfl rfl (Nat.le_of_ble_eq_true rfl) rfl dX6_isHeld_6 ?_
  refine J_goto (tgt := 34) 9 dX6_isHeld_9 (by decide) ?_
  exact J_zret 34 (bI_nar _) dX6_isHeld_34 rfl rfl
set_option maxRecDepth 100000 in
set_option maxHeartbeats 4000000 in
theorem c_X6_isHeld_1 (l : Launch) (G : Gd) (n : Int32) (o : Nat) (rw : Nat) (fr : Nat) (kp : Nat) (tr : Nat) (ik : Int32) (tp : Nat) (tm : Nat) (mso : Int32) (bg : Nat) (en : Nat) (wd : Int64) (va : Int32) (gd : Int32) (rs : Nat) (mu : Nat) (rm : Nat) (ss : Nat) (msz : Nat) (msh : Nat) (mho : Nat) (mhn : Nat) (mhz : Nat) (kd : Int32) (nb : Int32) (tn : Int32) (tc : Nat) (bo : Nat) (ip : Int32)  : Ct l G yX6_isHeld cX6_isHeld 3 (some (FieldType.boolean)) 2 [.ref o, .int 1, .int n] (wF [wMo o rw fr kp tr ik tp tm mso bg en wd va gd rs mu rm ss msz msh mho mhn mhz kd nb tn tc bo ip]) (some (.int (bI (0 ≤ n ∧ n ≤ 3)))) (wF [wMo o rw fr kp tr ik tp tm mso bg en wd va gd rs mu rm ss msz msh mho mhn mhz kd nb tn tc bo ip]) := by
  refine Ct.of "GooseArmsModel" [some (.ref o), some (.int 1), some (.int n)] (by decide +kernel) rfl (Nat.le_of_ble_eq_true rfl) rfl ?_
  refine J_iload_n 0 1 dX6_isHeld_0 rfl rfl ?_
  refine J_if_ne (tgt := 12) 1 dX6_isHeld_1 (by decide) (fun _ => ?_) (fun c_1_ => absurd c_1_ (by decide))
  refine J_iload_n 12 1 dX6_isHeld_12 rfl rfl ?_
  refine J_iconst (v := 1) 13 dX6_isHeld_13 rfl ?_
  refine J_icmp_ne (tgt := 24) 14 dX6_isHeld_14 (by decide) (fun c_2_ => absurd c_2_ (by decide)) (fun _ => ?_)
  refine J_iload_n 17 2 dX6_isHeld_17 rfl rfl ?_
  refine kb_RX6_262 (bs' := [wMo o rw fr kp tr ik tp tm mso bg en wd va gd rs mu rm ss msz msh mho mhn mhz kd nb tn tc bo ip]) (rest := []) (st' := [.int (bI (0 ≤ n ∧ n ≤ 3))]) 18 (c_X6_isShelf l G n ) [] rfl rfl [] rfl rfl rfl rfl rfl rfl (Nat.le_of_ble_eq_true rfl) rfl dX6_isHeld_18 ?_
  refine J_goto (tgt := 34) 21 dX6_isHeld_21 (by decide) ?_
  exact J_zret 34 (bI_nar _) dX6_isHeld_34 rfl rfl
set_option maxRecDepth 100000 in
set_option maxHeartbeats 4000000 in
theorem c_X6_isHeld_2 (l : Launch) (G : Gd) (n : Int32) (o : Nat) (rw : Nat) (fr : Nat) (kp : Nat) (tr : Nat) (ik : Int32) (tp : Nat) (tm : Nat) (mso : Int32) (bg : Nat) (en : Nat) (wd : Int64) (va : Int32) (gd : Int32) (rs : Nat) (mu : Nat) (rm : Nat) (ss : Nat) (msz : Nat) (msh : Nat) (mho : Nat) (mhn : Nat) (mhz : Nat) (kd : Int32) (nb : Int32) (tn : Int32) (tc : Nat) (bo : Nat) (ip : Int32)  : Ct l G yX6_isHeld cX6_isHeld 3 (some (FieldType.boolean)) 2 [.ref o, .int 2, .int n] (wF [wMo o rw fr kp tr ik tp tm mso bg en wd va gd rs mu rm ss msz msh mho mhn mhz kd nb tn tc bo ip]) (some (.int 1)) (wF [wMo o rw fr kp tr ik tp tm mso bg en wd va gd rs mu rm ss msz msh mho mhn mhz kd nb tn tc bo ip]) := by
  refine Ct.of "GooseArmsModel" [some (.ref o), some (.int 2), some (.int n)] (by decide +kernel) rfl (Nat.le_of_ble_eq_true rfl) rfl ?_
  refine J_iload_n 0 1 dX6_isHeld_0 rfl rfl ?_
  refine J_if_ne (tgt := 12) 1 dX6_isHeld_1 (by decide) (fun _ => ?_) (fun c_1_ => absurd c_1_ (by decide))
  refine J_iload_n 12 1 dX6_isHeld_12 rfl rfl ?_
  refine J_iconst (v := 1) 13 dX6_isHeld_13 rfl ?_
  refine J_icmp_ne (tgt := 24) 14 dX6_isHeld_14 (by decide) (fun _ => ?_) (fun c_2_ => absurd c_2_ (by decide))
  refine J_iload_n 24 1 dX6_isHeld_24 rfl rfl ?_
  refine J_iconst (v := 2) 25 dX6_isHeld_25 rfl ?_
  refine J_icmp_ne (tgt := 33) 26 dX6_isHeld_26 (by decide) (fun c_3_ => absurd c_3_ (by decide)) (fun _ => ?_)
  refine J_iconst (v := 1) 29 dX6_isHeld_29 rfl ?_
  refine J_goto (tgt := 34) 30 dX6_isHeld_30 (by decide) ?_
  exact J_zret 34 rfl dX6_isHeld_34 rfl rfl
set_option maxRecDepth 100000 in
set_option maxHeartbeats 4000000 in
theorem c_X6_isHeld_w (l : Launch) (G : Gd) (w : Int32) (n : Int32) (o : Nat) (rw : Nat) (fr : Nat) (kp : Nat) (tr : Nat) (ik : Int32) (tp : Nat) (tm : Nat) (mso : Int32) (bg : Nat) (en : Nat) (wd : Int64) (va : Int32) (gd : Int32) (rs : Nat) (mu : Nat) (rm : Nat) (ss : Nat) (msz : Nat) (msh : Nat) (mho : Nat) (mhn : Nat) (mhz : Nat) (kd : Int32) (nb : Int32) (tn : Int32) (tc : Nat) (bo : Nat) (ip : Int32) (hw : ¬ (0 ≤ w ∧ w ≤ 2)) : Ct l G yX6_isHeld cX6_isHeld 3 (some (FieldType.boolean)) 2 [.ref o, .int w, .int n] (wF [wMo o rw fr kp tr ik tp tm mso bg en wd va gd rs mu rm ss msz msh mho mhn mhz kd nb tn tc bo ip]) (some (.int 0)) (wF [wMo o rw fr kp tr ik tp tm mso bg en wd va gd rs mu rm ss msz msh mho mhn mhz kd nb tn tc bo ip]) := by
  refine Ct.of "GooseArmsModel" [some (.ref o), some (.int w), some (.int n)] (by decide +kernel) rfl (Nat.le_of_ble_eq_true rfl) rfl ?_
  refine J_iload_n 0 1 dX6_isHeld_0 rfl rfl ?_
  refine J_if_ne (tgt := 12) 1 dX6_isHeld_1 (by decide) (fun c_1_ => ?_) (fun c_1_ => ?_)
  · skip
    refine J_iload_n 12 1 dX6_isHeld_12 rfl rfl ?_
    refine J_iconst (v := 1) 13 dX6_isHeld_13 rfl ?_
    refine J_icmp_ne (tgt := 24) 14 dX6_isHeld_14 (by decide) (fun c_2_ => ?_) (fun c_2_ => ?_)
    · skip
      refine J_iload_n 24 1 dX6_isHeld_24 rfl rfl ?_
      refine J_iconst (v := 2) 25 dX6_isHeld_25 rfl ?_
      refine J_icmp_ne (tgt := 33) 26 dX6_isHeld_26 (by decide) (fun c_3_ => ?_) (fun c_3_ => ?_)
      · skip
        refine J_iconst (v := 0) 33 dX6_isHeld_33 rfl ?_
        exact J_zret 34 rfl dX6_isHeld_34 rfl rfl
      · skip
        exact (hw (by rw [c_3_]; decide)).elim
    · skip
      exact (hw (by rw [c_2_]; decide)).elim
  · skip
    exact (hw (by rw [c_1_]; decide)).elim
set_option maxRecDepth 100000 in
set_option maxHeartbeats 4000000 in
theorem c_X6_shelf_bad (l : Launch) (G : Gd) (s : Int32) (w : Int32) (n : Int32) (o : Nat) (rw : Nat) (fr : Nat) (kp : Nat) (tr : Nat) (ik : Int32) (tp : Nat) (tm : Nat) (mso : Int32) (bg : Nat) (en : Nat) (wd : Int64) (va : Int32) (gd : Int32) (rs : Nat) (mu : Nat) (rm : Nat) (ss : Nat) (msz : Nat) (msh : Nat) (mho : Nat) (mhn : Nat) (mhz : Nat) (kd : Int32) (nb : Int32) (tn : Int32) (tc : Nat) (bo : Nat) (ip : Int32) (hw : ¬ (0 ≤ s ∧ s ≤ 3)) : Ct l G yX6_shelf cX6_shelf 4 (some (FieldType.int)) 3 [.ref o, .int s, .int w, .int n] (wF [wMo o rw fr kp tr ik tp tm mso bg en wd va gd rs mu rm ss msz msh mho mhn mhz kd nb tn tc bo ip]) (some (.int (-1))) (wF [wMo o rw fr kp tr ik tp tm mso bg en wd va gd rs mu rm ss msz msh mho mhn mhz kd nb tn tc bo ip]) := by
  refine Ct.of "GooseArmsModel" [some (.ref o), some (.int s), some (.int w), some (.int n)] (by decide +kernel) rfl (Nat.le_of_ble_eq_true rfl) rfl ?_
  refine J_iload_n 0 1 dX6_shelf_0 rfl rfl ?_
  refine kb_RX6_262 (bs' := [wMo o rw fr kp tr ik tp tm mso bg en wd va gd rs mu rm ss msz msh mho mhn mhz kd nb tn tc bo ip]) (rest := []) (st' := [.int 0]) 1 (c_X6_isShelf_f l G s (by first | omega | assumption)) [] rfl rfl [] rfl rfl rfl rfl rfl rfl (Nat.le_of_ble_eq_true rfl) rfl dX6_shelf_1 ?_
  refine J_if_eq (tgt := 16) 4 dX6_shelf_4 (by decide) (fun _ => ?_) (fun c_1_ => absurd c_1_ (by decide))
  refine J_iconst (v := (-1)) 16 dX6_shelf_16 rfl ?_
  exact J_iret 17 dX6_shelf_17 rfl rfl
set_option maxRecDepth 100000 in
set_option maxHeartbeats 4000000 in
theorem c_X6_shelf_badw (l : Launch) (G : Gd) (s : Nat) (w : Int32) (n : Int32) (o : Nat) (rw : Nat) (fr : Nat) (kp : Nat) (tr : Nat) (ik : Int32) (tp : Nat) (tm : Nat) (mso : Int32) (bg : Nat) (en : Nat) (wd : Int64) (va : Int32) (gd : Int32) (rs : Nat) (mu : Nat) (rm : Nat) (ss : Nat) (msz : Nat) (msh : Nat) (mho : Nat) (mhn : Nat) (mhz : Nat) (kd : Int32) (nb : Int32) (tn : Int32) (tc : Nat) (bo : Nat) (ip : Int32) (hs : s ≤ 3) (hw : ¬ (0 ≤ w ∧ w ≤ 2)) : Ct l G yX6_shelf cX6_shelf 4 (some (FieldType.int)) 3 [.ref o, .int (nI s), .int w, .int n] (wF [wMo o rw fr kp tr ik tp tm mso bg en wd va gd rs mu rm ss msz msh mho mhn mhz kd nb tn tc bo ip]) (some (.int (-1))) (wF [wMo o rw fr kp tr ik tp tm mso bg en wd va gd rs mu rm ss msz msh mho mhn mhz kd nb tn tc bo ip]) := by
  refine Ct.of "GooseArmsModel" [some (.ref o), some (.int (nI s)), some (.int w), some (.int n)] (by decide +kernel) rfl (Nat.le_of_ble_eq_true rfl) rfl ?_
  refine J_iload_n 0 1 dX6_shelf_0 rfl rfl ?_
  refine kb_RX6_262 (bs' := [wMo o rw fr kp tr ik tp tm mso bg en wd va gd rs mu rm ss msz msh mho mhn mhz kd nb tn tc bo ip]) (rest := []) (st' := [.int 1]) 1 (c_X6_isShelf_t l G s (by first | omega | assumption)) [] rfl rfl [] rfl rfl rfl rfl rfl rfl (Nat.le_of_ble_eq_true rfl) rfl dX6_shelf_1 ?_
  refine J_if_eq (tgt := 16) 4 dX6_shelf_4 (by decide) (fun c_1_ => absurd c_1_ (by decide)) (fun _ => ?_)
  refine J_aload_n 7 0 dX6_shelf_7 rfl rfl ?_
  refine J_iload_n 8 2 dX6_shelf_8 rfl rfl ?_
  refine J_iload_n 9 3 dX6_shelf_9 rfl rfl ?_
  refine kb_RX6_287 (bs' := [wMo o rw fr kp tr ik tp tm mso bg en wd va gd rs mu rm ss msz msh mho mhn mhz kd nb tn tc bo ip]) (rest := []) (st' := [.int 0]) 10 (c_X6_isHeld_w l G w n o rw fr kp tr ik tp tm mso bg en wd va gd rs mu rm ss msz msh mho mhn mhz kd nb tn tc bo ip (by first | omega | assumption)) [0] 0 rfl rfl rfl [[o]] rfl rfl rfl rfl rfl rfl (Nat.le_of_ble_eq_true rfl) rfl dX6_shelf_10 ?_
  refine J_if_ne (tgt := 18) 13 dX6_shelf_13 (by decide) (fun c_2_ => absurd c_2_ (by decide)) (fun _ => ?_)
  refine J_iconst (v := (-1)) 16 dX6_shelf_16 rfl ?_
  exact J_iret 17 dX6_shelf_17 rfl rfl
set_option maxRecDepth 100000 in
set_option maxHeartbeats 4000000 in
theorem c_X6_shelf_0bad (l : Launch) (G : Gd) (s : Nat) (n : Int32) (o : Nat) (rw : Nat) (fr : Nat) (kp : Nat) (tr : Nat) (ik : Int32) (tp : Nat) (tm : Nat) (mso : Int32) (bg : Nat) (en : Nat) (wd : Int64) (va : Int32) (gd : Int32) (rs : Nat) (mu : Nat) (rm : Nat) (ss : Nat) (msz : Nat) (msh : Nat) (mho : Nat) (mhn : Nat) (mhz : Nat) (kd : Int32) (nb : Int32) (tn : Int32) (tc : Nat) (bo : Nat) (ip : Int32) (la : Nat → Int32) (ns : Nat) (sd : Nat) (to : Nat → Int32) (he : Nat → Int32) (sw : Nat → Int32) (nh : Nat) (ki : Nat → Int32) (te : Nat → Int32) (mi : Nat → Int32) (ar : Nat → Int32) (z : Int32) (hs : s ≤ 3) (hw : ¬ (0 ≤ n ∧ n ≤ nI nh - 1)) : Ct l G yX6_shelf cX6_shelf 4 (some (FieldType.int)) 3 [.ref o, .int (nI s), .int 0, .int n] (wF [wMo o rw fr kp tr ik tp tm mso bg en wd va gd rs mu rm ss msz msh mho mhn mhz kd nb tn tc bo ip, wMr G rw la ns sd to he sw nh ki te mi ar z]) (some (.int (-1))) (wF [wMo o rw fr kp tr ik tp tm mso bg en wd va gd rs mu rm ss msz msh mho mhn mhz kd nb tn tc bo ip, wMr G rw la ns sd to he sw nh ki te mi ar z]) := by
  refine Ct.of "GooseArmsModel" [some (.ref o), some (.int (nI s)), some (.int 0), some (.int n)] (by decide +kernel) rfl (Nat.le_of_ble_eq_true rfl) rfl ?_
  refine J_iload_n 0 1 dX6_shelf_0 rfl rfl ?_
  refine kb_RX6_262 (bs' := [wMo o rw fr kp tr ik tp tm mso bg en wd va gd rs mu rm ss msz msh mho mhn mhz kd nb tn tc bo ip, wMr G rw la ns sd to he sw nh ki te mi ar z]) (rest := []) (st' := [.int 1]) 1 (c_X6_isShelf_t l G s (by first | omega | assumption)) [] rfl rfl [] rfl rfl rfl rfl rfl rfl (Nat.le_of_ble_eq_true rfl) rfl dX6_shelf_1 ?_
  refine J_if_eq (tgt := 16) 4 dX6_shelf_4 (by decide) (fun c_1_ => absurd c_1_ (by decide)) (fun _ => ?_)
  refine J_aload_n 7 0 dX6_shelf_7 rfl rfl ?_
  refine J_iload_n 8 2 dX6_shelf_8 rfl rfl ?_
  refine J_iload_n 9 3 dX6_shelf_9 rfl rfl ?_
  refine kb_RX6_287 (bs' := [wMo o rw fr kp tr ik tp tm mso bg en wd va gd rs mu rm ss msz msh mho mhn mhz kd nb tn tc bo ip, wMr G rw la ns sd to he sw nh ki te mi ar z]) (rest := []) (st' := [.int (bI (0 ≤ n ∧ n ≤ nI nh - 1))]) 10 (c_X6_isHeld_0 l G n o rw fr kp tr ik tp tm mso bg en wd va gd rs mu rm ss msz msh mho mhn mhz kd nb tn tc bo ip la ns sd to he sw nh ki te mi ar z ) [0, 1] 0 rfl rfl rfl [[o], [rw]] rfl rfl rfl rfl rfl rfl (Nat.le_of_ble_eq_true rfl) rfl dX6_shelf_10 ?_
  refine J_ifB_ne (tgt := 18) 13 dX6_shelf_13 (by decide) (fun c_2_ => ?_) (fun c_2_ => ?_)
  · skip
    exact absurd c_2_ hw
  · skip
    refine J_iconst (v := (-1)) 16 dX6_shelf_16 rfl ?_
    exact J_iret 17 dX6_shelf_17 rfl rfl
set_option maxRecDepth 100000 in
set_option maxHeartbeats 4000000 in
theorem c_X6_shelf_0 (l : Launch) (G : Gd) (s : Nat) (h : Nat) (o : Nat) (rw : Nat) (fr : Nat) (kp : Nat) (tr : Nat) (ik : Int32) (tp : Nat) (tm : Nat) (mso : Int32) (bg : Nat) (en : Nat) (wd : Int64) (va : Int32) (gd : Int32) (rs : Nat) (mu : Nat) (rm : Nat) (ss : Nat) (msz : Nat) (msh : Nat) (mho : Nat) (mhn : Nat) (mhz : Nat) (kd : Int32) (nb : Int32) (tn : Int32) (tc : Nat) (bo : Nat) (ip : Int32) (la : Nat → Int32) (ns : Nat) (sd : Nat) (to : Nat → Int32) (he : Nat → Int32) (sw : Nat → Int32) (nh : Nat) (ki : Nat → Int32) (te : Nat → Int32) (mi : Nat → Int32) (ar : Nat → Int32) (z : Int32) (hof : Nat → Int32) (hnf : Nat → Int32) (hzf : Nat → Int32) (hs : s ≤ 3) (hh : h < nh) (hnh : nh ≤ 8) : Ct l G yX6_shelf cX6_shelf 4 (some (FieldType.int)) 3 [.ref o, .int (nI s), .int 0, .int (nI h)] (wF [wMo o rw fr kp tr ik tp tm mso bg en wd va gd rs mu rm ss msz msh mho mhn mhz kd nb tn tc bo ip, wMr G rw la ns sd to he sw nh ki te mi ar z, wI G mho 4 hof, wI G mhn 4 hnf, wI G mhz 4 hzf]) (some (.int 1)) (wF [wMo o rw fr kp tr ik tp tm mso bg en wd va gd rs mu rm ss msz msh mho mhn mhz kd nb tn tc bo ip, wMr G rw la ns sd to he sw nh ki te mi ar z, wI G mho 4 (upd hof s 0), wI G mhn 4 (upd hnf s (nI h)), wI G mhz 4 (upd hzf s 0)]) := by
  refine Ct.of "GooseArmsModel" [some (.ref o), some (.int (nI s)), some (.int 0), some (.int (nI h))] (by decide +kernel) rfl (Nat.le_of_ble_eq_true rfl) rfl ?_
  refine J_iload_n 0 1 dX6_shelf_0 rfl rfl ?_
  refine kb_RX6_262 (bs' := [wMo o rw fr kp tr ik tp tm mso bg en wd va gd rs mu rm ss msz msh mho mhn mhz kd nb tn tc bo ip, wMr G rw la ns sd to he sw nh ki te mi ar z, wI G mho 4 hof, wI G mhn 4 hnf, wI G mhz 4 hzf]) (rest := []) (st' := [.int 1]) 1 (c_X6_isShelf_t l G s (by first | omega | assumption)) [] rfl rfl [] rfl rfl rfl rfl rfl rfl (Nat.le_of_ble_eq_true rfl) rfl dX6_shelf_1 ?_
  refine J_if_eq (tgt := 16) 4 dX6_shelf_4 (by decide) (fun c_1_ => absurd c_1_ (by decide)) (fun _ => ?_)
  refine J_aload_n 7 0 dX6_shelf_7 rfl rfl ?_
  refine J_iload_n 8 2 dX6_shelf_8 rfl rfl ?_
  refine J_iload_n 9 3 dX6_shelf_9 rfl rfl ?_
  refine kb_RX6_287 (bs' := [wMo o rw fr kp tr ik tp tm mso bg en wd va gd rs mu rm ss msz msh mho mhn mhz kd nb tn tc bo ip, wMr G rw la ns sd to he sw nh ki te mi ar z, wI G mho 4 hof, wI G mhn 4 hnf, wI G mhz 4 hzf]) (rest := []) (st' := [.int (bI (0 ≤ (nI h) ∧ (nI h) ≤ nI nh - 1))]) 10 (c_X6_isHeld_0 l G (nI h) o rw fr kp tr ik tp tm mso bg en wd va gd rs mu rm ss msz msh mho mhn mhz kd nb tn tc bo ip la ns sd to he sw nh ki te mi ar z ) [0, 1] 0 rfl rfl rfl [[o], [rw]] rfl rfl rfl rfl rfl rfl (Nat.le_of_ble_eq_true rfl) rfl dX6_shelf_10 ?_
  refine J_ifB_ne (tgt := 18) 13 dX6_shelf_13 (by decide) (fun c_2_ => ?_) (fun c_2_ => ?_)
  · skip
    refine J_aload_n 18 0 dX6_shelf_18 rfl rfl ?_
    refine g_808 (v := .ref mho) 19 0 rfl rfl dX6_shelf_19 ?_
    refine J_iload_n 22 1 dX6_shelf_22 rfl rfl ?_
    refine J_iload_n 23 2 dX6_shelf_23 rfl rfl ?_
    refine J_iconst (v := 2) 24 dX6_shelf_24 rfl ?_
    refine J_icmp_eq (tgt := 42) 25 dX6_shelf_25 (by decide) (fun c_3_ => absurd c_3_ (by decide)) (fun _ => ?_)
    refine J_iload_n 28 2 dX6_shelf_28 rfl rfl ?_
    refine J_iconst (v := 1) 29 dX6_shelf_29 rfl ?_
    refine J_icmp_ne (tgt := 46) 30 dX6_shelf_30 (by decide) (fun _ => ?_) (fun c_4_ => absurd c_4_ (by decide))
    refine J_iload_n 46 2 dX6_shelf_46 rfl rfl ?_
    refine J_iast (ws' := (wF [wMo o rw fr kp tr ik tp tm mso bg en wd va gd rs mu rm ss msz msh mho mhn mhz kd nb tn tc bo ip, wMr G rw la ns sd to he sw nh ki te mi ar z, wI G mho 4 (upd hof s 0), wI G mhn 4 hnf, wI G mhz 4 hzf])) 47 2 s rfl rfl (by omega) (by decide) rfl dX6_shelf_47 ?_
    refine J_aload_n 48 0 dX6_shelf_48 rfl rfl ?_
    refine g_809 (v := .ref mhn) 49 0 rfl rfl dX6_shelf_49 ?_
    refine J_iload_n 52 1 dX6_shelf_52 rfl rfl ?_
    refine J_iload_n 53 2 dX6_shelf_53 rfl rfl ?_
    refine J_iconst (v := 1) 54 dX6_shelf_54 rfl ?_
    refine J_icmp_ne (tgt := 67) 55 dX6_shelf_55 (by decide) (fun _ => ?_) (fun c_5_ => absurd c_5_ (by decide))
    refine J_iload_n 67 3 dX6_shelf_67 rfl rfl ?_
    refine J_iast (ws' := (wF [wMo o rw fr kp tr ik tp tm mso bg en wd va gd rs mu rm ss msz msh mho mhn mhz kd nb tn tc bo ip, wMr G rw la ns sd to he sw nh ki te mi ar z, wI G mho 4 (upd hof s 0), wI G mhn 4 (upd hnf s (nI h)), wI G mhz 4 hzf])) 68 3 s rfl rfl (by omega) (by decide) rfl dX6_shelf_68 ?_
    refine J_aload_n 69 0 dX6_shelf_69 rfl rfl ?_
    refine g_810 (v := .ref mhz) 70 0 rfl rfl dX6_shelf_70 ?_
    refine J_iload_n 73 1 dX6_shelf_73 rfl rfl ?_
    refine J_iload_n 74 2 dX6_shelf_74 rfl rfl ?_
    refine J_iconst (v := 1) 75 dX6_shelf_75 rfl ?_
    refine J_icmp_ne (tgt := 88) 76 dX6_shelf_76 (by decide) (fun _ => ?_) (fun c_6_ => absurd c_6_ (by decide))
    refine J_iconst (v := 0) 88 dX6_shelf_88 rfl ?_
    refine J_iast (ws' := (wF [wMo o rw fr kp tr ik tp tm mso bg en wd va gd rs mu rm ss msz msh mho mhn mhz kd nb tn tc bo ip, wMr G rw la ns sd to he sw nh ki te mi ar z, wI G mho 4 (upd hof s 0), wI G mhn 4 (upd hnf s (nI h)), wI G mhz 4 (upd hzf s 0)])) 89 4 s rfl rfl (by omega) (by decide) rfl dX6_shelf_89 ?_
    refine J_iconst (v := 1) 90 dX6_shelf_90 rfl ?_
    exact J_iret 91 dX6_shelf_91 rfl rfl
  · skip
    exact absurd (inR_t hh (by omega)) c_2_
set_option maxRecDepth 100000 in
set_option maxHeartbeats 4000000 in
theorem c_X6_shelf_1bad (l : Launch) (G : Gd) (s : Nat) (n : Int32) (o : Nat) (rw : Nat) (fr : Nat) (kp : Nat) (tr : Nat) (ik : Int32) (tp : Nat) (tm : Nat) (mso : Int32) (bg : Nat) (en : Nat) (wd : Int64) (va : Int32) (gd : Int32) (rs : Nat) (mu : Nat) (rm : Nat) (ss : Nat) (msz : Nat) (msh : Nat) (mho : Nat) (mhn : Nat) (mhz : Nat) (kd : Int32) (nb : Int32) (tn : Int32) (tc : Nat) (bo : Nat) (ip : Int32) (hs : s ≤ 3) (hw : ¬ (0 ≤ n ∧ n ≤ 3)) : Ct l G yX6_shelf cX6_shelf 4 (some (FieldType.int)) 3 [.ref o, .int (nI s), .int 1, .int n] (wF [wMo o rw fr kp tr ik tp tm mso bg en wd va gd rs mu rm ss msz msh mho mhn mhz kd nb tn tc bo ip]) (some (.int (-1))) (wF [wMo o rw fr kp tr ik tp tm mso bg en wd va gd rs mu rm ss msz msh mho mhn mhz kd nb tn tc bo ip]) := by
  refine Ct.of "GooseArmsModel" [some (.ref o), some (.int (nI s)), some (.int 1), some (.int n)] (by decide +kernel) rfl (Nat.le_of_ble_eq_true rfl) rfl ?_
  refine J_iload_n 0 1 dX6_shelf_0 rfl rfl ?_
  refine kb_RX6_262 (bs' := [wMo o rw fr kp tr ik tp tm mso bg en wd va gd rs mu rm ss msz msh mho mhn mhz kd nb tn tc bo ip]) (rest := []) (st' := [.int 1]) 1 (c_X6_isShelf_t l G s (by first | omega | assumption)) [] rfl rfl [] rfl rfl rfl rfl rfl rfl (Nat.le_of_ble_eq_true rfl) rfl dX6_shelf_1 ?_
  refine J_if_eq (tgt := 16) 4 dX6_shelf_4 (by decide) (fun c_1_ => absurd c_1_ (by decide)) (fun _ => ?_)
  refine J_aload_n 7 0 dX6_shelf_7 rfl rfl ?_
  refine J_iload_n 8 2 dX6_shelf_8 rfl rfl ?_
  refine J_iload_n 9 3 dX6_shelf_9 rfl rfl ?_
  refine kb_RX6_287 (bs' := [wMo o rw fr kp tr ik tp tm mso bg en wd va gd rs mu rm ss msz msh mho mhn mhz kd nb tn tc bo ip]) (rest := []) (st' := [.int (bI (0 ≤ n ∧ n ≤ 3))]) 10 (c_X6_isHeld_1 l G n o rw fr kp tr ik tp tm mso bg en wd va gd rs mu rm ss msz msh mho mhn mhz kd nb tn tc bo ip ) [0] 0 rfl rfl rfl [[o]] rfl rfl rfl rfl rfl rfl (Nat.le_of_ble_eq_true rfl) rfl dX6_shelf_10 ?_
  refine J_ifB_ne (tgt := 18) 13 dX6_shelf_13 (by decide) (fun c_2_ => ?_) (fun c_2_ => ?_)
  · skip
    exact absurd c_2_ hw
  · skip
    refine J_iconst (v := (-1)) 16 dX6_shelf_16 rfl ?_
    exact J_iret 17 dX6_shelf_17 rfl rfl
set_option maxRecDepth 100000 in
set_option maxHeartbeats 4000000 in
theorem c_X6_shelf_1m (l : Launch) (G : Gd) (s : Nat) (q : Nat) (o : Nat) (rw : Nat) (fr : Nat) (kp : Nat) (tr : Nat) (ik : Int32) (tp : Nat) (tm : Nat) (mso : Int32) (bg : Nat) (en : Nat) (wd : Int64) (va : Int32) (gd : Int32) (rs : Nat) (mu : Nat) (rm : Nat) (ss : Nat) (msz : Nat) (msh : Nat) (mho : Nat) (mhn : Nat) (mhz : Nat) (kd : Int32) (nb : Int32) (tn : Int32) (tc : Nat) (bo : Nat) (ip : Int32) (ssf : Nat → Int32) (szf : Nat → Int32) (hof : Nat → Int32) (hnf : Nat → Int32) (hzf : Nat → Int32) (hs : s ≤ 3) (hq : q ≤ 3) (hso : ssf q < 0) : Ct l G yX6_shelf cX6_shelf 4 (some (FieldType.int)) 3 [.ref o, .int (nI s), .int 1, .int (nI q)] (wF [wMo o rw fr kp tr ik tp tm mso bg en wd va gd rs mu rm ss msz msh mho mhn mhz kd nb tn tc bo ip, wI G ss 4 ssf, wI G msz 4 szf, wI G mho 4 hof, wI G mhn 4 hnf, wI G mhz 4 hzf]) (some (.int 1)) (wF [wMo o rw fr kp tr ik tp tm mso bg en wd va gd rs mu rm ss msz msh mho mhn mhz kd nb tn tc bo ip, wI G ss 4 ssf, wI G msz 4 szf, wI G mho 4 (upd hof s (-1)), wI G mhn 4 (upd hnf s (ssf q)), wI G mhz 4 (upd hzf s (szf q))]) := by
  refine Ct.of "GooseArmsModel" [some (.ref o), some (.int (nI s)), some (.int 1), some (.int (nI q))] (by decide +kernel) rfl (Nat.le_of_ble_eq_true rfl) rfl ?_
  refine J_iload_n 0 1 dX6_shelf_0 rfl rfl ?_
  refine kb_RX6_262 (bs' := [wMo o rw fr kp tr ik tp tm mso bg en wd va gd rs mu rm ss msz msh mho mhn mhz kd nb tn tc bo ip, wI G ss 4 ssf, wI G msz 4 szf, wI G mho 4 hof, wI G mhn 4 hnf, wI G mhz 4 hzf]) (rest := []) (st' := [.int 1]) 1 (c_X6_isShelf_t l G s (by first | omega | assumption)) [] rfl rfl [] rfl rfl rfl rfl rfl rfl (Nat.le_of_ble_eq_true rfl) rfl dX6_shelf_1 ?_
  refine J_if_eq (tgt := 16) 4 dX6_shelf_4 (by decide) (fun c_1_ => absurd c_1_ (by decide)) (fun _ => ?_)
  refine J_aload_n 7 0 dX6_shelf_7 rfl rfl ?_
  refine J_iload_n 8 2 dX6_shelf_8 rfl rfl ?_
  refine J_iload_n 9 3 dX6_shelf_9 rfl rfl ?_
  refine kb_RX6_287 (bs' := [wMo o rw fr kp tr ik tp tm mso bg en wd va gd rs mu rm ss msz msh mho mhn mhz kd nb tn tc bo ip, wI G ss 4 ssf, wI G msz 4 szf, wI G mho 4 hof, wI G mhn 4 hnf, wI G mhz 4 hzf]) (rest := []) (st' := [.int (bI (0 ≤ (nI q) ∧ (nI q) ≤ 3))]) 10 (c_X6_isHeld_1 l G (nI q) o rw fr kp tr ik tp tm mso bg en wd va gd rs mu rm ss msz msh mho mhn mhz kd nb tn tc bo ip ) [0] 0 rfl rfl rfl [[o]] rfl rfl rfl rfl rfl rfl (Nat.le_of_ble_eq_true rfl) rfl dX6_shelf_10 ?_
  refine J_ifB_ne (tgt := 18) 13 dX6_shelf_13 (by decide) (fun c_2_ => ?_) (fun c_2_ => ?_)
  · skip
    refine J_aload_n 18 0 dX6_shelf_18 rfl rfl ?_
    refine g_808 (v := .ref mho) 19 0 rfl rfl dX6_shelf_19 ?_
    refine J_iload_n 22 1 dX6_shelf_22 rfl rfl ?_
    refine J_iload_n 23 2 dX6_shelf_23 rfl rfl ?_
    refine J_iconst (v := 2) 24 dX6_shelf_24 rfl ?_
    refine J_icmp_eq (tgt := 42) 25 dX6_shelf_25 (by decide) (fun c_3_ => absurd c_3_ (by decide)) (fun _ => ?_)
    refine J_iload_n 28 2 dX6_shelf_28 rfl rfl ?_
    refine J_iconst (v := 1) 29 dX6_shelf_29 rfl ?_
    refine J_icmp_ne (tgt := 46) 30 dX6_shelf_30 (by decide) (fun c_4_ => absurd c_4_ (by decide)) (fun _ => ?_)
    refine J_aload_n 33 0 dX6_shelf_33 rfl rfl ?_
    refine g_805 (v := .ref ss) 34 0 rfl rfl dX6_shelf_34 ?_
    refine J_iload_n 37 3 dX6_shelf_37 rfl rfl ?_
    refine J_iald 38 1 q rfl rfl (by omega) (by decide) dX6_shelf_38 ?_
    refine J_if_ge (tgt := 46) 39 dX6_shelf_39 (by decide) (fun c_5_ => ?_) (fun c_5_ => ?_)
    · skip
      exact absurd hso (Int32.not_lt.mpr c_5_)
    · skip
      refine J_iconst (v := (-1)) 42 dX6_shelf_42 rfl ?_
      refine J_goto (tgt := 47) 43 dX6_shelf_43 (by decide) ?_
      refine J_iast (ws' := (wF [wMo o rw fr kp tr ik tp tm mso bg en wd va gd rs mu rm ss msz msh mho mhn mhz kd nb tn tc bo ip, wI G ss 4 ssf, wI G msz 4 szf, wI G mho 4 (upd hof s (-1)), wI G mhn 4 hnf, wI G mhz 4 hzf])) 47 3 s rfl rfl (by omega) (by decide) rfl dX6_shelf_47 ?_
      refine J_aload_n 48 0 dX6_shelf_48 rfl rfl ?_
      refine g_809 (v := .ref mhn) 49 0 rfl rfl dX6_shelf_49 ?_
      refine J_iload_n 52 1 dX6_shelf_52 rfl rfl ?_
      refine J_iload_n 53 2 dX6_shelf_53 rfl rfl ?_
      refine J_iconst (v := 1) 54 dX6_shelf_54 rfl ?_
      refine J_icmp_ne (tgt := 67) 55 dX6_shelf_55 (by decide) (fun c_6_ => absurd c_6_ (by decide)) (fun _ => ?_)
      refine J_aload_n 58 0 dX6_shelf_58 rfl rfl ?_
      refine g_805 (v := .ref ss) 59 0 rfl rfl dX6_shelf_59 ?_
      refine J_iload_n 62 3 dX6_shelf_62 rfl rfl ?_
      refine J_iald 63 1 q rfl rfl (by omega) (by decide) dX6_shelf_63 ?_
      refine J_goto (tgt := 68) 64 dX6_shelf_64 (by decide) ?_
      refine J_iast (ws' := (wF [wMo o rw fr kp tr ik tp tm mso bg en wd va gd rs mu rm ss msz msh mho mhn mhz kd nb tn tc bo ip, wI G ss 4 ssf, wI G msz 4 szf, wI G mho 4 (upd hof s (-1)), wI G mhn 4 (upd hnf s (ssf q)), wI G mhz 4 hzf])) 68 4 s rfl rfl (by omega) (by decide) rfl dX6_shelf_68 ?_
      refine J_aload_n 69 0 dX6_shelf_69 rfl rfl ?_
      refine g_810 (v := .ref mhz) 70 0 rfl rfl dX6_shelf_70 ?_
      refine J_iload_n 73 1 dX6_shelf_73 rfl rfl ?_
      refine J_iload_n 74 2 dX6_shelf_74 rfl rfl ?_
      refine J_iconst (v := 1) 75 dX6_shelf_75 rfl ?_
      refine J_icmp_ne (tgt := 88) 76 dX6_shelf_76 (by decide) (fun c_7_ => absurd c_7_ (by decide)) (fun _ => ?_)
      refine J_aload_n 79 0 dX6_shelf_79 rfl rfl ?_
      refine g_806 (v := .ref msz) 80 0 rfl rfl dX6_shelf_80 ?_
      refine J_iload_n 83 3 dX6_shelf_83 rfl rfl ?_
      refine J_iald 84 2 q rfl rfl (by omega) (by decide) dX6_shelf_84 ?_
      refine J_goto (tgt := 89) 85 dX6_shelf_85 (by decide) ?_
      refine J_iast (ws' := (wF [wMo o rw fr kp tr ik tp tm mso bg en wd va gd rs mu rm ss msz msh mho mhn mhz kd nb tn tc bo ip, wI G ss 4 ssf, wI G msz 4 szf, wI G mho 4 (upd hof s (-1)), wI G mhn 4 (upd hnf s (ssf q)), wI G mhz 4 (upd hzf s (szf q))])) 89 5 s rfl rfl (by omega) (by decide) rfl dX6_shelf_89 ?_
      refine J_iconst (v := 1) 90 dX6_shelf_90 rfl ?_
      exact J_iret 91 dX6_shelf_91 rfl rfl
  · skip
    exact absurd (inL_t (m := 3) hq (by decide)) c_2_
set_option maxRecDepth 100000 in
set_option maxHeartbeats 4000000 in
theorem c_X6_shelf_1 (l : Launch) (G : Gd) (s : Nat) (q : Nat) (o : Nat) (rw : Nat) (fr : Nat) (kp : Nat) (tr : Nat) (ik : Int32) (tp : Nat) (tm : Nat) (mso : Int32) (bg : Nat) (en : Nat) (wd : Int64) (va : Int32) (gd : Int32) (rs : Nat) (mu : Nat) (rm : Nat) (ss : Nat) (msz : Nat) (msh : Nat) (mho : Nat) (mhn : Nat) (mhz : Nat) (kd : Int32) (nb : Int32) (tn : Int32) (tc : Nat) (bo : Nat) (ip : Int32) (ssf : Nat → Int32) (szf : Nat → Int32) (hof : Nat → Int32) (hnf : Nat → Int32) (hzf : Nat → Int32) (hs : s ≤ 3) (hq : q ≤ 3) (hso : ¬ ssf q < 0) : Ct l G yX6_shelf cX6_shelf 4 (some (FieldType.int)) 3 [.ref o, .int (nI s), .int 1, .int (nI q)] (wF [wMo o rw fr kp tr ik tp tm mso bg en wd va gd rs mu rm ss msz msh mho mhn mhz kd nb tn tc bo ip, wI G ss 4 ssf, wI G msz 4 szf, wI G mho 4 hof, wI G mhn 4 hnf, wI G mhz 4 hzf]) (some (.int 1)) (wF [wMo o rw fr kp tr ik tp tm mso bg en wd va gd rs mu rm ss msz msh mho mhn mhz kd nb tn tc bo ip, wI G ss 4 ssf, wI G msz 4 szf, wI G mho 4 (upd hof s 1), wI G mhn 4 (upd hnf s (ssf q)), wI G mhz 4 (upd hzf s (szf q))]) := by
  refine Ct.of "GooseArmsModel" [some (.ref o), some (.int (nI s)), some (.int 1), some (.int (nI q))] (by decide +kernel) rfl (Nat.le_of_ble_eq_true rfl) rfl ?_
  refine J_iload_n 0 1 dX6_shelf_0 rfl rfl ?_
  refine kb_RX6_262 (bs' := [wMo o rw fr kp tr ik tp tm mso bg en wd va gd rs mu rm ss msz msh mho mhn mhz kd nb tn tc bo ip, wI G ss 4 ssf, wI G msz 4 szf, wI G mho 4 hof, wI G mhn 4 hnf, wI G mhz 4 hzf]) (rest := []) (st' := [.int 1]) 1 (c_X6_isShelf_t l G s (by first | omega | assumption)) [] rfl rfl [] rfl rfl rfl rfl rfl rfl (Nat.le_of_ble_eq_true rfl) rfl dX6_shelf_1 ?_
  refine J_if_eq (tgt := 16) 4 dX6_shelf_4 (by decide) (fun c_1_ => absurd c_1_ (by decide)) (fun _ => ?_)
  refine J_aload_n 7 0 dX6_shelf_7 rfl rfl ?_
  refine J_iload_n 8 2 dX6_shelf_8 rfl rfl ?_
  refine J_iload_n 9 3 dX6_shelf_9 rfl rfl ?_
  refine kb_RX6_287 (bs' := [wMo o rw fr kp tr ik tp tm mso bg en wd va gd rs mu rm ss msz msh mho mhn mhz kd nb tn tc bo ip, wI G ss 4 ssf, wI G msz 4 szf, wI G mho 4 hof, wI G mhn 4 hnf, wI G mhz 4 hzf]) (rest := []) (st' := [.int (bI (0 ≤ (nI q) ∧ (nI q) ≤ 3))]) 10 (c_X6_isHeld_1 l G (nI q) o rw fr kp tr ik tp tm mso bg en wd va gd rs mu rm ss msz msh mho mhn mhz kd nb tn tc bo ip ) [0] 0 rfl rfl rfl [[o]] rfl rfl rfl rfl rfl rfl (Nat.le_of_ble_eq_true rfl) rfl dX6_shelf_10 ?_
  refine J_ifB_ne (tgt := 18) 13 dX6_shelf_13 (by decide) (fun c_2_ => ?_) (fun c_2_ => ?_)
  · skip
    refine J_aload_n 18 0 dX6_shelf_18 rfl rfl ?_
    refine g_808 (v := .ref mho) 19 0 rfl rfl dX6_shelf_19 ?_
    refine J_iload_n 22 1 dX6_shelf_22 rfl rfl ?_
    refine J_iload_n 23 2 dX6_shelf_23 rfl rfl ?_
    refine J_iconst (v := 2) 24 dX6_shelf_24 rfl ?_
    refine J_icmp_eq (tgt := 42) 25 dX6_shelf_25 (by decide) (fun c_3_ => absurd c_3_ (by decide)) (fun _ => ?_)
    refine J_iload_n 28 2 dX6_shelf_28 rfl rfl ?_
    refine J_iconst (v := 1) 29 dX6_shelf_29 rfl ?_
    refine J_icmp_ne (tgt := 46) 30 dX6_shelf_30 (by decide) (fun c_4_ => absurd c_4_ (by decide)) (fun _ => ?_)
    refine J_aload_n 33 0 dX6_shelf_33 rfl rfl ?_
    refine g_805 (v := .ref ss) 34 0 rfl rfl dX6_shelf_34 ?_
    refine J_iload_n 37 3 dX6_shelf_37 rfl rfl ?_
    refine J_iald 38 1 q rfl rfl (by omega) (by decide) dX6_shelf_38 ?_
    refine J_if_ge (tgt := 46) 39 dX6_shelf_39 (by decide) (fun c_5_ => ?_) (fun c_5_ => ?_)
    · skip
      refine J_iload_n 46 2 dX6_shelf_46 rfl rfl ?_
      refine J_iast (ws' := (wF [wMo o rw fr kp tr ik tp tm mso bg en wd va gd rs mu rm ss msz msh mho mhn mhz kd nb tn tc bo ip, wI G ss 4 ssf, wI G msz 4 szf, wI G mho 4 (upd hof s 1), wI G mhn 4 hnf, wI G mhz 4 hzf])) 47 3 s rfl rfl (by omega) (by decide) rfl dX6_shelf_47 ?_
      refine J_aload_n 48 0 dX6_shelf_48 rfl rfl ?_
      refine g_809 (v := .ref mhn) 49 0 rfl rfl dX6_shelf_49 ?_
      refine J_iload_n 52 1 dX6_shelf_52 rfl rfl ?_
      refine J_iload_n 53 2 dX6_shelf_53 rfl rfl ?_
      refine J_iconst (v := 1) 54 dX6_shelf_54 rfl ?_
      refine J_icmp_ne (tgt := 67) 55 dX6_shelf_55 (by decide) (fun c_6_ => absurd c_6_ (by decide)) (fun _ => ?_)
      refine J_aload_n 58 0 dX6_shelf_58 rfl rfl ?_
      refine g_805 (v := .ref ss) 59 0 rfl rfl dX6_shelf_59 ?_
      refine J_iload_n 62 3 dX6_shelf_62 rfl rfl ?_
      refine J_iald 63 1 q rfl rfl (by omega) (by decide) dX6_shelf_63 ?_
      refine J_goto (tgt := 68) 64 dX6_shelf_64 (by decide) ?_
      refine J_iast (ws' := (wF [wMo o rw fr kp tr ik tp tm mso bg en wd va gd rs mu rm ss msz msh mho mhn mhz kd nb tn tc bo ip, wI G ss 4 ssf, wI G msz 4 szf, wI G mho 4 (upd hof s 1), wI G mhn 4 (upd hnf s (ssf q)), wI G mhz 4 hzf])) 68 4 s rfl rfl (by omega) (by decide) rfl dX6_shelf_68 ?_
      refine J_aload_n 69 0 dX6_shelf_69 rfl rfl ?_
      refine g_810 (v := .ref mhz) 70 0 rfl rfl dX6_shelf_70 ?_
      refine J_iload_n 73 1 dX6_shelf_73 rfl rfl ?_
      refine J_iload_n 74 2 dX6_shelf_74 rfl rfl ?_
      refine J_iconst (v := 1) 75 dX6_shelf_75 rfl ?_
      refine J_icmp_ne (tgt := 88) 76 dX6_shelf_76 (by decide) (fun c_7_ => absurd c_7_ (by decide)) (fun _ => ?_)
      refine J_aload_n 79 0 dX6_shelf_79 rfl rfl ?_
      refine g_806 (v := .ref msz) 80 0 rfl rfl dX6_shelf_80 ?_
      refine J_iload_n 83 3 dX6_shelf_83 rfl rfl ?_
      refine J_iald 84 2 q rfl rfl (by omega) (by decide) dX6_shelf_84 ?_
      refine J_goto (tgt := 89) 85 dX6_shelf_85 (by decide) ?_
      refine J_iast (ws' := (wF [wMo o rw fr kp tr ik tp tm mso bg en wd va gd rs mu rm ss msz msh mho mhn mhz kd nb tn tc bo ip, wI G ss 4 ssf, wI G msz 4 szf, wI G mho 4 (upd hof s 1), wI G mhn 4 (upd hnf s (ssf q)), wI G mhz 4 (upd hzf s (szf q))])) 89 5 s rfl rfl (by omega) (by decide) rfl dX6_shelf_89 ?_
      refine J_iconst (v := 1) 90 dX6_shelf_90 rfl ?_
      exact J_iret 91 dX6_shelf_91 rfl rfl
    · skip
      exact absurd (Int32.not_le.mp c_5_) hso
  · skip
    exact absurd (inL_t (m := 3) hq (by decide)) c_2_
set_option maxRecDepth 100000 in
set_option maxHeartbeats 4000000 in
theorem c_X6_shelf_2 (l : Launch) (G : Gd) (s : Nat) (n : Int32) (o : Nat) (rw : Nat) (fr : Nat) (kp : Nat) (tr : Nat) (ik : Int32) (tp : Nat) (tm : Nat) (mso : Int32) (bg : Nat) (en : Nat) (wd : Int64) (va : Int32) (gd : Int32) (rs : Nat) (mu : Nat) (rm : Nat) (ss : Nat) (msz : Nat) (msh : Nat) (mho : Nat) (mhn : Nat) (mhz : Nat) (kd : Int32) (nb : Int32) (tn : Int32) (tc : Nat) (bo : Nat) (ip : Int32) (hof : Nat → Int32) (hnf : Nat → Int32) (hzf : Nat → Int32) (hs : s ≤ 3) : Ct l G yX6_shelf cX6_shelf 4 (some (FieldType.int)) 3 [.ref o, .int (nI s), .int 2, .int n] (wF [wMo o rw fr kp tr ik tp tm mso bg en wd va gd rs mu rm ss msz msh mho mhn mhz kd nb tn tc bo ip, wI G mho 4 hof, wI G mhn 4 hnf, wI G mhz 4 hzf]) (some (.int 1)) (wF [wMo o rw fr kp tr ik tp tm mso bg en wd va gd rs mu rm ss msz msh mho mhn mhz kd nb tn tc bo ip, wI G mho 4 (upd hof s (-1)), wI G mhn 4 (upd hnf s n), wI G mhz 4 (upd hzf s 0)]) := by
  refine Ct.of "GooseArmsModel" [some (.ref o), some (.int (nI s)), some (.int 2), some (.int n)] (by decide +kernel) rfl (Nat.le_of_ble_eq_true rfl) rfl ?_
  refine J_iload_n 0 1 dX6_shelf_0 rfl rfl ?_
  refine kb_RX6_262 (bs' := [wMo o rw fr kp tr ik tp tm mso bg en wd va gd rs mu rm ss msz msh mho mhn mhz kd nb tn tc bo ip, wI G mho 4 hof, wI G mhn 4 hnf, wI G mhz 4 hzf]) (rest := []) (st' := [.int 1]) 1 (c_X6_isShelf_t l G s (by first | omega | assumption)) [] rfl rfl [] rfl rfl rfl rfl rfl rfl (Nat.le_of_ble_eq_true rfl) rfl dX6_shelf_1 ?_
  refine J_if_eq (tgt := 16) 4 dX6_shelf_4 (by decide) (fun c_1_ => absurd c_1_ (by decide)) (fun _ => ?_)
  refine J_aload_n 7 0 dX6_shelf_7 rfl rfl ?_
  refine J_iload_n 8 2 dX6_shelf_8 rfl rfl ?_
  refine J_iload_n 9 3 dX6_shelf_9 rfl rfl ?_
  refine kb_RX6_287 (bs' := [wMo o rw fr kp tr ik tp tm mso bg en wd va gd rs mu rm ss msz msh mho mhn mhz kd nb tn tc bo ip, wI G mho 4 hof, wI G mhn 4 hnf, wI G mhz 4 hzf]) (rest := []) (st' := [.int 1]) 10 (c_X6_isHeld_2 l G n o rw fr kp tr ik tp tm mso bg en wd va gd rs mu rm ss msz msh mho mhn mhz kd nb tn tc bo ip ) [0] 0 rfl rfl rfl [[o]] rfl rfl rfl rfl rfl rfl (Nat.le_of_ble_eq_true rfl) rfl dX6_shelf_10 ?_
  refine J_if_ne (tgt := 18) 13 dX6_shelf_13 (by decide) (fun _ => ?_) (fun c_2_ => absurd c_2_ (by decide))
  refine J_aload_n 18 0 dX6_shelf_18 rfl rfl ?_
  refine g_808 (v := .ref mho) 19 0 rfl rfl dX6_shelf_19 ?_
  refine J_iload_n 22 1 dX6_shelf_22 rfl rfl ?_
  refine J_iload_n 23 2 dX6_shelf_23 rfl rfl ?_
  refine J_iconst (v := 2) 24 dX6_shelf_24 rfl ?_
  refine J_icmp_eq (tgt := 42) 25 dX6_shelf_25 (by decide) (fun _ => ?_) (fun c_3_ => absurd c_3_ (by decide))
  refine J_iconst (v := (-1)) 42 dX6_shelf_42 rfl ?_
  refine J_goto (tgt := 47) 43 dX6_shelf_43 (by decide) ?_
  refine J_iast (ws' := (wF [wMo o rw fr kp tr ik tp tm mso bg en wd va gd rs mu rm ss msz msh mho mhn mhz kd nb tn tc bo ip, wI G mho 4 (upd hof s (-1)), wI G mhn 4 hnf, wI G mhz 4 hzf])) 47 1 s rfl rfl (by omega) (by decide) rfl dX6_shelf_47 ?_
  refine J_aload_n 48 0 dX6_shelf_48 rfl rfl ?_
  refine g_809 (v := .ref mhn) 49 0 rfl rfl dX6_shelf_49 ?_
  refine J_iload_n 52 1 dX6_shelf_52 rfl rfl ?_
  refine J_iload_n 53 2 dX6_shelf_53 rfl rfl ?_
  refine J_iconst (v := 1) 54 dX6_shelf_54 rfl ?_
  refine J_icmp_ne (tgt := 67) 55 dX6_shelf_55 (by decide) (fun _ => ?_) (fun c_4_ => absurd c_4_ (by decide))
  refine J_iload_n 67 3 dX6_shelf_67 rfl rfl ?_
  refine J_iast (ws' := (wF [wMo o rw fr kp tr ik tp tm mso bg en wd va gd rs mu rm ss msz msh mho mhn mhz kd nb tn tc bo ip, wI G mho 4 (upd hof s (-1)), wI G mhn 4 (upd hnf s n), wI G mhz 4 hzf])) 68 2 s rfl rfl (by omega) (by decide) rfl dX6_shelf_68 ?_
  refine J_aload_n 69 0 dX6_shelf_69 rfl rfl ?_
  refine g_810 (v := .ref mhz) 70 0 rfl rfl dX6_shelf_70 ?_
  refine J_iload_n 73 1 dX6_shelf_73 rfl rfl ?_
  refine J_iload_n 74 2 dX6_shelf_74 rfl rfl ?_
  refine J_iconst (v := 1) 75 dX6_shelf_75 rfl ?_
  refine J_icmp_ne (tgt := 88) 76 dX6_shelf_76 (by decide) (fun _ => ?_) (fun c_5_ => absurd c_5_ (by decide))
  refine J_iconst (v := 0) 88 dX6_shelf_88 rfl ?_
  refine J_iast (ws' := (wF [wMo o rw fr kp tr ik tp tm mso bg en wd va gd rs mu rm ss msz msh mho mhn mhz kd nb tn tc bo ip, wI G mho 4 (upd hof s (-1)), wI G mhn 4 (upd hnf s n), wI G mhz 4 (upd hzf s 0)])) 89 3 s rfl rfl (by omega) (by decide) rfl dX6_shelf_89 ?_
  refine J_iconst (v := 1) 90 dX6_shelf_90 rfl ?_
  exact J_iret 91 dX6_shelf_91 rfl rfl
set_option maxRecDepth 100000 in
set_option maxHeartbeats 4000000 in
theorem c_X6_kindOn_e (l : Launch) (G : Gd) (s : Nat) (o : Nat) (rw : Nat) (fr : Nat) (kp : Nat) (tr : Nat) (ik : Int32) (tp : Nat) (tm : Nat) (mso : Int32) (bg : Nat) (en : Nat) (wd : Int64) (va : Int32) (gd : Int32) (rs : Nat) (mu : Nat) (rm : Nat) (ss : Nat) (msz : Nat) (msh : Nat) (mho : Nat) (mhn : Nat) (mhz : Nat) (kd : Int32) (nb : Int32) (tn : Int32) (tc : Nat) (bo : Nat) (ip : Int32) (hof : Nat → Int32) (hs : s ≤ 3) (hho : hof s = -1) : Ct l G yX6_kindOn cX6_kindOn 2 (some (FieldType.int)) 2 [.ref o, .int (nI s)] (wF [wMo o rw fr kp tr ik tp tm mso bg en wd va gd rs mu rm ss msz msh mho mhn mhz kd nb tn tc bo ip, wI G mho 4 hof]) (some (.int (-1))) (wF [wMo o rw fr kp tr ik tp tm mso bg en wd va gd rs mu rm ss msz msh mho mhn mhz kd nb tn tc bo ip, wI G mho 4 hof]) := by
  refine Ct.of "GooseArmsModel" [some (.ref o), some (.int (nI s))] (by decide +kernel) rfl (Nat.le_of_ble_eq_true rfl) rfl ?_
  refine J_aload_n 0 0 dX6_kindOn_0 rfl rfl ?_
  refine g_808 (v := .ref mho) 1 0 rfl rfl dX6_kindOn_1 ?_
  refine J_iload_n 4 1 dX6_kindOn_4 rfl rfl ?_
  refine J_iald 5 1 s rfl rfl (by omega) (by decide) dX6_kindOn_5 ?_
  refine J_topi (y := (-1)) 6 hho ?_
  refine J_if_eq (tgt := 25) 6 dX6_kindOn_6 (by decide) (fun c_1_ => absurd c_1_ (by decide)) (fun _ => ?_)
  refine J_aload_n 9 0 dX6_kindOn_9 rfl rfl ?_
  refine g_808 (v := .ref mho) 10 0 rfl rfl dX6_kindOn_10 ?_
  refine J_iload_n 13 1 dX6_kindOn_13 rfl rfl ?_
  refine J_iald 14 1 s rfl rfl (by omega) (by decide) dX6_kindOn_14 ?_
  refine J_topi (y := (-1)) 15 hho ?_
  refine J_if_ge (tgt := 22) 15 dX6_kindOn_15 (by decide) (fun c_2_ => absurd c_2_ (by decide)) (fun _ => ?_)
  refine J_iconst (v := (-1)) 18 dX6_kindOn_18 rfl ?_
  refine J_goto (tgt := 24) 19 dX6_kindOn_19 (by decide) ?_
  exact J_iret 24 dX6_kindOn_24 rfl rfl
set_option maxRecDepth 100000 in
set_option maxHeartbeats 4000000 in
theorem c_X6_kindOn_r (l : Launch) (G : Gd) (s : Nat) (o : Nat) (rw : Nat) (fr : Nat) (kp : Nat) (tr : Nat) (ik : Int32) (tp : Nat) (tm : Nat) (mso : Int32) (bg : Nat) (en : Nat) (wd : Int64) (va : Int32) (gd : Int32) (rs : Nat) (mu : Nat) (rm : Nat) (ss : Nat) (msz : Nat) (msh : Nat) (mho : Nat) (mhn : Nat) (mhz : Nat) (kd : Int32) (nb : Int32) (tn : Int32) (tc : Nat) (bo : Nat) (ip : Int32) (hof : Nat → Int32) (hs : s ≤ 3) (hho : hof s = 1) : Ct l G yX6_kindOn cX6_kindOn 2 (some (FieldType.int)) 2 [.ref o, .int (nI s)] (wF [wMo o rw fr kp tr ik tp tm mso bg en wd va gd rs mu rm ss msz msh mho mhn mhz kd nb tn tc bo ip, wI G mho 4 hof]) (some (.int 9)) (wF [wMo o rw fr kp tr ik tp tm mso bg en wd va gd rs mu rm ss msz msh mho mhn mhz kd nb tn tc bo ip, wI G mho 4 hof]) := by
  refine Ct.of "GooseArmsModel" [some (.ref o), some (.int (nI s))] (by decide +kernel) rfl (Nat.le_of_ble_eq_true rfl) rfl ?_
  refine J_aload_n 0 0 dX6_kindOn_0 rfl rfl ?_
  refine g_808 (v := .ref mho) 1 0 rfl rfl dX6_kindOn_1 ?_
  refine J_iload_n 4 1 dX6_kindOn_4 rfl rfl ?_
  refine J_iald 5 1 s rfl rfl (by omega) (by decide) dX6_kindOn_5 ?_
  refine J_topi (y := 1) 6 hho ?_
  refine J_if_eq (tgt := 25) 6 dX6_kindOn_6 (by decide) (fun c_1_ => absurd c_1_ (by decide)) (fun _ => ?_)
  refine J_aload_n 9 0 dX6_kindOn_9 rfl rfl ?_
  refine g_808 (v := .ref mho) 10 0 rfl rfl dX6_kindOn_10 ?_
  refine J_iload_n 13 1 dX6_kindOn_13 rfl rfl ?_
  refine J_iald 14 1 s rfl rfl (by omega) (by decide) dX6_kindOn_14 ?_
  refine J_topi (y := 1) 15 hho ?_
  refine J_if_ge (tgt := 22) 15 dX6_kindOn_15 (by decide) (fun _ => ?_) (fun c_2_ => absurd c_2_ (by decide))
  refine J_bipush (v := 9) 22 dX6_kindOn_22 rfl ?_
  exact J_iret 24 dX6_kindOn_24 rfl rfl
set_option maxRecDepth 100000 in
set_option maxHeartbeats 4000000 in
theorem c_X6_kindOn_h (l : Launch) (G : Gd) (s : Nat) (j : Nat) (o : Nat) (rw : Nat) (fr : Nat) (kp : Nat) (tr : Nat) (ik : Int32) (tp : Nat) (tm : Nat) (mso : Int32) (bg : Nat) (en : Nat) (wd : Int64) (va : Int32) (gd : Int32) (rs : Nat) (mu : Nat) (rm : Nat) (ss : Nat) (msz : Nat) (msh : Nat) (mho : Nat) (mhn : Nat) (mhz : Nat) (kd : Int32) (nb : Int32) (tn : Int32) (tc : Nat) (bo : Nat) (ip : Int32) (la : Nat → Int32) (ns : Nat) (sd : Nat) (to : Nat → Int32) (he : Nat → Int32) (sw : Nat → Int32) (nh : Nat) (ki : Nat → Int32) (te : Nat → Int32) (mi : Nat → Int32) (ar : Nat → Int32) (z : Int32) (hof : Nat → Int32) (hnf : Nat → Int32) (hs : s ≤ 3) (hho : hof s = 0) (hhn : hnf s = nI j) (hj : j < nh) (hnh : nh ≤ 8) : Ct l G yX6_kindOn cX6_kindOn 2 (some (FieldType.int)) 2 [.ref o, .int (nI s)] (wF [wMo o rw fr kp tr ik tp tm mso bg en wd va gd rs mu rm ss msz msh mho mhn mhz kd nb tn tc bo ip, wMr G rw la ns sd to he sw nh ki te mi ar z, wI G mho 4 hof, wI G mhn 4 hnf]) (some (.int (ki j))) (wF [wMo o rw fr kp tr ik tp tm mso bg en wd va gd rs mu rm ss msz msh mho mhn mhz kd nb tn tc bo ip, wMr G rw la ns sd to he sw nh ki te mi ar z, wI G mho 4 hof, wI G mhn 4 hnf]) := by
  refine Ct.of "GooseArmsModel" [some (.ref o), some (.int (nI s))] (by decide +kernel) rfl (Nat.le_of_ble_eq_true rfl) rfl ?_
  refine J_aload_n 0 0 dX6_kindOn_0 rfl rfl ?_
  refine g_808 (v := .ref mho) 1 0 rfl rfl dX6_kindOn_1 ?_
  refine J_iload_n 4 1 dX6_kindOn_4 rfl rfl ?_
  refine J_iald 5 2 s rfl rfl (by omega) (by decide) dX6_kindOn_5 ?_
  refine J_topi (y := 0) 6 hho ?_
  refine J_if_eq (tgt := 25) 6 dX6_kindOn_6 (by decide) (fun _ => ?_) (fun c_1_ => absurd c_1_ (by decide))
  refine J_aload_n 25 0 dX6_kindOn_25 rfl rfl ?_
  refine J_aload_n 26 0 dX6_kindOn_26 rfl rfl ?_
  refine g_809 (v := .ref mhn) 27 0 rfl rfl dX6_kindOn_27 ?_
  refine J_iload_n 30 1 dX6_kindOn_30 rfl rfl ?_
  refine J_iald 31 3 s rfl rfl (by omega) (by decide) dX6_kindOn_31 ?_
  refine J_topi (y := nI j) 32 hhn ?_
  refine kb_RX6_206 (bs' := [wMo o rw fr kp tr ik tp tm mso bg en wd va gd rs mu rm ss msz msh mho mhn mhz kd nb tn tc bo ip, wMr G rw la ns sd to he sw nh ki te mi ar z, wI G mho 4 hof, wI G mhn 4 hnf]) (rest := []) (st' := [.int 1]) 32 (c_X6_isOne_t l G j o rw fr kp tr ik tp tm mso bg en wd va gd rs mu rm ss msz msh mho mhn mhz kd nb tn tc bo ip la ns sd to he sw nh ki te mi ar z (by assumption) (by omega)) [0, 1] 0 rfl rfl rfl [[o], [rw]] rfl rfl rfl rfl rfl rfl (Nat.le_of_ble_eq_true rfl) rfl dX6_kindOn_32 ?_
  refine J_if_eq (tgt := 52) 35 dX6_kindOn_35 (by decide) (fun c_2_ => absurd c_2_ (by decide)) (fun _ => ?_)
  refine J_aload_n 38 0 dX6_kindOn_38 rfl rfl ?_
  refine J_aload_n 39 0 dX6_kindOn_39 rfl rfl ?_
  refine g_809 (v := .ref mhn) 40 0 rfl rfl dX6_kindOn_40 ?_
  refine J_iload_n 43 1 dX6_kindOn_43 rfl rfl ?_
  refine J_iald 44 3 s rfl rfl (by omega) (by decide) dX6_kindOn_44 ?_
  refine J_topi (y := nI j) 45 hhn ?_
  refine J_iconst (v := 0) 45 dX6_kindOn_45 rfl ?_
  refine kb_RX6_187 (bs' := [wMo o rw fr kp tr ik tp tm mso bg en wd va gd rs mu rm ss msz msh mho mhn mhz kd nb tn tc bo ip, wMr G rw la ns sd to he sw nh ki te mi ar z, wI G mho 4 hof, wI G mhn 4 hnf]) (rest := []) (st' := [.int (ki j)]) 46 (c_X6_its_0 l G j o rw fr kp tr ik tp tm mso bg en wd va gd rs mu rm ss msz msh mho mhn mhz kd nb tn tc bo ip la ns sd to he sw nh ki te mi ar z (by first | omega | assumption)) [0, 1] 0 rfl rfl rfl [[o], [rw]] rfl rfl rfl rfl rfl rfl (Nat.le_of_ble_eq_true rfl) rfl dX6_kindOn_46 ?_
  refine J_goto (tgt := 53) 49 dX6_kindOn_49 (by decide) ?_
  exact J_iret 53 dX6_kindOn_53 rfl rfl
set_option maxRecDepth 100000 in
set_option maxHeartbeats 4000000 in
theorem c_X6_kindOn_f (l : Launch) (G : Gd) (s : Nat) (o : Nat) (rw : Nat) (fr : Nat) (kp : Nat) (tr : Nat) (ik : Int32) (tp : Nat) (tm : Nat) (mso : Int32) (bg : Nat) (en : Nat) (wd : Int64) (va : Int32) (gd : Int32) (rs : Nat) (mu : Nat) (rm : Nat) (ss : Nat) (msz : Nat) (msh : Nat) (mho : Nat) (mhn : Nat) (mhz : Nat) (kd : Int32) (nb : Int32) (tn : Int32) (tc : Nat) (bo : Nat) (ip : Int32) (la : Nat → Int32) (ns : Nat) (sd : Nat) (to : Nat → Int32) (he : Nat → Int32) (sw : Nat → Int32) (nh : Nat) (ki : Nat → Int32) (te : Nat → Int32) (mi : Nat → Int32) (ar : Nat → Int32) (z : Int32) (hof : Nat → Int32) (hnf : Nat → Int32) (hs : s ≤ 3) (hho : hof s = 0) (hhn : ¬ (0 ≤ hnf s ∧ hnf s ≤ nI nh - 1)) : Ct l G yX6_kindOn cX6_kindOn 2 (some (FieldType.int)) 2 [.ref o, .int (nI s)] (wF [wMo o rw fr kp tr ik tp tm mso bg en wd va gd rs mu rm ss msz msh mho mhn mhz kd nb tn tc bo ip, wMr G rw la ns sd to he sw nh ki te mi ar z, wI G mho 4 hof, wI G mhn 4 hnf]) (some (.int (-1))) (wF [wMo o rw fr kp tr ik tp tm mso bg en wd va gd rs mu rm ss msz msh mho mhn mhz kd nb tn tc bo ip, wMr G rw la ns sd to he sw nh ki te mi ar z, wI G mho 4 hof, wI G mhn 4 hnf]) := by
  refine Ct.of "GooseArmsModel" [some (.ref o), some (.int (nI s))] (by decide +kernel) rfl (Nat.le_of_ble_eq_true rfl) rfl ?_
  refine J_aload_n 0 0 dX6_kindOn_0 rfl rfl ?_
  refine g_808 (v := .ref mho) 1 0 rfl rfl dX6_kindOn_1 ?_
  refine J_iload_n 4 1 dX6_kindOn_4 rfl rfl ?_
  refine J_iald 5 2 s rfl rfl (by omega) (by decide) dX6_kindOn_5 ?_
  refine J_topi (y := 0) 6 hho ?_
  refine J_if_eq (tgt := 25) 6 dX6_kindOn_6 (by decide) (fun _ => ?_) (fun c_1_ => absurd c_1_ (by decide))
  refine J_aload_n 25 0 dX6_kindOn_25 rfl rfl ?_
  refine J_aload_n 26 0 dX6_kindOn_26 rfl rfl ?_
  refine g_809 (v := .ref mhn) 27 0 rfl rfl dX6_kindOn_27 ?_
  refine J_iload_n 30 1 dX6_kindOn_30 rfl rfl ?_
  refine J_iald 31 3 s rfl rfl (by omega) (by decide) dX6_kindOn_31 ?_
  refine kb_RX6_206 (bs' := [wMo o rw fr kp tr ik tp tm mso bg en wd va gd rs mu rm ss msz msh mho mhn mhz kd nb tn tc bo ip, wMr G rw la ns sd to he sw nh ki te mi ar z, wI G mho 4 hof, wI G mhn 4 hnf]) (rest := []) (st' := [.int 0]) 32 (c_X6_isOne_f l G (hnf s) o rw fr kp tr ik tp tm mso bg en wd va gd rs mu rm ss msz msh mho mhn mhz kd nb tn tc bo ip la ns sd to he sw nh ki te mi ar z hhn) [0, 1] 0 rfl rfl rfl [[o], [rw]] rfl rfl rfl rfl rfl rfl (Nat.le_of_ble_eq_true rfl) rfl dX6_kindOn_32 ?_
  refine J_if_eq (tgt := 52) 35 dX6_kindOn_35 (by decide) (fun _ => ?_) (fun c_2_ => absurd c_2_ (by decide))
  refine J_iconst (v := (-1)) 52 dX6_kindOn_52 rfl ?_
  exact J_iret 53 dX6_kindOn_53 rfl rfl
set_option maxRecDepth 100000 in
set_option maxHeartbeats 4000000 in
theorem c_X6_isUnder (l : Launch) (G : Gd) (k1 : Int32) (as : Int32)  : Ct l G yX6_isUnder cX6_isUnder 2 (some (FieldType.boolean)) 0 [.int k1, .int as] (wF []) (some (.int (bI (fUnM k1 as)))) (wF []) := by
  refine Ct.of "GooseArmsModel" [some (.int k1), some (.int as)] (by decide +kernel) rfl (Nat.le_of_ble_eq_true rfl) rfl ?_
  refine J_iload_n 0 1 dX6_isUnder_0 rfl rfl ?_
  refine J_if_eq (tgt := 29) 1 dX6_isUnder_1 (by decide) (fun c_1_ => ?_) (fun c_1_ => ?_)
  · skip
    refine J_iconst (v := 1) 29 dX6_isUnder_29 rfl ?_
    refine J_goto (tgt := 34) 30 dX6_isUnder_30 (by decide) ?_
    exact J_zret 34 rfl dX6_isUnder_34 (congrArg (fun x_ => some (Value.int x_)) (bI_t (by unfold fUnM; grind)).symm) rfl
  · skip
    refine J_iload_n 4 1 dX6_isUnder_4 rfl rfl ?_
    refine J_iload_n 5 0 dX6_isUnder_5 rfl rfl ?_
    refine J_icmp_eq (tgt := 29) 6 dX6_isUnder_6 (by decide) (fun c_2_ => ?_) (fun c_2_ => ?_)
    · skip
      refine J_iconst (v := 1) 29 dX6_isUnder_29 rfl ?_
      refine J_goto (tgt := 34) 30 dX6_isUnder_30 (by decide) ?_
      exact J_zret 34 rfl dX6_isUnder_34 (congrArg (fun x_ => some (Value.int x_)) (bI_t (by unfold fUnM; grind)).symm) rfl
    · skip
      refine J_iload_n 9 1 dX6_isUnder_9 rfl rfl ?_
      refine J_iconst (v := 1) 10 dX6_isUnder_10 rfl ?_
      refine J_icmp_ne (tgt := 19) 11 dX6_isUnder_11 (by decide) (fun c_3_ => ?_) (fun c_3_ => ?_)
      · skip
        refine J_iload_n 19 1 dX6_isUnder_19 rfl rfl ?_
        refine J_iconst (v := 2) 20 dX6_isUnder_20 rfl ?_
        refine J_icmp_ne (tgt := 33) 21 dX6_isUnder_21 (by decide) (fun c_4_ => ?_) (fun c_4_ => ?_)
        · skip
          refine J_iconst (v := 0) 33 dX6_isUnder_33 rfl ?_
          exact J_zret 34 rfl dX6_isUnder_34 (congrArg (fun x_ => some (Value.int x_)) (bI_f (by unfold fUnM; grind)).symm) rfl
        · skip
          refine J_iload_n 24 0 dX6_isUnder_24 rfl rfl ?_
          refine J_iconst (v := 4) 25 dX6_isUnder_25 rfl ?_
          refine J_icmp_ne (tgt := 33) 26 dX6_isUnder_26 (by decide) (fun c_5_ => ?_) (fun c_5_ => ?_)
          · skip
            refine J_iconst (v := 0) 33 dX6_isUnder_33 rfl ?_
            exact J_zret 34 rfl dX6_isUnder_34 (congrArg (fun x_ => some (Value.int x_)) (bI_f (by unfold fUnM; grind)).symm) rfl
          · skip
            refine J_iconst (v := 1) 29 dX6_isUnder_29 rfl ?_
            refine J_goto (tgt := 34) 30 dX6_isUnder_30 (by decide) ?_
            exact J_zret 34 rfl dX6_isUnder_34 (congrArg (fun x_ => some (Value.int x_)) (bI_t (by unfold fUnM; grind)).symm) rfl
      · skip
        refine J_iload_n 14 0 dX6_isUnder_14 rfl rfl ?_
        refine J_iconst (v := 3) 15 dX6_isUnder_15 rfl ?_
        refine J_icmp_eq (tgt := 29) 16 dX6_isUnder_16 (by decide) (fun c_6_ => ?_) (fun c_6_ => ?_)
        · skip
          refine J_iconst (v := 1) 29 dX6_isUnder_29 rfl ?_
          refine J_goto (tgt := 34) 30 dX6_isUnder_30 (by decide) ?_
          exact J_zret 34 rfl dX6_isUnder_34 (congrArg (fun x_ => some (Value.int x_)) (bI_t (by unfold fUnM; grind)).symm) rfl
        · skip
          refine J_iload_n 19 1 dX6_isUnder_19 rfl rfl ?_
          refine J_iconst (v := 2) 20 dX6_isUnder_20 rfl ?_
          refine J_icmp_ne (tgt := 33) 21 dX6_isUnder_21 (by decide) (fun c_7_ => ?_) (fun c_7_ => ?_)
          · skip
            refine J_iconst (v := 0) 33 dX6_isUnder_33 rfl ?_
            exact J_zret 34 rfl dX6_isUnder_34 (congrArg (fun x_ => some (Value.int x_)) (bI_f (by unfold fUnM; grind)).symm) rfl
          · skip
            refine J_iload_n 24 0 dX6_isUnder_24 rfl rfl ?_
            refine J_iconst (v := 4) 25 dX6_isUnder_25 rfl ?_
            refine J_icmp_ne (tgt := 33) 26 dX6_isUnder_26 (by decide) (fun c_8_ => ?_) (fun c_8_ => ?_)
            · skip
              refine J_iconst (v := 0) 33 dX6_isUnder_33 rfl ?_
              exact J_zret 34 rfl dX6_isUnder_34 (congrArg (fun x_ => some (Value.int x_)) (bI_f (by unfold fUnM; grind)).symm) rfl
            · skip
              refine J_iconst (v := 1) 29 dX6_isUnder_29 rfl ?_
              refine J_goto (tgt := 34) 30 dX6_isUnder_30 (by decide) ?_
              exact J_zret 34 rfl dX6_isUnder_34 (congrArg (fun x_ => some (Value.int x_)) (bI_t (by unfold fUnM; grind)).symm) rfl
set_option maxRecDepth 100000 in
set_option maxHeartbeats 4000000 in
theorem c_X6_taken_bad (l : Launch) (G : Gd) (s : Int32) (a : Int32) (o : Nat) (rw : Nat) (fr : Nat) (kp : Nat) (tr : Nat) (ik : Int32) (tp : Nat) (tm : Nat) (mso : Int32) (bg : Nat) (en : Nat) (wd : Int64) (va : Int32) (gd : Int32) (rs : Nat) (mu : Nat) (rm : Nat) (ss : Nat) (msz : Nat) (msh : Nat) (mho : Nat) (mhn : Nat) (mhz : Nat) (kd : Int32) (nb : Int32) (tn : Int32) (tc : Nat) (bo : Nat) (ip : Int32) (hw : ¬ ((0 ≤ s ∧ s ≤ 3) ∧ ((10 ≤ a ∧ a ≤ 13) ∨ (0 ≤ a ∧ a ≤ 5)))) : Ct l G yX6_taken cX6_taken 4 (some (FieldType.int)) 3 [.ref o, .int s, .int a] (wF [wMo o rw fr kp tr ik tp tm mso bg en wd va gd rs mu rm ss msz msh mho mhn mhz kd nb tn tc bo ip]) (some (.int (-1))) (wF [wMo o rw fr kp tr ik tp tm mso bg en wd va gd rs mu rm ss msz msh mho mhn mhz kd nb tn tc bo ip]) := by
  refine Ct.of "GooseArmsModel" [some (.ref o), some (.int s), some (.int a), none] (by decide +kernel) rfl (Nat.le_of_ble_eq_true rfl) rfl ?_
  refine J_iload_n 0 1 dX6_taken_0 rfl rfl ?_
  refine kb_RX6_262 (bs' := [wMo o rw fr kp tr ik tp tm mso bg en wd va gd rs mu rm ss msz msh mho mhn mhz kd nb tn tc bo ip]) (rest := []) (st' := [.int (bI (0 ≤ s ∧ s ≤ 3))]) 1 (c_X6_isShelf l G s ) [] rfl rfl [] rfl rfl rfl rfl rfl rfl (Nat.le_of_ble_eq_true rfl) rfl dX6_taken_1 ?_
  refine J_ifB_eq (tgt := 27) 4 dX6_taken_4 (by decide) (fun c_1_ => ?_) (fun c_1_ => ?_)
  · skip
    refine J_iconst (v := (-1)) 27 dX6_taken_27 rfl ?_
    exact J_iret 28 dX6_taken_28 rfl rfl
  · skip
    refine J_iload_n 7 2 dX6_taken_7 rfl rfl ?_
    refine J_iconst (v := 0) 8 dX6_taken_8 rfl ?_
    refine J_iconst (v := 5) 9 dX6_taken_9 rfl ?_
    refine kb_RX6_57 (bs' := [wMo o rw fr kp tr ik tp tm mso bg en wd va gd rs mu rm ss msz msh mho mhn mhz kd nb tn tc bo ip]) (rest := []) (st' := [.int (bI (0 ≤ a ∧ a ≤ 5))]) 10 (c_X6_in l G a 0 5 ) [] rfl rfl [] rfl rfl rfl rfl rfl rfl (Nat.le_of_ble_eq_true rfl) rfl dX6_taken_10 ?_
    refine J_ifB_ne (tgt := 29) 13 dX6_taken_13 (by decide) (fun c_2_ => ?_) (fun c_2_ => ?_)
    · skip
      exact absurd ⟨by assumption, Or.inr (by assumption)⟩ hw
    · skip
      refine J_iload_n 16 2 dX6_taken_16 rfl rfl ?_
      refine J_bipush (v := 10) 17 dX6_taken_17 rfl ?_
      refine J_bipush (v := 13) 19 dX6_taken_19 rfl ?_
      refine kb_RX6_57 (bs' := [wMo o rw fr kp tr ik tp tm mso bg en wd va gd rs mu rm ss msz msh mho mhn mhz kd nb tn tc bo ip]) (rest := []) (st' := [.int (bI (10 ≤ a ∧ a ≤ 13))]) 21 (c_X6_in l G a 10 13 ) [] rfl rfl [] rfl rfl rfl rfl rfl rfl (Nat.le_of_ble_eq_true rfl) rfl dX6_taken_21 ?_
      refine J_ifB_ne (tgt := 29) 24 dX6_taken_24 (by decide) (fun c_3_ => ?_) (fun c_3_ => ?_)
      · skip
        exact absurd ⟨by assumption, Or.inl (by assumption)⟩ hw
      · skip
        refine J_iconst (v := (-1)) 27 dX6_taken_27 rfl ?_
        exact J_iret 28 dX6_taken_28 rfl rfl
set_option maxRecDepth 100000 in
set_option maxHeartbeats 4000000 in
theorem c_X6_taken_row (l : Launch) (G : Gd) (s : Nat) (a : Int32) (o : Nat) (rw : Nat) (fr : Nat) (kp : Nat) (tr : Nat) (ik : Int32) (tp : Nat) (tm : Nat) (mso : Int32) (bg : Nat) (en : Nat) (wd : Int64) (va : Int32) (gd : Int32) (rs : Nat) (mu : Nat) (rm : Nat) (ss : Nat) (msz : Nat) (msh : Nat) (mho : Nat) (mhn : Nat) (mhz : Nat) (kd : Int32) (nb : Int32) (tn : Int32) (tc : Nat) (bo : Nat) (ip : Int32) (hof : Nat → Int32) (hnf : Nat → Int32) (hzf : Nat → Int32) (hs : s ≤ 3) (hv : (10 ≤ a ∧ a ≤ 13) ∨ (0 ≤ a ∧ a ≤ 5)) (hho : hof s = 1) : Ct l G yX6_taken cX6_taken 4 (some (FieldType.int)) 3 [.ref o, .int (nI s), .int a] (wF [wMo o rw fr kp tr ik tp tm mso bg en wd va gd rs mu rm ss msz msh mho mhn mhz kd nb tn tc bo ip, wI G mho 4 hof, wI G mhn 4 hnf, wI G mhz 4 hzf]) (some (.int (cif (a = 10 + hnf s) (hzf s) (-13)))) (wF [wMo o rw fr kp tr ik tp tm mso bg en wd va gd rs mu rm ss msz msh mho mhn mhz kd nb tn tc bo ip, wI G mho 4 hof, wI G mhn 4 hnf, wI G mhz 4 hzf]) := by
  refine Ct.of "GooseArmsModel" [some (.ref o), some (.int (nI s)), some (.int a), none] (by decide +kernel) rfl (Nat.le_of_ble_eq_true rfl) rfl ?_
  refine J_iload_n 0 1 dX6_taken_0 rfl rfl ?_
  refine kb_RX6_262 (bs' := [wMo o rw fr kp tr ik tp tm mso bg en wd va gd rs mu rm ss msz msh mho mhn mhz kd nb tn tc bo ip, wI G mho 4 hof, wI G mhn 4 hnf, wI G mhz 4 hzf]) (rest := []) (st' := [.int 1]) 1 (c_X6_isShelf_t l G s (by first | omega | assumption)) [] rfl rfl [] rfl rfl rfl rfl rfl rfl (Nat.le_of_ble_eq_true rfl) rfl dX6_taken_1 ?_
  refine J_if_eq (tgt := 27) 4 dX6_taken_4 (by decide) (fun c_1_ => absurd c_1_ (by decide)) (fun _ => ?_)
  refine J_iload_n 7 2 dX6_taken_7 rfl rfl ?_
  refine J_iconst (v := 0) 8 dX6_taken_8 rfl ?_
  refine J_iconst (v := 5) 9 dX6_taken_9 rfl ?_
  refine kb_RX6_57 (bs' := [wMo o rw fr kp tr ik tp tm mso bg en wd va gd rs mu rm ss msz msh mho mhn mhz kd nb tn tc bo ip, wI G mho 4 hof, wI G mhn 4 hnf, wI G mhz 4 hzf]) (rest := []) (st' := [.int (bI (0 ≤ a ∧ a ≤ 5))]) 10 (c_X6_in l G a 0 5 ) [] rfl rfl [] rfl rfl rfl rfl rfl rfl (Nat.le_of_ble_eq_true rfl) rfl dX6_taken_10 ?_
  refine J_ifB_ne (tgt := 29) 13 dX6_taken_13 (by decide) (fun c_2_ => ?_) (fun c_2_ => ?_)
  · skip
    refine J_aload_n 29 0 dX6_taken_29 rfl rfl ?_
    refine J_iload_n 30 1 dX6_taken_30 rfl rfl ?_
    refine kb_RX6_290 (bs' := [wMo o rw fr kp tr ik tp tm mso bg en wd va gd rs mu rm ss msz msh mho mhn mhz kd nb tn tc bo ip, wI G mho 4 hof, wI G mhn 4 hnf, wI G mhz 4 hzf]) (rest := []) (st' := [.int 9]) 31 (c_X6_kindOn_r l G s o rw fr kp tr ik tp tm mso bg en wd va gd rs mu rm ss msz msh mho mhn mhz kd nb tn tc bo ip hof (by first | omega | assumption) (by first | omega | assumption)) [0, 1] 0 rfl rfl rfl [[o], [mho]] rfl rfl rfl rfl rfl rfl (Nat.le_of_ble_eq_true rfl) rfl dX6_taken_31 ?_
    refine J_istore_n (lv' := [some (.ref o), some (.int (nI s)), some (.int a), some (.int 9)]) 34 3 dX6_taken_34 rfl (by decide) rfl ?_
    refine J_iload_n 35 3 dX6_taken_35 rfl rfl ?_
    refine J_if_ge (tgt := 42) 36 dX6_taken_36 (by decide) (fun _ => ?_) (fun c_3_ => absurd c_3_ (by decide))
    refine J_iload_n 42 3 dX6_taken_42 rfl rfl ?_
    refine J_bipush (v := 9) 43 dX6_taken_43 rfl ?_
    refine J_icmp_ne (tgt := 73) 45 dX6_taken_45 (by decide) (fun c_4_ => absurd c_4_ (by decide)) (fun _ => ?_)
    refine J_iload_n 48 2 dX6_taken_48 rfl rfl ?_
    refine J_bipush (v := 10) 49 dX6_taken_49 rfl ?_
    refine J_aload_n 51 0 dX6_taken_51 rfl rfl ?_
    refine g_809 (v := .ref mhn) 52 0 rfl rfl dX6_taken_52 ?_
    refine J_iload_n 55 1 dX6_taken_55 rfl rfl ?_
    refine J_iald 56 2 s rfl rfl (by omega) (by decide) dX6_taken_56 ?_
    refine J_iadd 57 dX6_taken_57 ?_
    refine J_icmp_ne (tgt := 70) 58 dX6_taken_58 (by decide) (fun c_5_ => ?_) (fun c_5_ => ?_)
    · skip
      refine J_bipush (v := (-13)) 70 dX6_taken_70 rfl ?_
      exact J_iret 72 dX6_taken_72 (congrArg (fun x_ => some (Value.int x_)) (by first | exact (cif_t (by assumption)).symm | exact (cif_f (by assumption)).symm)) rfl
    · skip
      refine J_aload_n 61 0 dX6_taken_61 rfl rfl ?_
      refine g_810 (v := .ref mhz) 62 0 rfl rfl dX6_taken_62 ?_
      refine J_iload_n 65 1 dX6_taken_65 rfl rfl ?_
      refine J_iald 66 3 s rfl rfl (by omega) (by decide) dX6_taken_66 ?_
      refine J_goto (tgt := 72) 67 dX6_taken_67 (by decide) ?_
      exact J_iret 72 dX6_taken_72 (congrArg (fun x_ => some (Value.int x_)) (by first | exact (cif_t (by assumption)).symm | exact (cif_f (by assumption)).symm)) rfl
  · skip
    refine J_iload_n 16 2 dX6_taken_16 rfl rfl ?_
    refine J_bipush (v := 10) 17 dX6_taken_17 rfl ?_
    refine J_bipush (v := 13) 19 dX6_taken_19 rfl ?_
    refine kb_RX6_57 (bs' := [wMo o rw fr kp tr ik tp tm mso bg en wd va gd rs mu rm ss msz msh mho mhn mhz kd nb tn tc bo ip, wI G mho 4 hof, wI G mhn 4 hnf, wI G mhz 4 hzf]) (rest := []) (st' := [.int (bI (10 ≤ a ∧ a ≤ 13))]) 21 (c_X6_in l G a 10 13 ) [] rfl rfl [] rfl rfl rfl rfl rfl rfl (Nat.le_of_ble_eq_true rfl) rfl dX6_taken_21 ?_
    refine J_ifB_ne (tgt := 29) 24 dX6_taken_24 (by decide) (fun c_6_ => ?_) (fun c_6_ => ?_)
    · skip
      refine J_aload_n 29 0 dX6_taken_29 rfl rfl ?_
      refine J_iload_n 30 1 dX6_taken_30 rfl rfl ?_
      refine kb_RX6_290 (bs' := [wMo o rw fr kp tr ik tp tm mso bg en wd va gd rs mu rm ss msz msh mho mhn mhz kd nb tn tc bo ip, wI G mho 4 hof, wI G mhn 4 hnf, wI G mhz 4 hzf]) (rest := []) (st' := [.int 9]) 31 (c_X6_kindOn_r l G s o rw fr kp tr ik tp tm mso bg en wd va gd rs mu rm ss msz msh mho mhn mhz kd nb tn tc bo ip hof (by first | omega | assumption) (by first | omega | assumption)) [0, 1] 0 rfl rfl rfl [[o], [mho]] rfl rfl rfl rfl rfl rfl (Nat.le_of_ble_eq_true rfl) rfl dX6_taken_31 ?_
      refine J_istore_n (lv' := [some (.ref o), some (.int (nI s)), some (.int a), some (.int 9)]) 34 3 dX6_taken_34 rfl (by decide) rfl ?_
      refine J_iload_n 35 3 dX6_taken_35 rfl rfl ?_
      refine J_if_ge (tgt := 42) 36 dX6_taken_36 (by decide) (fun _ => ?_) (fun c_7_ => absurd c_7_ (by decide))
      refine J_iload_n 42 3 dX6_taken_42 rfl rfl ?_
      refine J_bipush (v := 9) 43 dX6_taken_43 rfl ?_
      refine J_icmp_ne (tgt := 73) 45 dX6_taken_45 (by decide) (fun c_8_ => absurd c_8_ (by decide)) (fun _ => ?_)
      refine J_iload_n 48 2 dX6_taken_48 rfl rfl ?_
      refine J_bipush (v := 10) 49 dX6_taken_49 rfl ?_
      refine J_aload_n 51 0 dX6_taken_51 rfl rfl ?_
      refine g_809 (v := .ref mhn) 52 0 rfl rfl dX6_taken_52 ?_
      refine J_iload_n 55 1 dX6_taken_55 rfl rfl ?_
      refine J_iald 56 2 s rfl rfl (by omega) (by decide) dX6_taken_56 ?_
      refine J_iadd 57 dX6_taken_57 ?_
      refine J_icmp_ne (tgt := 70) 58 dX6_taken_58 (by decide) (fun c_9_ => ?_) (fun c_9_ => ?_)
      · skip
        refine J_bipush (v := (-13)) 70 dX6_taken_70 rfl ?_
        exact J_iret 72 dX6_taken_72 (congrArg (fun x_ => some (Value.int x_)) (by first | exact (cif_t (by assumption)).symm | exact (cif_f (by assumption)).symm)) rfl
      · skip
        refine J_aload_n 61 0 dX6_taken_61 rfl rfl ?_
        refine g_810 (v := .ref mhz) 62 0 rfl rfl dX6_taken_62 ?_
        refine J_iload_n 65 1 dX6_taken_65 rfl rfl ?_
        refine J_iald 66 3 s rfl rfl (by omega) (by decide) dX6_taken_66 ?_
        refine J_goto (tgt := 72) 67 dX6_taken_67 (by decide) ?_
        exact J_iret 72 dX6_taken_72 (congrArg (fun x_ => some (Value.int x_)) (by first | exact (cif_t (by assumption)).symm | exact (cif_f (by assumption)).symm)) rfl
    · skip
      exact absurd hv (fun z_ => z_.elim (by assumption) (by assumption))
set_option maxRecDepth 100000 in
set_option maxHeartbeats 4000000 in
theorem c_X6_taken_e (l : Launch) (G : Gd) (s : Nat) (a : Int32) (o : Nat) (rw : Nat) (fr : Nat) (kp : Nat) (tr : Nat) (ik : Int32) (tp : Nat) (tm : Nat) (mso : Int32) (bg : Nat) (en : Nat) (wd : Int64) (va : Int32) (gd : Int32) (rs : Nat) (mu : Nat) (rm : Nat) (ss : Nat) (msz : Nat) (msh : Nat) (mho : Nat) (mhn : Nat) (mhz : Nat) (kd : Int32) (nb : Int32) (tn : Int32) (tc : Nat) (bo : Nat) (ip : Int32) (hof : Nat → Int32) (hs : s ≤ 3) (hv : (10 ≤ a ∧ a ≤ 13) ∨ (0 ≤ a ∧ a ≤ 5)) (hho : hof s = -1) : Ct l G yX6_taken cX6_taken 4 (some (FieldType.int)) 3 [.ref o, .int (nI s), .int a] (wF [wMo o rw fr kp tr ik tp tm mso bg en wd va gd rs mu rm ss msz msh mho mhn mhz kd nb tn tc bo ip, wI G mho 4 hof]) (some (.int (-11))) (wF [wMo o rw fr kp tr ik tp tm mso bg en wd va gd rs mu rm ss msz msh mho mhn mhz kd nb tn tc bo ip, wI G mho 4 hof]) := by
  refine Ct.of "GooseArmsModel" [some (.ref o), some (.int (nI s)), some (.int a), none] (by decide +kernel) rfl (Nat.le_of_ble_eq_true rfl) rfl ?_
  refine J_iload_n 0 1 dX6_taken_0 rfl rfl ?_
  refine kb_RX6_262 (bs' := [wMo o rw fr kp tr ik tp tm mso bg en wd va gd rs mu rm ss msz msh mho mhn mhz kd nb tn tc bo ip, wI G mho 4 hof]) (rest := []) (st' := [.int 1]) 1 (c_X6_isShelf_t l G s (by first | omega | assumption)) [] rfl rfl [] rfl rfl rfl rfl rfl rfl (Nat.le_of_ble_eq_true rfl) rfl dX6_taken_1 ?_
  refine J_if_eq (tgt := 27) 4 dX6_taken_4 (by decide) (fun c_1_ => absurd c_1_ (by decide)) (fun _ => ?_)
  refine J_iload_n 7 2 dX6_taken_7 rfl rfl ?_
  refine J_iconst (v := 0) 8 dX6_taken_8 rfl ?_
  refine J_iconst (v := 5) 9 dX6_taken_9 rfl ?_
  refine kb_RX6_57 (bs' := [wMo o rw fr kp tr ik tp tm mso bg en wd va gd rs mu rm ss msz msh mho mhn mhz kd nb tn tc bo ip, wI G mho 4 hof]) (rest := []) (st' := [.int (bI (0 ≤ a ∧ a ≤ 5))]) 10 (c_X6_in l G a 0 5 ) [] rfl rfl [] rfl rfl rfl rfl rfl rfl (Nat.le_of_ble_eq_true rfl) rfl dX6_taken_10 ?_
  refine J_ifB_ne (tgt := 29) 13 dX6_taken_13 (by decide) (fun c_2_ => ?_) (fun c_2_ => ?_)
  · skip
    refine J_aload_n 29 0 dX6_taken_29 rfl rfl ?_
    refine J_iload_n 30 1 dX6_taken_30 rfl rfl ?_
    refine kb_RX6_290 (bs' := [wMo o rw fr kp tr ik tp tm mso bg en wd va gd rs mu rm ss msz msh mho mhn mhz kd nb tn tc bo ip, wI G mho 4 hof]) (rest := []) (st' := [.int (-1)]) 31 (c_X6_kindOn_e l G s o rw fr kp tr ik tp tm mso bg en wd va gd rs mu rm ss msz msh mho mhn mhz kd nb tn tc bo ip hof (by first | omega | assumption) (by first | omega | assumption)) [0, 1] 0 rfl rfl rfl [[o], [mho]] rfl rfl rfl rfl rfl rfl (Nat.le_of_ble_eq_true rfl) rfl dX6_taken_31 ?_
    refine J_istore_n (lv' := [some (.ref o), some (.int (nI s)), some (.int a), some (.int (-1))]) 34 3 dX6_taken_34 rfl (by decide) rfl ?_
    refine J_iload_n 35 3 dX6_taken_35 rfl rfl ?_
    refine J_if_ge (tgt := 42) 36 dX6_taken_36 (by decide) (fun c_3_ => absurd c_3_ (by decide)) (fun _ => ?_)
    refine J_bipush (v := (-11)) 39 dX6_taken_39 rfl ?_
    exact J_iret 41 dX6_taken_41 rfl rfl
  · skip
    refine J_iload_n 16 2 dX6_taken_16 rfl rfl ?_
    refine J_bipush (v := 10) 17 dX6_taken_17 rfl ?_
    refine J_bipush (v := 13) 19 dX6_taken_19 rfl ?_
    refine kb_RX6_57 (bs' := [wMo o rw fr kp tr ik tp tm mso bg en wd va gd rs mu rm ss msz msh mho mhn mhz kd nb tn tc bo ip, wI G mho 4 hof]) (rest := []) (st' := [.int (bI (10 ≤ a ∧ a ≤ 13))]) 21 (c_X6_in l G a 10 13 ) [] rfl rfl [] rfl rfl rfl rfl rfl rfl (Nat.le_of_ble_eq_true rfl) rfl dX6_taken_21 ?_
    refine J_ifB_ne (tgt := 29) 24 dX6_taken_24 (by decide) (fun c_4_ => ?_) (fun c_4_ => ?_)
    · skip
      refine J_aload_n 29 0 dX6_taken_29 rfl rfl ?_
      refine J_iload_n 30 1 dX6_taken_30 rfl rfl ?_
      refine kb_RX6_290 (bs' := [wMo o rw fr kp tr ik tp tm mso bg en wd va gd rs mu rm ss msz msh mho mhn mhz kd nb tn tc bo ip, wI G mho 4 hof]) (rest := []) (st' := [.int (-1)]) 31 (c_X6_kindOn_e l G s o rw fr kp tr ik tp tm mso bg en wd va gd rs mu rm ss msz msh mho mhn mhz kd nb tn tc bo ip hof (by first | omega | assumption) (by first | omega | assumption)) [0, 1] 0 rfl rfl rfl [[o], [mho]] rfl rfl rfl rfl rfl rfl (Nat.le_of_ble_eq_true rfl) rfl dX6_taken_31 ?_
      refine J_istore_n (lv' := [some (.ref o), some (.int (nI s)), some (.int a), some (.int (-1))]) 34 3 dX6_taken_34 rfl (by decide) rfl ?_
      refine J_iload_n 35 3 dX6_taken_35 rfl rfl ?_
      refine J_if_ge (tgt := 42) 36 dX6_taken_36 (by decide) (fun c_5_ => absurd c_5_ (by decide)) (fun _ => ?_)
      refine J_bipush (v := (-11)) 39 dX6_taken_39 rfl ?_
      exact J_iret 41 dX6_taken_41 rfl rfl
    · skip
      exact absurd hv (fun z_ => z_.elim (by assumption) (by assumption))
set_option maxRecDepth 100000 in
set_option maxHeartbeats 4000000 in
theorem c_X6_taken_f (l : Launch) (G : Gd) (s : Nat) (a : Int32) (o : Nat) (rw : Nat) (fr : Nat) (kp : Nat) (tr : Nat) (ik : Int32) (tp : Nat) (tm : Nat) (mso : Int32) (bg : Nat) (en : Nat) (wd : Int64) (va : Int32) (gd : Int32) (rs : Nat) (mu : Nat) (rm : Nat) (ss : Nat) (msz : Nat) (msh : Nat) (mho : Nat) (mhn : Nat) (mhz : Nat) (kd : Int32) (nb : Int32) (tn : Int32) (tc : Nat) (bo : Nat) (ip : Int32) (la : Nat → Int32) (ns : Nat) (sd : Nat) (to : Nat → Int32) (he : Nat → Int32) (sw : Nat → Int32) (nh : Nat) (ki : Nat → Int32) (te : Nat → Int32) (mi : Nat → Int32) (ar : Nat → Int32) (z : Int32) (hof : Nat → Int32) (hnf : Nat → Int32) (hs : s ≤ 3) (hv : (10 ≤ a ∧ a ≤ 13) ∨ (0 ≤ a ∧ a ≤ 5)) (hho : hof s = 0) (hhn : ¬ (0 ≤ hnf s ∧ hnf s ≤ nI nh - 1)) : Ct l G yX6_taken cX6_taken 4 (some (FieldType.int)) 3 [.ref o, .int (nI s), .int a] (wF [wMo o rw fr kp tr ik tp tm mso bg en wd va gd rs mu rm ss msz msh mho mhn mhz kd nb tn tc bo ip, wMr G rw la ns sd to he sw nh ki te mi ar z, wI G mho 4 hof, wI G mhn 4 hnf]) (some (.int (-11))) (wF [wMo o rw fr kp tr ik tp tm mso bg en wd va gd rs mu rm ss msz msh mho mhn mhz kd nb tn tc bo ip, wMr G rw la ns sd to he sw nh ki te mi ar z, wI G mho 4 hof, wI G mhn 4 hnf]) := by
  refine Ct.of "GooseArmsModel" [some (.ref o), some (.int (nI s)), some (.int a), none] (by decide +kernel) rfl (Nat.le_of_ble_eq_true rfl) rfl ?_
  refine J_iload_n 0 1 dX6_taken_0 rfl rfl ?_
  refine kb_RX6_262 (bs' := [wMo o rw fr kp tr ik tp tm mso bg en wd va gd rs mu rm ss msz msh mho mhn mhz kd nb tn tc bo ip, wMr G rw la ns sd to he sw nh ki te mi ar z, wI G mho 4 hof, wI G mhn 4 hnf]) (rest := []) (st' := [.int 1]) 1 (c_X6_isShelf_t l G s (by first | omega | assumption)) [] rfl rfl [] rfl rfl rfl rfl rfl rfl (Nat.le_of_ble_eq_true rfl) rfl dX6_taken_1 ?_
  refine J_if_eq (tgt := 27) 4 dX6_taken_4 (by decide) (fun c_1_ => absurd c_1_ (by decide)) (fun _ => ?_)
  refine J_iload_n 7 2 dX6_taken_7 rfl rfl ?_
  refine J_iconst (v := 0) 8 dX6_taken_8 rfl ?_
  refine J_iconst (v := 5) 9 dX6_taken_9 rfl ?_
  refine kb_RX6_57 (bs' := [wMo o rw fr kp tr ik tp tm mso bg en wd va gd rs mu rm ss msz msh mho mhn mhz kd nb tn tc bo ip, wMr G rw la ns sd to he sw nh ki te mi ar z, wI G mho 4 hof, wI G mhn 4 hnf]) (rest := []) (st' := [.int (bI (0 ≤ a ∧ a ≤ 5))]) 10 (c_X6_in l G a 0 5 ) [] rfl rfl [] rfl rfl rfl rfl rfl rfl (Nat.le_of_ble_eq_true rfl) rfl dX6_taken_10 ?_
  refine J_ifB_ne (tgt := 29) 13 dX6_taken_13 (by decide) (fun c_2_ => ?_) (fun c_2_ => ?_)
  · skip
    refine J_aload_n 29 0 dX6_taken_29 rfl rfl ?_
    refine J_iload_n 30 1 dX6_taken_30 rfl rfl ?_
    refine kb_RX6_290 (bs' := [wMo o rw fr kp tr ik tp tm mso bg en wd va gd rs mu rm ss msz msh mho mhn mhz kd nb tn tc bo ip, wMr G rw la ns sd to he sw nh ki te mi ar z, wI G mho 4 hof, wI G mhn 4 hnf]) (rest := []) (st' := [.int (-1)]) 31 (c_X6_kindOn_f l G s o rw fr kp tr ik tp tm mso bg en wd va gd rs mu rm ss msz msh mho mhn mhz kd nb tn tc bo ip la ns sd to he sw nh ki te mi ar z hof hnf (by first | omega | assumption) (by first | omega | assumption) (by first | omega | assumption)) [0, 1, 2, 3] 0 rfl rfl rfl [[o], [rw], [mho], [mhn]] rfl rfl rfl rfl rfl rfl (Nat.le_of_ble_eq_true rfl) rfl dX6_taken_31 ?_
    refine J_istore_n (lv' := [some (.ref o), some (.int (nI s)), some (.int a), some (.int (-1))]) 34 3 dX6_taken_34 rfl (by decide) rfl ?_
    refine J_iload_n 35 3 dX6_taken_35 rfl rfl ?_
    refine J_if_ge (tgt := 42) 36 dX6_taken_36 (by decide) (fun c_3_ => absurd c_3_ (by decide)) (fun _ => ?_)
    refine J_bipush (v := (-11)) 39 dX6_taken_39 rfl ?_
    exact J_iret 41 dX6_taken_41 rfl rfl
  · skip
    refine J_iload_n 16 2 dX6_taken_16 rfl rfl ?_
    refine J_bipush (v := 10) 17 dX6_taken_17 rfl ?_
    refine J_bipush (v := 13) 19 dX6_taken_19 rfl ?_
    refine kb_RX6_57 (bs' := [wMo o rw fr kp tr ik tp tm mso bg en wd va gd rs mu rm ss msz msh mho mhn mhz kd nb tn tc bo ip, wMr G rw la ns sd to he sw nh ki te mi ar z, wI G mho 4 hof, wI G mhn 4 hnf]) (rest := []) (st' := [.int (bI (10 ≤ a ∧ a ≤ 13))]) 21 (c_X6_in l G a 10 13 ) [] rfl rfl [] rfl rfl rfl rfl rfl rfl (Nat.le_of_ble_eq_true rfl) rfl dX6_taken_21 ?_
    refine J_ifB_ne (tgt := 29) 24 dX6_taken_24 (by decide) (fun c_4_ => ?_) (fun c_4_ => ?_)
    · skip
      refine J_aload_n 29 0 dX6_taken_29 rfl rfl ?_
      refine J_iload_n 30 1 dX6_taken_30 rfl rfl ?_
      refine kb_RX6_290 (bs' := [wMo o rw fr kp tr ik tp tm mso bg en wd va gd rs mu rm ss msz msh mho mhn mhz kd nb tn tc bo ip, wMr G rw la ns sd to he sw nh ki te mi ar z, wI G mho 4 hof, wI G mhn 4 hnf]) (rest := []) (st' := [.int (-1)]) 31 (c_X6_kindOn_f l G s o rw fr kp tr ik tp tm mso bg en wd va gd rs mu rm ss msz msh mho mhn mhz kd nb tn tc bo ip la ns sd to he sw nh ki te mi ar z hof hnf (by first | omega | assumption) (by first | omega | assumption) (by first | omega | assumption)) [0, 1, 2, 3] 0 rfl rfl rfl [[o], [rw], [mho], [mhn]] rfl rfl rfl rfl rfl rfl (Nat.le_of_ble_eq_true rfl) rfl dX6_taken_31 ?_
      refine J_istore_n (lv' := [some (.ref o), some (.int (nI s)), some (.int a), some (.int (-1))]) 34 3 dX6_taken_34 rfl (by decide) rfl ?_
      refine J_iload_n 35 3 dX6_taken_35 rfl rfl ?_
      refine J_if_ge (tgt := 42) 36 dX6_taken_36 (by decide) (fun c_5_ => absurd c_5_ (by decide)) (fun _ => ?_)
      refine J_bipush (v := (-11)) 39 dX6_taken_39 rfl ?_
      exact J_iret 41 dX6_taken_41 rfl rfl
    · skip
      exact absurd hv (fun z_ => z_.elim (by assumption) (by assumption))
set_option maxRecDepth 100000 in
set_option maxHeartbeats 4000000 in
theorem c_X6_taken_h (l : Launch) (G : Gd) (s : Nat) (a : Int32) (j : Nat) (o : Nat) (rw : Nat) (fr : Nat) (kp : Nat) (tr : Nat) (ik : Int32) (tp : Nat) (tm : Nat) (mso : Int32) (bg : Nat) (en : Nat) (wd : Int64) (va : Int32) (gd : Int32) (rs : Nat) (mu : Nat) (rm : Nat) (ss : Nat) (msz : Nat) (msh : Nat) (mho : Nat) (mhn : Nat) (mhz : Nat) (kd : Int32) (nb : Int32) (tn : Int32) (tc : Nat) (bo : Nat) (ip : Int32) (la : Nat → Int32) (ns : Nat) (sd : Nat) (to : Nat → Int32) (he : Nat → Int32) (sw : Nat → Int32) (nh : Nat) (ki : Nat → Int32) (te : Nat → Int32) (mi : Nat → Int32) (ar : Nat → Int32) (z : Int32) (hof : Nat → Int32) (hnf : Nat → Int32) (hs : s ≤ 3) (hv : (10 ≤ a ∧ a ≤ 13) ∨ (0 ≤ a ∧ a ≤ 5)) (hho : hof s = 0) (hhn : hnf s = nI j) (hj : j < nh) (hnh : nh ≤ 8) (hk : 0 ≤ ki j ∧ ki j ≤ 5) : Ct l G yX6_taken cX6_taken 4 (some (FieldType.int)) 3 [.ref o, .int (nI s), .int a] (wF [wMo o rw fr kp tr ik tp tm mso bg en wd va gd rs mu rm ss msz msh mho mhn mhz kd nb tn tc bo ip, wMr G rw la ns sd to he sw nh ki te mi ar z, wI G mho 4 hof, wI G mhn 4 hnf]) (some (.int (cif (a < 10 ∧ fUnM (ki j) a) (nI j) (-13)))) (wF [wMo o rw fr kp tr ik tp tm mso bg en wd va gd rs mu rm ss msz msh mho mhn mhz kd nb tn tc bo ip, wMr G rw la ns sd to he sw nh ki te mi ar z, wI G mho 4 hof, wI G mhn 4 hnf]) := by
  refine Ct.of "GooseArmsModel" [some (.ref o), some (.int (nI s)), some (.int a), none] (by decide +kernel) rfl (Nat.le_of_ble_eq_true rfl) rfl ?_
  refine J_iload_n 0 1 dX6_taken_0 rfl rfl ?_
  refine kb_RX6_262 (bs' := [wMo o rw fr kp tr ik tp tm mso bg en wd va gd rs mu rm ss msz msh mho mhn mhz kd nb tn tc bo ip, wMr G rw la ns sd to he sw nh ki te mi ar z, wI G mho 4 hof, wI G mhn 4 hnf]) (rest := []) (st' := [.int 1]) 1 (c_X6_isShelf_t l G s (by first | omega | assumption)) [] rfl rfl [] rfl rfl rfl rfl rfl rfl (Nat.le_of_ble_eq_true rfl) rfl dX6_taken_1 ?_
  refine J_if_eq (tgt := 27) 4 dX6_taken_4 (by decide) (fun c_1_ => absurd c_1_ (by decide)) (fun _ => ?_)
  refine J_iload_n 7 2 dX6_taken_7 rfl rfl ?_
  refine J_iconst (v := 0) 8 dX6_taken_8 rfl ?_
  refine J_iconst (v := 5) 9 dX6_taken_9 rfl ?_
  refine kb_RX6_57 (bs' := [wMo o rw fr kp tr ik tp tm mso bg en wd va gd rs mu rm ss msz msh mho mhn mhz kd nb tn tc bo ip, wMr G rw la ns sd to he sw nh ki te mi ar z, wI G mho 4 hof, wI G mhn 4 hnf]) (rest := []) (st' := [.int (bI (0 ≤ a ∧ a ≤ 5))]) 10 (c_X6_in l G a 0 5 ) [] rfl rfl [] rfl rfl rfl rfl rfl rfl (Nat.le_of_ble_eq_true rfl) rfl dX6_taken_10 ?_
  refine J_ifB_ne (tgt := 29) 13 dX6_taken_13 (by decide) (fun c_2_ => ?_) (fun c_2_ => ?_)
  · skip
    refine J_aload_n 29 0 dX6_taken_29 rfl rfl ?_
    refine J_iload_n 30 1 dX6_taken_30 rfl rfl ?_
    refine kb_RX6_290 (bs' := [wMo o rw fr kp tr ik tp tm mso bg en wd va gd rs mu rm ss msz msh mho mhn mhz kd nb tn tc bo ip, wMr G rw la ns sd to he sw nh ki te mi ar z, wI G mho 4 hof, wI G mhn 4 hnf]) (rest := []) (st' := [.int (ki j)]) 31 (c_X6_kindOn_h l G s j o rw fr kp tr ik tp tm mso bg en wd va gd rs mu rm ss msz msh mho mhn mhz kd nb tn tc bo ip la ns sd to he sw nh ki te mi ar z hof hnf (by first | omega | assumption) (by first | omega | assumption) (by first | omega | assumption) (by first | omega | assumption) (by first | omega | assumption)) [0, 1, 2, 3] 0 rfl rfl rfl [[o], [rw], [mho], [mhn]] rfl rfl rfl rfl rfl rfl (Nat.le_of_ble_eq_true rfl) rfl dX6_taken_31 ?_
    refine J_istore_n (lv' := [some (.ref o), some (.int (nI s)), some (.int a), some (.int (ki j))]) 34 3 dX6_taken_34 rfl (by decide) rfl ?_
    refine J_iload_n 35 3 dX6_taken_35 rfl rfl ?_
    refine J_if_ge (tgt := 42) 36 dX6_taken_36 (by decide) (fun c_3_ => ?_) (fun c_3_ => ?_)
    · skip
      refine J_iload_n 42 3 dX6_taken_42 rfl rfl ?_
      refine J_bipush (v := 9) 43 dX6_taken_43 rfl ?_
      refine J_icmp_ne (tgt := 73) 45 dX6_taken_45 (by decide) (fun c_4_ => ?_) (fun c_4_ => ?_)
      · skip
        refine J_iload_n 73 2 dX6_taken_73 rfl rfl ?_
        refine J_bipush (v := 10) 74 dX6_taken_74 rfl ?_
        refine J_icmp_ge (tgt := 96) 76 dX6_taken_76 (by decide) (fun c_5_ => ?_) (fun c_5_ => ?_)
        · skip
          refine J_bipush (v := (-13)) 96 dX6_taken_96 rfl ?_
          exact J_iret 98 dX6_taken_98 (congrArg (fun x_ => some (Value.int x_)) (by first | exact (cif_t ⟨Int32.not_le.mp (by assumption), by assumption⟩).symm | exact (cif_f (fun z_ => by first | exact absurd z_.2 (by assumption) | exact absurd z_.1 (Int32.not_lt.mpr (by assumption)))).symm)) rfl
        · skip
          refine J_iload_n 79 3 dX6_taken_79 rfl rfl ?_
          refine J_iload_n 80 2 dX6_taken_80 rfl rfl ?_
          refine kb_RX6_293 (bs' := [wMo o rw fr kp tr ik tp tm mso bg en wd va gd rs mu rm ss msz msh mho mhn mhz kd nb tn tc bo ip, wMr G rw la ns sd to he sw nh ki te mi ar z, wI G mho 4 hof, wI G mhn 4 hnf]) (rest := []) (st' := [.int (bI (fUnM (ki j) a))]) 81 (c_X6_isUnder l G (ki j) a ) [] rfl rfl [] rfl rfl rfl rfl rfl rfl (Nat.le_of_ble_eq_true rfl) rfl dX6_taken_81 ?_
          refine J_ifB_eq (tgt := 96) 84 dX6_taken_84 (by decide) (fun c_6_ => ?_) (fun c_6_ => ?_)
          · skip
            refine J_bipush (v := (-13)) 96 dX6_taken_96 rfl ?_
            exact J_iret 98 dX6_taken_98 (congrArg (fun x_ => some (Value.int x_)) (by first | exact (cif_t ⟨Int32.not_le.mp (by assumption), by assumption⟩).symm | exact (cif_f (fun z_ => by first | exact absurd z_.2 (by assumption) | exact absurd z_.1 (Int32.not_lt.mpr (by assumption)))).symm)) rfl
          · skip
            refine J_aload_n 87 0 dX6_taken_87 rfl rfl ?_
            refine g_809 (v := .ref mhn) 88 0 rfl rfl dX6_taken_88 ?_
            refine J_iload_n 91 1 dX6_taken_91 rfl rfl ?_
            refine J_iald 92 3 s rfl rfl (by omega) (by decide) dX6_taken_92 ?_
            refine J_topi (y := nI j) 93 hhn ?_
            refine J_goto (tgt := 98) 93 dX6_taken_93 (by decide) ?_
            exact J_iret 98 dX6_taken_98 (congrArg (fun x_ => some (Value.int x_)) (by first | exact (cif_t ⟨Int32.not_le.mp (by assumption), by assumption⟩).symm | exact (cif_f (fun z_ => by first | exact absurd z_.2 (by assumption) | exact absurd z_.1 (Int32.not_lt.mpr (by assumption)))).symm)) rfl
      · skip
        exact absurd (c_4_ ▸ hk.2 : (9 : Int32) ≤ 5) (by decide)
    · skip
      exact absurd hk.1 c_3_
  · skip
    refine J_iload_n 16 2 dX6_taken_16 rfl rfl ?_
    refine J_bipush (v := 10) 17 dX6_taken_17 rfl ?_
    refine J_bipush (v := 13) 19 dX6_taken_19 rfl ?_
    refine kb_RX6_57 (bs' := [wMo o rw fr kp tr ik tp tm mso bg en wd va gd rs mu rm ss msz msh mho mhn mhz kd nb tn tc bo ip, wMr G rw la ns sd to he sw nh ki te mi ar z, wI G mho 4 hof, wI G mhn 4 hnf]) (rest := []) (st' := [.int (bI (10 ≤ a ∧ a ≤ 13))]) 21 (c_X6_in l G a 10 13 ) [] rfl rfl [] rfl rfl rfl rfl rfl rfl (Nat.le_of_ble_eq_true rfl) rfl dX6_taken_21 ?_
    refine J_ifB_ne (tgt := 29) 24 dX6_taken_24 (by decide) (fun c_7_ => ?_) (fun c_7_ => ?_)
    · skip
      refine J_aload_n 29 0 dX6_taken_29 rfl rfl ?_
      refine J_iload_n 30 1 dX6_taken_30 rfl rfl ?_
      refine kb_RX6_290 (bs' := [wMo o rw fr kp tr ik tp tm mso bg en wd va gd rs mu rm ss msz msh mho mhn mhz kd nb tn tc bo ip, wMr G rw la ns sd to he sw nh ki te mi ar z, wI G mho 4 hof, wI G mhn 4 hnf]) (rest := []) (st' := [.int (ki j)]) 31 (c_X6_kindOn_h l G s j o rw fr kp tr ik tp tm mso bg en wd va gd rs mu rm ss msz msh mho mhn mhz kd nb tn tc bo ip la ns sd to he sw nh ki te mi ar z hof hnf (by first | omega | assumption) (by first | omega | assumption) (by first | omega | assumption) (by first | omega | assumption) (by first | omega | assumption)) [0, 1, 2, 3] 0 rfl rfl rfl [[o], [rw], [mho], [mhn]] rfl rfl rfl rfl rfl rfl (Nat.le_of_ble_eq_true rfl) rfl dX6_taken_31 ?_
      refine J_istore_n (lv' := [some (.ref o), some (.int (nI s)), some (.int a), some (.int (ki j))]) 34 3 dX6_taken_34 rfl (by decide) rfl ?_
      refine J_iload_n 35 3 dX6_taken_35 rfl rfl ?_
      refine J_if_ge (tgt := 42) 36 dX6_taken_36 (by decide) (fun c_8_ => ?_) (fun c_8_ => ?_)
      · skip
        refine J_iload_n 42 3 dX6_taken_42 rfl rfl ?_
        refine J_bipush (v := 9) 43 dX6_taken_43 rfl ?_
        refine J_icmp_ne (tgt := 73) 45 dX6_taken_45 (by decide) (fun c_9_ => ?_) (fun c_9_ => ?_)
        · skip
          refine J_iload_n 73 2 dX6_taken_73 rfl rfl ?_
          refine J_bipush (v := 10) 74 dX6_taken_74 rfl ?_
          refine J_icmp_ge (tgt := 96) 76 dX6_taken_76 (by decide) (fun c_10_ => ?_) (fun c_10_ => ?_)
          · skip
            refine J_bipush (v := (-13)) 96 dX6_taken_96 rfl ?_
            exact J_iret 98 dX6_taken_98 (congrArg (fun x_ => some (Value.int x_)) (by first | exact (cif_t ⟨Int32.not_le.mp (by assumption), by assumption⟩).symm | exact (cif_f (fun z_ => by first | exact absurd z_.2 (by assumption) | exact absurd z_.1 (Int32.not_lt.mpr (by assumption)))).symm)) rfl
          · skip
            refine J_iload_n 79 3 dX6_taken_79 rfl rfl ?_
            refine J_iload_n 80 2 dX6_taken_80 rfl rfl ?_
            refine kb_RX6_293 (bs' := [wMo o rw fr kp tr ik tp tm mso bg en wd va gd rs mu rm ss msz msh mho mhn mhz kd nb tn tc bo ip, wMr G rw la ns sd to he sw nh ki te mi ar z, wI G mho 4 hof, wI G mhn 4 hnf]) (rest := []) (st' := [.int (bI (fUnM (ki j) a))]) 81 (c_X6_isUnder l G (ki j) a ) [] rfl rfl [] rfl rfl rfl rfl rfl rfl (Nat.le_of_ble_eq_true rfl) rfl dX6_taken_81 ?_
            refine J_ifB_eq (tgt := 96) 84 dX6_taken_84 (by decide) (fun c_11_ => ?_) (fun c_11_ => ?_)
            · skip
              refine J_bipush (v := (-13)) 96 dX6_taken_96 rfl ?_
              exact J_iret 98 dX6_taken_98 (congrArg (fun x_ => some (Value.int x_)) (by first | exact (cif_t ⟨Int32.not_le.mp (by assumption), by assumption⟩).symm | exact (cif_f (fun z_ => by first | exact absurd z_.2 (by assumption) | exact absurd z_.1 (Int32.not_lt.mpr (by assumption)))).symm)) rfl
            · skip
              refine J_aload_n 87 0 dX6_taken_87 rfl rfl ?_
              refine g_809 (v := .ref mhn) 88 0 rfl rfl dX6_taken_88 ?_
              refine J_iload_n 91 1 dX6_taken_91 rfl rfl ?_
              refine J_iald 92 3 s rfl rfl (by omega) (by decide) dX6_taken_92 ?_
              refine J_topi (y := nI j) 93 hhn ?_
              refine J_goto (tgt := 98) 93 dX6_taken_93 (by decide) ?_
              exact J_iret 98 dX6_taken_98 (congrArg (fun x_ => some (Value.int x_)) (by first | exact (cif_t ⟨Int32.not_le.mp (by assumption), by assumption⟩).symm | exact (cif_f (fun z_ => by first | exact absurd z_.2 (by assumption) | exact absurd z_.1 (Int32.not_lt.mpr (by assumption)))).symm)) rfl
        · skip
          exact absurd (c_9_ ▸ hk.2 : (9 : Int32) ≤ 5) (by decide)
      · skip
        exact absurd hk.1 c_8_
    · skip
      exact absurd hv (fun z_ => z_.elim (by assumption) (by assumption))
set_option maxRecDepth 100000 in
set_option maxHeartbeats 4000000 in
theorem c_X6_ran (l : Launch) (G : Gd) (b : Int32) (o : Nat) (rw : Nat) (fr : Nat) (kp : Nat) (tr : Nat) (ik : Int32) (tp : Nat) (tm : Nat) (mso : Int32) (bg : Nat) (en : Nat) (wd : Int64) (va : Int32) (gd : Int32) (rs : Nat) (mu : Nat) (rm : Nat) (ss : Nat) (msz : Nat) (msh : Nat) (mho : Nat) (mhn : Nat) (mhz : Nat) (kd : Int32) (nb : Int32) (tn : Int32) (tc : Nat) (bo : Nat) (ip : Int32) (tcf : Nat → Int32) (hb : bo < 30) : Ct l G yX6_ran cX6_ran 2 none 0 [.ref o, .int b] (wF [wMo o rw fr kp tr ik tp tm mso bg en wd va gd rs mu rm ss msz msh mho mhn mhz kd nb tn tc bo ip, wI G tc 30 tcf]) none (wF [wMo o rw fr kp tr ik tp tm mso bg en wd va gd rs mu rm ss msz msh mho mhn mhz kd nb tn tc (bo + 1) ip, wI G tc 30 (upd tcf bo b)]) := by
  refine Ct.of "GooseArmsModel" [some (.ref o), some (.int b)] (by decide +kernel) rfl (Nat.le_of_ble_eq_true rfl) rfl ?_
  refine J_aload_n 0 0 dX6_ran_0 rfl rfl ?_
  refine g_815 (v := .int (nI bo)) 1 0 rfl rfl dX6_ran_1 ?_
  refine J_bipush (v := 30) 4 dX6_ran_4 rfl ?_
  refine J_icmp_ge (tgt := 29) 6 dX6_ran_6 (by decide) (fun c_1_ => ?_) (fun c_1_ => ?_)
  · skip
    have c_1_ : 30 ≤ bo := (nI_leI (a := 30) (b := bo) (by omega) (by omega)).mp c_1_
    omega
  · skip
    have c_1_ : ¬ 30 ≤ bo := fun z_ => c_1_ ((nI_leI (a := 30) (b := bo) (by omega) (by omega)).mpr z_)
    refine J_aload_n 9 0 dX6_ran_9 rfl rfl ?_
    refine g_814 (v := .ref tc) 10 0 rfl rfl dX6_ran_10 ?_
    refine J_aload_n 13 0 dX6_ran_13 rfl rfl ?_
    refine g_815 (v := .int (nI bo)) 14 0 rfl rfl dX6_ran_14 ?_
    refine J_iload_n 17 1 dX6_ran_17 rfl rfl ?_
    refine J_iast (ws' := (wF [wMo o rw fr kp tr ik tp tm mso bg en wd va gd rs mu rm ss msz msh mho mhn mhz kd nb tn tc bo ip, wI G tc 30 (upd tcf bo b)])) 18 1 bo rfl rfl (by omega) (by decide) rfl dX6_ran_18 ?_
    refine J_aload_n 19 0 dX6_ran_19 rfl rfl ?_
    refine J_dup 20 dX6_ran_20 rfl ?_
    refine g_815 (v := .int (nI bo)) 21 0 rfl rfl dX6_ran_21 ?_
    refine J_iconst (v := 1) 24 dX6_ran_24 rfl ?_
    refine J_iadd 25 dX6_ran_25 ?_
    refine J_topi (y := nI (bo + 1)) 26 (nI_add bo 1) ?_
    refine p_815 (ws' := (wF [wMo o rw fr kp tr ik tp tm mso bg en wd va gd rs mu rm ss msz msh mho mhn mhz kd nb tn tc (bo + 1) ip, wI G tc 30 (upd tcf bo b)])) 26 0 rfl rfl rfl (Nat.le_of_ble_eq_true rfl) rfl dX6_ran_26 ?_
    exact J_vret 29 dX6_ran_29 rfl rfl
set_option maxRecDepth 100000 in
set_option maxHeartbeats 4000000 in
theorem c_X6_plainShakes_0 (l : Launch) (G : Gd) (x : Int32) (o : Nat) (rw : Nat) (fr : Nat) (kp : Nat) (tr : Nat) (ik : Int32) (tp : Nat) (tm : Nat) (mso : Int32) (bg : Nat) (en : Nat) (wd : Int64) (va : Int32) (gd : Int32) (rs : Nat) (mu : Nat) (rm : Nat) (ss : Nat) (msz : Nat) (msh : Nat) (mho : Nat) (mhn : Nat) (mhz : Nat) (nb : Int32) (tn : Int32) (tc : Nat) (bo : Nat) (tcf : Nat → Int32) (hb : bo + 1 ≤ 30) : Ct l G yX6_plainShakes cX6_plainShakes 2 (some (FieldType.int)) 1 [.ref o, .int x] (wF [wMo o rw fr kp tr ik tp tm mso bg en wd va gd rs mu rm ss msz msh mho mhn mhz 0 nb tn tc bo 0, wI G tc 30 tcf]) (some (.int (x * 5 + nb))) (wF [wMo o rw fr kp tr ik tp tm mso bg en wd va gd rs mu rm ss msz msh mho mhn mhz 0 nb tn tc (bo + 1) 0, wI G tc 30 (pF [10] tcf bo)]) := by
  refine Ct.of "GooseArmsModel" [some (.ref o), some (.int x)] (by decide +kernel) rfl (Nat.le_of_ble_eq_true rfl) rfl ?_
  refine J_aload_n 0 0 dX6_plainShakes_0 rfl rfl ?_
  refine J_bipush (v := 10) 1 dX6_plainShakes_1 rfl ?_
  refine kb_RX6_299 (bs' := [wMo o rw fr kp tr ik tp tm mso bg en wd va gd rs mu rm ss msz msh mho mhn mhz 0 nb tn tc (bo + 1) 0, wI G tc 30 (upd tcf bo 10)]) (rest := []) (st' := []) 3 (c_X6_ran l G 10 o rw fr kp tr ik tp tm mso bg en wd va gd rs mu rm ss msz msh mho mhn mhz 0 nb tn tc bo 0 tcf (by first | omega | assumption)) [0, 1] 0 rfl rfl rfl [[o], [tc]] rfl rfl rfl rfl rfl rfl (Nat.le_of_ble_eq_true rfl) rfl dX6_plainShakes_3 ?_
  refine J_iload_n 6 1 dX6_plainShakes_6 rfl rfl ?_
  refine J_iconst (v := 5) 7 dX6_plainShakes_7 rfl ?_
  refine J_imul 8 dX6_plainShakes_8 ?_
  refine J_aload_n 9 0 dX6_plainShakes_9 rfl rfl ?_
  refine g_812 (v := .int nb) 10 0 rfl rfl dX6_plainShakes_10 ?_
  refine J_iadd 13 dX6_plainShakes_13 ?_
  exact J_iret 14 dX6_plainShakes_14 (congrArg (fun x_ => some (Value.int x_)) (by first | rfl | grind)) (cg1 (fun (x0_ : Nat → Int32) => (wF [wMo o rw fr kp tr ik tp tm mso bg en wd va gd rs mu rm ss msz msh mho mhn mhz 0 nb tn tc (bo + 1) 0, wI G tc 30 x0_])) (upd tcf bo 10) (pF [10] tcf bo) rfl)
set_option maxRecDepth 100000 in
set_option maxHeartbeats 4000000 in
theorem c_X6_advocateShakes_0 (l : Launch) (G : Gd) (x : Int32) (o : Nat) (rw : Nat) (fr : Nat) (kp : Nat) (tr : Nat) (ik : Int32) (tp : Nat) (tm : Nat) (mso : Int32) (bg : Nat) (en : Nat) (wd : Int64) (va : Int32) (gd : Int32) (rs : Nat) (mu : Nat) (rm : Nat) (ss : Nat) (msz : Nat) (msh : Nat) (mho : Nat) (mhn : Nat) (mhz : Nat) (nb : Int32) (tn : Int32) (tc : Nat) (bo : Nat) (tcf : Nat → Int32) (hb : bo + 2 ≤ 30) : Ct l G yX6_advocateShakes cX6_advocateShakes 2 (some (FieldType.int)) 2 [.ref o, .int x] (wF [wMo o rw fr kp tr ik tp tm mso bg en wd va gd rs mu rm ss msz msh mho mhn mhz 0 nb tn tc bo 0, wI G tc 30 tcf]) (some (.int ((x * 5 + nb) - 4))) (wF [wMo o rw fr kp tr ik tp tm mso bg en wd va gd rs mu rm ss msz msh mho mhn mhz 0 nb tn tc (bo + 2) 0, wI G tc 30 (pF [30, 10] tcf bo)]) := by
  refine Ct.of "GooseArmsModel" [some (.ref o), some (.int x)] (by decide +kernel) rfl (Nat.le_of_ble_eq_true rfl) rfl ?_
  refine J_aload_n 0 0 dX6_advocateShakes_0 rfl rfl ?_
  refine J_bipush (v := 30) 1 dX6_advocateShakes_1 rfl ?_
  refine kb_RX6_299 (bs' := [wMo o rw fr kp tr ik tp tm mso bg en wd va gd rs mu rm ss msz msh mho mhn mhz 0 nb tn tc (bo + 1) 0, wI G tc 30 (upd tcf bo 30)]) (rest := []) (st' := []) 3 (c_X6_ran l G 30 o rw fr kp tr ik tp tm mso bg en wd va gd rs mu rm ss msz msh mho mhn mhz 0 nb tn tc bo 0 tcf (by first | omega | assumption)) [0, 1] 0 rfl rfl rfl [[o], [tc]] rfl rfl rfl rfl rfl rfl (Nat.le_of_ble_eq_true rfl) rfl dX6_advocateShakes_3 ?_
  refine J_aload_n 6 0 dX6_advocateShakes_6 rfl rfl ?_
  refine J_iload_n 7 1 dX6_advocateShakes_7 rfl rfl ?_
  refine kb_RX6_305 (bs' := [wMo o rw fr kp tr ik tp tm mso bg en wd va gd rs mu rm ss msz msh mho mhn mhz 0 nb tn tc ((bo + 1) + 1) 0, wI G tc 30 (pF [10] (upd tcf bo 30) (bo + 1))]) (rest := []) (st' := [.int (x * 5 + nb)]) 8 (c_X6_plainShakes_0 l G x o rw fr kp tr ik tp tm mso bg en wd va gd rs mu rm ss msz msh mho mhn mhz nb tn tc (bo + 1) (upd tcf bo 30) (by first | omega | assumption)) [0, 1] 0 rfl rfl rfl [[o], [tc]] rfl rfl rfl rfl rfl rfl (Nat.le_of_ble_eq_true rfl) rfl dX6_advocateShakes_8 ?_
  refine J_iconst (v := 4) 11 dX6_advocateShakes_11 rfl ?_
  refine J_isub 12 dX6_advocateShakes_12 ?_
  exact J_iret 13 dX6_advocateShakes_13 rfl (cg2 (fun (x0_ : Nat) (x1_ : Nat → Int32) => (wF [wMo o rw fr kp tr ik tp tm mso bg en wd va gd rs mu rm ss msz msh mho mhn mhz 0 nb tn tc x0_ 0, wI G tc 30 x1_])) ((bo + 1) + 1) (bo + 2) (pF [10] (upd tcf bo 30) (bo + 1)) (pF [30, 10] tcf bo) rfl rfl)
set_option maxRecDepth 100000 in
set_option maxHeartbeats 4000000 in
theorem c_X6_shakesIt_0 (l : Launch) (G : Gd) (x : Int32) (o : Nat) (rw : Nat) (fr : Nat) (kp : Nat) (tr : Nat) (ik : Int32) (tp : Nat) (tm : Nat) (mso : Int32) (bg : Nat) (en : Nat) (wd : Int64) (va : Int32) (gd : Int32) (rs : Nat) (mu : Nat) (rm : Nat) (ss : Nat) (msz : Nat) (msh : Nat) (mho : Nat) (mhn : Nat) (mhz : Nat) (nb : Int32) (tn : Int32) (tc : Nat) (bo : Nat) (tcf : Nat → Int32) (hb : bo + 1 ≤ 30) : Ct l G yX6_shakesIt cX6_shakesIt 2 (some (FieldType.int)) 3 [.ref o, .int x] (wF [wMo o rw fr kp tr ik tp tm mso bg en wd va gd rs mu rm ss msz msh mho mhn mhz 0 nb tn tc bo 0, wI G tc 30 tcf]) (some (.int (x * 5 + nb))) (wF [wMo o rw fr kp tr ik tp tm mso bg en wd va gd rs mu rm ss msz msh mho mhn mhz 0 nb tn tc (bo + 1) 0, wI G tc 30 (pF [10] tcf bo)]) := by
  refine Ct.of "GooseArmsModel" [some (.ref o), some (.int x)] (by decide +kernel) rfl (Nat.le_of_ble_eq_true rfl) rfl ?_
  refine J_aload_n 0 0 dX6_shakesIt_0 rfl rfl ?_
  refine g_811 (v := .int 0) 1 0 rfl rfl dX6_shakesIt_1 ?_
  refine J_tableOut (tgt := 68) 4 dX6_shakesIt_4 (by decide +kernel) (by decide) ?_
  refine J_aload_n 68 0 dX6_shakesIt_68 rfl rfl ?_
  refine J_iload_n 69 1 dX6_shakesIt_69 rfl rfl ?_
  refine kb_RX6_305 (bs' := [wMo o rw fr kp tr ik tp tm mso bg en wd va gd rs mu rm ss msz msh mho mhn mhz 0 nb tn tc (bo + 1) 0, wI G tc 30 (pF [10] tcf bo)]) (rest := []) (st' := [.int (x * 5 + nb)]) 70 (c_X6_plainShakes_0 l G x o rw fr kp tr ik tp tm mso bg en wd va gd rs mu rm ss msz msh mho mhn mhz nb tn tc bo tcf (by first | omega | assumption)) [0, 1] 0 rfl rfl rfl [[o], [tc]] rfl rfl rfl rfl rfl rfl (Nat.le_of_ble_eq_true rfl) rfl dX6_shakesIt_70 ?_
  exact J_iret 73 dX6_shakesIt_73 rfl rfl
set_option maxRecDepth 100000 in
set_option maxHeartbeats 4000000 in
theorem c_X6_plainReads_0 (l : Launch) (G : Gd) (x : Int32) (o : Nat) (rw : Nat) (fr : Nat) (kp : Nat) (tr : Nat) (ik : Int32) (tp : Nat) (tm : Nat) (mso : Int32) (bg : Nat) (en : Nat) (wd : Int64) (va : Int32) (gd : Int32) (rs : Nat) (mu : Nat) (rm : Nat) (ss : Nat) (msz : Nat) (msh : Nat) (mho : Nat) (mhn : Nat) (mhz : Nat) (nb : Int32) (tn : Int32) (tc : Nat) (bo : Nat) (tcf : Nat → Int32) (hb : bo + 2 ≤ 30) : Ct l G yX6_plainReads cX6_plainReads 2 (some (FieldType.int)) 4 [.ref o, .int x] (wF [wMo o rw fr kp tr ik tp tm mso bg en wd va gd rs mu rm ss msz msh mho mhn mhz 0 nb tn tc bo 0, wI G tc 30 tcf]) (some (.int ((x * 5 + nb) - tn))) (wF [wMo o rw fr kp tr ik tp tm mso bg en wd va gd rs mu rm ss msz msh mho mhn mhz 0 nb tn tc (bo + 2) 0, wI G tc 30 (pF [11, 10] tcf bo)]) := by
  refine Ct.of "GooseArmsModel" [some (.ref o), some (.int x)] (by decide +kernel) rfl (Nat.le_of_ble_eq_true rfl) rfl ?_
  refine J_aload_n 0 0 dX6_plainReads_0 rfl rfl ?_
  refine J_bipush (v := 11) 1 dX6_plainReads_1 rfl ?_
  refine kb_RX6_299 (bs' := [wMo o rw fr kp tr ik tp tm mso bg en wd va gd rs mu rm ss msz msh mho mhn mhz 0 nb tn tc (bo + 1) 0, wI G tc 30 (upd tcf bo 11)]) (rest := []) (st' := []) 3 (c_X6_ran l G 11 o rw fr kp tr ik tp tm mso bg en wd va gd rs mu rm ss msz msh mho mhn mhz 0 nb tn tc bo 0 tcf (by first | omega | assumption)) [0, 1] 0 rfl rfl rfl [[o], [tc]] rfl rfl rfl rfl rfl rfl (Nat.le_of_ble_eq_true rfl) rfl dX6_plainReads_3 ?_
  refine J_aload_n 6 0 dX6_plainReads_6 rfl rfl ?_
  refine J_iload_n 7 1 dX6_plainReads_7 rfl rfl ?_
  refine kb_RX6_317 (bs' := [wMo o rw fr kp tr ik tp tm mso bg en wd va gd rs mu rm ss msz msh mho mhn mhz 0 nb tn tc ((bo + 1) + 1) 0, wI G tc 30 (pF [10] (upd tcf bo 11) (bo + 1))]) (rest := []) (st' := [.int (x * 5 + nb)]) 8 (c_X6_shakesIt_0 l G x o rw fr kp tr ik tp tm mso bg en wd va gd rs mu rm ss msz msh mho mhn mhz nb tn tc (bo + 1) (upd tcf bo 11) (by first | omega | assumption)) [0, 1] 0 rfl rfl rfl [[o], [tc]] rfl rfl rfl rfl rfl rfl (Nat.le_of_ble_eq_true rfl) rfl dX6_plainReads_8 ?_
  refine J_aload_n 11 0 dX6_plainReads_11 rfl rfl ?_
  refine g_813 (v := .int tn) 12 0 rfl rfl dX6_plainReads_12 ?_
  refine J_isub 15 dX6_plainReads_15 ?_
  exact J_iret 16 dX6_plainReads_16 rfl (cg2 (fun (x0_ : Nat) (x1_ : Nat → Int32) => (wF [wMo o rw fr kp tr ik tp tm mso bg en wd va gd rs mu rm ss msz msh mho mhn mhz 0 nb tn tc x0_ 0, wI G tc 30 x1_])) ((bo + 1) + 1) (bo + 2) (pF [10] (upd tcf bo 11) (bo + 1)) (pF [11, 10] tcf bo) rfl rfl)
set_option maxRecDepth 100000 in
set_option maxHeartbeats 4000000 in
theorem c_X6_readsIt_0 (l : Launch) (G : Gd) (x : Int32) (o : Nat) (rw : Nat) (fr : Nat) (kp : Nat) (tr : Nat) (ik : Int32) (tp : Nat) (tm : Nat) (mso : Int32) (bg : Nat) (en : Nat) (wd : Int64) (va : Int32) (gd : Int32) (rs : Nat) (mu : Nat) (rm : Nat) (ss : Nat) (msz : Nat) (msh : Nat) (mho : Nat) (mhn : Nat) (mhz : Nat) (nb : Int32) (tn : Int32) (tc : Nat) (bo : Nat) (tcf : Nat → Int32) (hb : bo + 2 ≤ 30) : Ct l G yX6_readsIt cX6_readsIt 3 (some (FieldType.int)) 5 [.ref o, .int x] (wF [wMo o rw fr kp tr ik tp tm mso bg en wd va gd rs mu rm ss msz msh mho mhn mhz 0 nb tn tc bo 0, wI G tc 30 tcf]) (some (.int ((x * 5 + nb) - tn))) (wF [wMo o rw fr kp tr ik tp tm mso bg en wd va gd rs mu rm ss msz msh mho mhn mhz 0 nb tn tc (bo + 2) 0, wI G tc 30 (pF [11, 10] tcf bo)]) := by
  refine Ct.of "GooseArmsModel" [some (.ref o), some (.int x), none] (by decide +kernel) rfl (Nat.le_of_ble_eq_true rfl) rfl ?_
  refine J_aload_n 0 0 dX6_readsIt_0 rfl rfl ?_
  refine g_811 (v := .int 0) 1 0 rfl rfl dX6_readsIt_1 ?_
  refine J_iconst (v := 1) 4 dX6_readsIt_4 rfl ?_
  refine J_icmp_eq (tgt := 16) 5 dX6_readsIt_5 (by decide) (fun c_1_ => absurd c_1_ (by decide)) (fun _ => ?_)
  refine J_aload_n 8 0 dX6_readsIt_8 rfl rfl ?_
  refine g_811 (v := .int 0) 9 0 rfl rfl dX6_readsIt_9 ?_
  refine J_iconst (v := 3) 12 dX6_readsIt_12 rfl ?_
  refine J_icmp_ne (tgt := 30) 13 dX6_readsIt_13 (by decide) (fun _ => ?_) (fun c_2_ => absurd c_2_ (by decide))
  refine J_aload_n 30 0 dX6_readsIt_30 rfl rfl ?_
  refine g_811 (v := .int 0) 31 0 rfl rfl dX6_readsIt_31 ?_
  refine J_iconst (v := 4) 34 dX6_readsIt_34 rfl ?_
  refine J_icmp_ne (tgt := 61) 35 dX6_readsIt_35 (by decide) (fun _ => ?_) (fun c_3_ => absurd c_3_ (by decide))
  refine J_aload_n 61 0 dX6_readsIt_61 rfl rfl ?_
  refine J_iload_n 62 1 dX6_readsIt_62 rfl rfl ?_
  refine kb_RX6_320 (bs' := [wMo o rw fr kp tr ik tp tm mso bg en wd va gd rs mu rm ss msz msh mho mhn mhz 0 nb tn tc (bo + 2) 0, wI G tc 30 (pF [11, 10] tcf bo)]) (rest := []) (st' := [.int ((x * 5 + nb) - tn)]) 63 (c_X6_plainReads_0 l G x o rw fr kp tr ik tp tm mso bg en wd va gd rs mu rm ss msz msh mho mhn mhz nb tn tc bo tcf (by first | omega | assumption)) [0, 1] 0 rfl rfl rfl [[o], [tc]] rfl rfl rfl rfl rfl rfl (Nat.le_of_ble_eq_true rfl) rfl dX6_readsIt_63 ?_
  exact J_iret 66 dX6_readsIt_66 rfl rfl
set_option maxRecDepth 100000 in
set_option maxHeartbeats 4000000 in
theorem c_X6_plainParts_0 (l : Launch) (G : Gd) (x : Int32) (o : Nat) (rw : Nat) (fr : Nat) (kp : Nat) (tr : Nat) (ik : Int32) (tp : Nat) (tm : Nat) (mso : Int32) (bg : Nat) (en : Nat) (wd : Int64) (va : Int32) (gd : Int32) (rs : Nat) (mu : Nat) (rm : Nat) (ss : Nat) (msz : Nat) (msh : Nat) (mho : Nat) (mhn : Nat) (mhz : Nat) (nb : Int32) (tn : Int32) (tc : Nat) (bo : Nat) (tcf : Nat → Int32) (hb : bo + 1 ≤ 30) (hz : ¬ tn = nb) : Ct l G yX6_plainParts cX6_plainParts 2 (some (FieldType.int)) 1 [.ref o, .int x] (wF [wMo o rw fr kp tr ik tp tm mso bg en wd va gd rs mu rm ss msz msh mho mhn mhz 0 nb tn tc bo 0, wI G tc 30 tcf]) (some (.int (x / (tn - nb)))) (wF [wMo o rw fr kp tr ik tp tm mso bg en wd va gd rs mu rm ss msz msh mho mhn mhz 0 nb tn tc (bo + 1) 0, wI G tc 30 (pF [12] tcf bo)]) := by
  refine Ct.of "GooseArmsModel" [some (.ref o), some (.int x)] (by decide +kernel) rfl (Nat.le_of_ble_eq_true rfl) rfl ?_
  refine J_aload_n 0 0 dX6_plainParts_0 rfl rfl ?_
  refine J_bipush (v := 12) 1 dX6_plainParts_1 rfl ?_
  refine kb_RX6_299 (bs' := [wMo o rw fr kp tr ik tp tm mso bg en wd va gd rs mu rm ss msz msh mho mhn mhz 0 nb tn tc (bo + 1) 0, wI G tc 30 (upd tcf bo 12)]) (rest := []) (st' := []) 3 (c_X6_ran l G 12 o rw fr kp tr ik tp tm mso bg en wd va gd rs mu rm ss msz msh mho mhn mhz 0 nb tn tc bo 0 tcf (by first | omega | assumption)) [0, 1] 0 rfl rfl rfl [[o], [tc]] rfl rfl rfl rfl rfl rfl (Nat.le_of_ble_eq_true rfl) rfl dX6_plainParts_3 ?_
  refine J_aload_n 6 0 dX6_plainParts_6 rfl rfl ?_
  refine g_813 (v := .int tn) 7 0 rfl rfl dX6_plainParts_7 ?_
  refine J_aload_n 10 0 dX6_plainParts_10 rfl rfl ?_
  refine g_812 (v := .int nb) 11 0 rfl rfl dX6_plainParts_11 ?_
  refine J_icmp_ne (tgt := 24) 14 dX6_plainParts_14 (by decide) (fun c_1_ => ?_) (fun c_1_ => ?_)
  · skip
    refine J_iload_n 24 1 dX6_plainParts_24 rfl rfl ?_
    refine J_aload_n 25 0 dX6_plainParts_25 rfl rfl ?_
    refine g_813 (v := .int tn) 26 0 rfl rfl dX6_plainParts_26 ?_
    refine J_aload_n 29 0 dX6_plainParts_29 rfl rfl ?_
    refine g_812 (v := .int nb) 30 0 rfl rfl dX6_plainParts_30 ?_
    refine J_isub 33 dX6_plainParts_33 ?_
    refine J_idiv 34 dX6_plainParts_34 (sub_ne0 hz) ?_
    exact J_iret 35 dX6_plainParts_35 rfl (cg1 (fun (x0_ : Nat → Int32) => (wF [wMo o rw fr kp tr ik tp tm mso bg en wd va gd rs mu rm ss msz msh mho mhn mhz 0 nb tn tc (bo + 1) 0, wI G tc 30 x0_])) (upd tcf bo 12) (pF [12] tcf bo) rfl)
  · skip
    exact absurd c_1_ hz
set_option maxRecDepth 100000 in
set_option maxHeartbeats 4000000 in
theorem c_X6_plainParts_0z (l : Launch) (G : Gd) (x : Int32) (o : Nat) (rw : Nat) (fr : Nat) (kp : Nat) (tr : Nat) (ik : Int32) (tp : Nat) (tm : Nat) (mso : Int32) (bg : Nat) (en : Nat) (wd : Int64) (va : Int32) (gd : Int32) (rs : Nat) (mu : Nat) (rm : Nat) (ss : Nat) (msz : Nat) (msh : Nat) (mho : Nat) (mhn : Nat) (mhz : Nat) (nb : Int32) (tn : Int32) (tc : Nat) (bo : Nat) (tcf : Nat → Int32) (hb : bo + 1 ≤ 30) (hz : tn = nb) : Ct l G yX6_plainParts cX6_plainParts 2 (some (FieldType.int)) 1 [.ref o, .int x] (wF [wMo o rw fr kp tr ik tp tm mso bg en wd va gd rs mu rm ss msz msh mho mhn mhz 0 nb tn tc bo 0, wI G tc 30 tcf]) (some (.int 0)) (wF [wMo o rw fr kp tr ik tp tm mso bg en wd va gd rs mu rm ss msz msh mho mhn mhz 0 nb tn tc (bo + 1) 1, wI G tc 30 (pF [12] tcf bo)]) := by
  refine Ct.of "GooseArmsModel" [some (.ref o), some (.int x)] (by decide +kernel) rfl (Nat.le_of_ble_eq_true rfl) rfl ?_
  refine J_aload_n 0 0 dX6_plainParts_0 rfl rfl ?_
  refine J_bipush (v := 12) 1 dX6_plainParts_1 rfl ?_
  refine kb_RX6_299 (bs' := [wMo o rw fr kp tr ik tp tm mso bg en wd va gd rs mu rm ss msz msh mho mhn mhz 0 nb tn tc (bo + 1) 0, wI G tc 30 (upd tcf bo 12)]) (rest := []) (st' := []) 3 (c_X6_ran l G 12 o rw fr kp tr ik tp tm mso bg en wd va gd rs mu rm ss msz msh mho mhn mhz 0 nb tn tc bo 0 tcf (by first | omega | assumption)) [0, 1] 0 rfl rfl rfl [[o], [tc]] rfl rfl rfl rfl rfl rfl (Nat.le_of_ble_eq_true rfl) rfl dX6_plainParts_3 ?_
  refine J_aload_n 6 0 dX6_plainParts_6 rfl rfl ?_
  refine g_813 (v := .int tn) 7 0 rfl rfl dX6_plainParts_7 ?_
  refine J_aload_n 10 0 dX6_plainParts_10 rfl rfl ?_
  refine g_812 (v := .int nb) 11 0 rfl rfl dX6_plainParts_11 ?_
  refine J_icmp_ne (tgt := 24) 14 dX6_plainParts_14 (by decide) (fun c_1_ => ?_) (fun c_1_ => ?_)
  · skip
    exact absurd hz c_1_
  · skip
    refine J_aload_n 17 0 dX6_plainParts_17 rfl rfl ?_
    refine J_iconst (v := 1) 18 dX6_plainParts_18 rfl ?_
    refine p_816 (ws' := (wF [wMo o rw fr kp tr ik tp tm mso bg en wd va gd rs mu rm ss msz msh mho mhn mhz 0 nb tn tc (bo + 1) 1, wI G tc 30 (upd tcf bo 12)])) 19 0 rfl rfl rfl (Nat.le_of_ble_eq_true rfl) rfl dX6_plainParts_19 ?_
    refine J_iconst (v := 0) 22 dX6_plainParts_22 rfl ?_
    exact J_iret 23 dX6_plainParts_23 rfl (cg1 (fun (x0_ : Nat → Int32) => (wF [wMo o rw fr kp tr ik tp tm mso bg en wd va gd rs mu rm ss msz msh mho mhn mhz 0 nb tn tc (bo + 1) 1, wI G tc 30 x0_])) (upd tcf bo 12) (pF [12] tcf bo) rfl)
set_option maxRecDepth 100000 in
set_option maxHeartbeats 4000000 in
theorem c_X6_partsIt_0 (l : Launch) (G : Gd) (x : Int32) (o : Nat) (rw : Nat) (fr : Nat) (kp : Nat) (tr : Nat) (ik : Int32) (tp : Nat) (tm : Nat) (mso : Int32) (bg : Nat) (en : Nat) (wd : Int64) (va : Int32) (gd : Int32) (rs : Nat) (mu : Nat) (rm : Nat) (ss : Nat) (msz : Nat) (msh : Nat) (mho : Nat) (mhn : Nat) (mhz : Nat) (nb : Int32) (tn : Int32) (tc : Nat) (bo : Nat) (tcf : Nat → Int32) (hb : bo + 1 ≤ 30) (hz : ¬ tn = nb) : Ct l G yX6_partsIt cX6_partsIt 3 (some (FieldType.int)) 4 [.ref o, .int x] (wF [wMo o rw fr kp tr ik tp tm mso bg en wd va gd rs mu rm ss msz msh mho mhn mhz 0 nb tn tc bo 0, wI G tc 30 tcf]) (some (.int (x / (tn - nb)))) (wF [wMo o rw fr kp tr ik tp tm mso bg en wd va gd rs mu rm ss msz msh mho mhn mhz 0 nb tn tc (bo + 1) 0, wI G tc 30 (pF [12] tcf bo)]) := by
  refine Ct.of "GooseArmsModel" [some (.ref o), some (.int x), none] (by decide +kernel) rfl (Nat.le_of_ble_eq_true rfl) rfl ?_
  refine J_aload_n 0 0 dX6_partsIt_0 rfl rfl ?_
  refine g_811 (v := .int 0) 1 0 rfl rfl dX6_partsIt_1 ?_
  refine J_iconst (v := 3) 4 dX6_partsIt_4 rfl ?_
  refine J_icmp_ne (tgt := 24) 5 dX6_partsIt_5 (by decide) (fun _ => ?_) (fun c_1_ => absurd c_1_ (by decide))
  refine J_aload_n 24 0 dX6_partsIt_24 rfl rfl ?_
  refine g_811 (v := .int 0) 25 0 rfl rfl dX6_partsIt_25 ?_
  refine J_iconst (v := 5) 28 dX6_partsIt_28 rfl ?_
  refine J_icmp_ne (tgt := 66) 29 dX6_partsIt_29 (by decide) (fun _ => ?_) (fun c_2_ => absurd c_2_ (by decide))
  refine J_aload_n 66 0 dX6_partsIt_66 rfl rfl ?_
  refine J_iload_n 67 1 dX6_partsIt_67 rfl rfl ?_
  refine kb_RX6_326 (bs' := [wMo o rw fr kp tr ik tp tm mso bg en wd va gd rs mu rm ss msz msh mho mhn mhz 0 nb tn tc (bo + 1) 0, wI G tc 30 (pF [12] tcf bo)]) (rest := []) (st' := [.int (x / (tn - nb))]) 68 (c_X6_plainParts_0 l G x o rw fr kp tr ik tp tm mso bg en wd va gd rs mu rm ss msz msh mho mhn mhz nb tn tc bo tcf (by first | omega | assumption) (by first | omega | assumption)) [0, 1] 0 rfl rfl rfl [[o], [tc]] rfl rfl rfl rfl rfl rfl (Nat.le_of_ble_eq_true rfl) rfl dX6_partsIt_68 ?_
  exact J_iret 71 dX6_partsIt_71 rfl rfl
set_option maxRecDepth 100000 in
set_option maxHeartbeats 4000000 in
theorem c_X6_partsIt_0z (l : Launch) (G : Gd) (x : Int32) (o : Nat) (rw : Nat) (fr : Nat) (kp : Nat) (tr : Nat) (ik : Int32) (tp : Nat) (tm : Nat) (mso : Int32) (bg : Nat) (en : Nat) (wd : Int64) (va : Int32) (gd : Int32) (rs : Nat) (mu : Nat) (rm : Nat) (ss : Nat) (msz : Nat) (msh : Nat) (mho : Nat) (mhn : Nat) (mhz : Nat) (nb : Int32) (tn : Int32) (tc : Nat) (bo : Nat) (tcf : Nat → Int32) (hb : bo + 1 ≤ 30) (hz : tn = nb) : Ct l G yX6_partsIt cX6_partsIt 3 (some (FieldType.int)) 4 [.ref o, .int x] (wF [wMo o rw fr kp tr ik tp tm mso bg en wd va gd rs mu rm ss msz msh mho mhn mhz 0 nb tn tc bo 0, wI G tc 30 tcf]) (some (.int 0)) (wF [wMo o rw fr kp tr ik tp tm mso bg en wd va gd rs mu rm ss msz msh mho mhn mhz 0 nb tn tc (bo + 1) 1, wI G tc 30 (pF [12] tcf bo)]) := by
  refine Ct.of "GooseArmsModel" [some (.ref o), some (.int x), none] (by decide +kernel) rfl (Nat.le_of_ble_eq_true rfl) rfl ?_
  refine J_aload_n 0 0 dX6_partsIt_0 rfl rfl ?_
  refine g_811 (v := .int 0) 1 0 rfl rfl dX6_partsIt_1 ?_
  refine J_iconst (v := 3) 4 dX6_partsIt_4 rfl ?_
  refine J_icmp_ne (tgt := 24) 5 dX6_partsIt_5 (by decide) (fun _ => ?_) (fun c_1_ => absurd c_1_ (by decide))
  refine J_aload_n 24 0 dX6_partsIt_24 rfl rfl ?_
  refine g_811 (v := .int 0) 25 0 rfl rfl dX6_partsIt_25 ?_
  refine J_iconst (v := 5) 28 dX6_partsIt_28 rfl ?_
  refine J_icmp_ne (tgt := 66) 29 dX6_partsIt_29 (by decide) (fun _ => ?_) (fun c_2_ => absurd c_2_ (by decide))
  refine J_aload_n 66 0 dX6_partsIt_66 rfl rfl ?_
  refine J_iload_n 67 1 dX6_partsIt_67 rfl rfl ?_
  refine kb_RX6_326 (bs' := [wMo o rw fr kp tr ik tp tm mso bg en wd va gd rs mu rm ss msz msh mho mhn mhz 0 nb tn tc (bo + 1) 1, wI G tc 30 (pF [12] tcf bo)]) (rest := []) (st' := [.int 0]) 68 (c_X6_plainParts_0z l G x o rw fr kp tr ik tp tm mso bg en wd va gd rs mu rm ss msz msh mho mhn mhz nb tn tc bo tcf (by first | omega | assumption) (by first | omega | assumption)) [0, 1] 0 rfl rfl rfl [[o], [tc]] rfl rfl rfl rfl rfl rfl (Nat.le_of_ble_eq_true rfl) rfl dX6_partsIt_68 ?_
  exact J_iret 71 dX6_partsIt_71 rfl rfl
set_option maxRecDepth 100000 in
set_option maxHeartbeats 4000000 in
theorem c_X6_plainSwears_0 (l : Launch) (G : Gd) (x : Int32) (o : Nat) (rw : Nat) (fr : Nat) (kp : Nat) (tr : Nat) (ik : Int32) (tp : Nat) (tm : Nat) (mso : Int32) (bg : Nat) (en : Nat) (wd : Int64) (va : Int32) (gd : Int32) (rs : Nat) (mu : Nat) (rm : Nat) (ss : Nat) (msz : Nat) (msh : Nat) (mho : Nat) (mhn : Nat) (mhz : Nat) (nb : Int32) (tn : Int32) (tc : Nat) (bo : Nat) (tcf : Nat → Int32) (hb : bo + 3 ≤ 30) : Ct l G yX6_plainSwears cX6_plainSwears 2 (some (FieldType.int)) 6 [.ref o, .int x] (wF [wMo o rw fr kp tr ik tp tm mso bg en wd va gd rs mu rm ss msz msh mho mhn mhz 0 nb tn tc bo 0, wI G tc 30 tcf]) (some (.int (((x * 5 + nb) - tn) ^^^ 150))) (wF [wMo o rw fr kp tr ik tp tm mso bg en wd va gd rs mu rm ss msz msh mho mhn mhz 0 nb tn tc (bo + 3) 0, wI G tc 30 (pF [13, 11, 10] tcf bo)]) := by
  refine Ct.of "GooseArmsModel" [some (.ref o), some (.int x)] (by decide +kernel) rfl (Nat.le_of_ble_eq_true rfl) rfl ?_
  refine J_aload_n 0 0 dX6_plainSwears_0 rfl rfl ?_
  refine J_bipush (v := 13) 1 dX6_plainSwears_1 rfl ?_
  refine kb_RX6_299 (bs' := [wMo o rw fr kp tr ik tp tm mso bg en wd va gd rs mu rm ss msz msh mho mhn mhz 0 nb tn tc (bo + 1) 0, wI G tc 30 (upd tcf bo 13)]) (rest := []) (st' := []) 3 (c_X6_ran l G 13 o rw fr kp tr ik tp tm mso bg en wd va gd rs mu rm ss msz msh mho mhn mhz 0 nb tn tc bo 0 tcf (by first | omega | assumption)) [0, 1] 0 rfl rfl rfl [[o], [tc]] rfl rfl rfl rfl rfl rfl (Nat.le_of_ble_eq_true rfl) rfl dX6_plainSwears_3 ?_
  refine J_aload_n 6 0 dX6_plainSwears_6 rfl rfl ?_
  refine J_iload_n 7 1 dX6_plainSwears_7 rfl rfl ?_
  refine kb_RX6_329 (bs' := [wMo o rw fr kp tr ik tp tm mso bg en wd va gd rs mu rm ss msz msh mho mhn mhz 0 nb tn tc ((bo + 1) + 2) 0, wI G tc 30 (pF [11, 10] (upd tcf bo 13) (bo + 1))]) (rest := []) (st' := [.int ((x * 5 + nb) - tn)]) 8 (c_X6_readsIt_0 l G x o rw fr kp tr ik tp tm mso bg en wd va gd rs mu rm ss msz msh mho mhn mhz nb tn tc (bo + 1) (upd tcf bo 13) (by first | omega | assumption)) [0, 1] 0 rfl rfl rfl [[o], [tc]] rfl rfl rfl rfl rfl rfl (Nat.le_of_ble_eq_true rfl) rfl dX6_plainSwears_8 ?_
  refine J_sipush (v := 150) 11 dX6_plainSwears_11 rfl ?_
  refine J_ixor 14 dX6_plainSwears_14 ?_
  exact J_iret 15 dX6_plainSwears_15 rfl (cg2 (fun (x0_ : Nat) (x1_ : Nat → Int32) => (wF [wMo o rw fr kp tr ik tp tm mso bg en wd va gd rs mu rm ss msz msh mho mhn mhz 0 nb tn tc x0_ 0, wI G tc 30 x1_])) ((bo + 1) + 2) (bo + 3) (pF [11, 10] (upd tcf bo 13) (bo + 1)) (pF [13, 11, 10] tcf bo) rfl rfl)
set_option maxRecDepth 100000 in
set_option maxHeartbeats 4000000 in
theorem c_X6_swearsIt_0 (l : Launch) (G : Gd) (x : Int32) (o : Nat) (rw : Nat) (fr : Nat) (kp : Nat) (tr : Nat) (ik : Int32) (tp : Nat) (tm : Nat) (mso : Int32) (bg : Nat) (en : Nat) (wd : Int64) (va : Int32) (gd : Int32) (rs : Nat) (mu : Nat) (rm : Nat) (ss : Nat) (msz : Nat) (msh : Nat) (mho : Nat) (mhn : Nat) (mhz : Nat) (nb : Int32) (tn : Int32) (tc : Nat) (bo : Nat) (tcf : Nat → Int32) (hb : bo + 3 ≤ 30) : Ct l G yX6_swearsIt cX6_swearsIt 3 (some (FieldType.int)) 7 [.ref o, .int x] (wF [wMo o rw fr kp tr ik tp tm mso bg en wd va gd rs mu rm ss msz msh mho mhn mhz 0 nb tn tc bo 0, wI G tc 30 tcf]) (some (.int (((x * 5 + nb) - tn) ^^^ 150))) (wF [wMo o rw fr kp tr ik tp tm mso bg en wd va gd rs mu rm ss msz msh mho mhn mhz 0 nb tn tc (bo + 3) 0, wI G tc 30 (pF [13, 11, 10] tcf bo)]) := by
  refine Ct.of "GooseArmsModel" [some (.ref o), some (.int x), none] (by decide +kernel) rfl (Nat.le_of_ble_eq_true rfl) rfl ?_
  refine J_aload_n 0 0 dX6_swearsIt_0 rfl rfl ?_
  refine g_811 (v := .int 0) 1 0 rfl rfl dX6_swearsIt_1 ?_
  refine J_iconst (v := 2) 4 dX6_swearsIt_4 rfl ?_
  refine J_icmp_eq (tgt := 16) 5 dX6_swearsIt_5 (by decide) (fun c_1_ => absurd c_1_ (by decide)) (fun _ => ?_)
  refine J_aload_n 8 0 dX6_swearsIt_8 rfl rfl ?_
  refine g_811 (v := .int 0) 9 0 rfl rfl dX6_swearsIt_9 ?_
  refine J_iconst (v := 4) 12 dX6_swearsIt_12 rfl ?_
  refine J_icmp_ne (tgt := 39) 13 dX6_swearsIt_13 (by decide) (fun _ => ?_) (fun c_2_ => absurd c_2_ (by decide))
  refine J_aload_n 39 0 dX6_swearsIt_39 rfl rfl ?_
  refine g_811 (v := .int 0) 40 0 rfl rfl dX6_swearsIt_40 ?_
  refine J_iconst (v := 5) 43 dX6_swearsIt_43 rfl ?_
  refine J_icmp_ne (tgt := 61) 44 dX6_swearsIt_44 (by decide) (fun _ => ?_) (fun c_3_ => absurd c_3_ (by decide))
  refine J_aload_n 61 0 dX6_swearsIt_61 rfl rfl ?_
  refine J_iload_n 62 1 dX6_swearsIt_62 rfl rfl ?_
  refine kb_RX6_332 (bs' := [wMo o rw fr kp tr ik tp tm mso bg en wd va gd rs mu rm ss msz msh mho mhn mhz 0 nb tn tc (bo + 3) 0, wI G tc 30 (pF [13, 11, 10] tcf bo)]) (rest := []) (st' := [.int (((x * 5 + nb) - tn) ^^^ 150)]) 63 (c_X6_plainSwears_0 l G x o rw fr kp tr ik tp tm mso bg en wd va gd rs mu rm ss msz msh mho mhn mhz nb tn tc bo tcf (by first | omega | assumption)) [0, 1] 0 rfl rfl rfl [[o], [tc]] rfl rfl rfl rfl rfl rfl (Nat.le_of_ble_eq_true rfl) rfl dX6_swearsIt_63 ?_
  exact J_iret 66 dX6_swearsIt_66 rfl rfl
set_option maxRecDepth 100000 in
set_option maxHeartbeats 4000000 in
theorem c_X6_plainShakes_1 (l : Launch) (G : Gd) (x : Int32) (o : Nat) (rw : Nat) (fr : Nat) (kp : Nat) (tr : Nat) (ik : Int32) (tp : Nat) (tm : Nat) (mso : Int32) (bg : Nat) (en : Nat) (wd : Int64) (va : Int32) (gd : Int32) (rs : Nat) (mu : Nat) (rm : Nat) (ss : Nat) (msz : Nat) (msh : Nat) (mho : Nat) (mhn : Nat) (mhz : Nat) (nb : Int32) (tn : Int32) (tc : Nat) (bo : Nat) (tcf : Nat → Int32) (hb : bo + 1 ≤ 30) : Ct l G yX6_plainShakes cX6_plainShakes 2 (some (FieldType.int)) 1 [.ref o, .int x] (wF [wMo o rw fr kp tr ik tp tm mso bg en wd va gd rs mu rm ss msz msh mho mhn mhz 1 nb tn tc bo 0, wI G tc 30 tcf]) (some (.int (x * 5 + nb))) (wF [wMo o rw fr kp tr ik tp tm mso bg en wd va gd rs mu rm ss msz msh mho mhn mhz 1 nb tn tc (bo + 1) 0, wI G tc 30 (pF [10] tcf bo)]) := by
  refine Ct.of "GooseArmsModel" [some (.ref o), some (.int x)] (by decide +kernel) rfl (Nat.le_of_ble_eq_true rfl) rfl ?_
  refine J_aload_n 0 0 dX6_plainShakes_0 rfl rfl ?_
  refine J_bipush (v := 10) 1 dX6_plainShakes_1 rfl ?_
  refine kb_RX6_299 (bs' := [wMo o rw fr kp tr ik tp tm mso bg en wd va gd rs mu rm ss msz msh mho mhn mhz 1 nb tn tc (bo + 1) 0, wI G tc 30 (upd tcf bo 10)]) (rest := []) (st' := []) 3 (c_X6_ran l G 10 o rw fr kp tr ik tp tm mso bg en wd va gd rs mu rm ss msz msh mho mhn mhz 1 nb tn tc bo 0 tcf (by first | omega | assumption)) [0, 1] 0 rfl rfl rfl [[o], [tc]] rfl rfl rfl rfl rfl rfl (Nat.le_of_ble_eq_true rfl) rfl dX6_plainShakes_3 ?_
  refine J_iload_n 6 1 dX6_plainShakes_6 rfl rfl ?_
  refine J_iconst (v := 5) 7 dX6_plainShakes_7 rfl ?_
  refine J_imul 8 dX6_plainShakes_8 ?_
  refine J_aload_n 9 0 dX6_plainShakes_9 rfl rfl ?_
  refine g_812 (v := .int nb) 10 0 rfl rfl dX6_plainShakes_10 ?_
  refine J_iadd 13 dX6_plainShakes_13 ?_
  exact J_iret 14 dX6_plainShakes_14 (congrArg (fun x_ => some (Value.int x_)) (by first | rfl | grind)) (cg1 (fun (x0_ : Nat → Int32) => (wF [wMo o rw fr kp tr ik tp tm mso bg en wd va gd rs mu rm ss msz msh mho mhn mhz 1 nb tn tc (bo + 1) 0, wI G tc 30 x0_])) (upd tcf bo 10) (pF [10] tcf bo) rfl)
set_option maxRecDepth 100000 in
set_option maxHeartbeats 4000000 in
theorem c_X6_advocateShakes_1 (l : Launch) (G : Gd) (x : Int32) (o : Nat) (rw : Nat) (fr : Nat) (kp : Nat) (tr : Nat) (ik : Int32) (tp : Nat) (tm : Nat) (mso : Int32) (bg : Nat) (en : Nat) (wd : Int64) (va : Int32) (gd : Int32) (rs : Nat) (mu : Nat) (rm : Nat) (ss : Nat) (msz : Nat) (msh : Nat) (mho : Nat) (mhn : Nat) (mhz : Nat) (nb : Int32) (tn : Int32) (tc : Nat) (bo : Nat) (tcf : Nat → Int32) (hb : bo + 2 ≤ 30) : Ct l G yX6_advocateShakes cX6_advocateShakes 2 (some (FieldType.int)) 2 [.ref o, .int x] (wF [wMo o rw fr kp tr ik tp tm mso bg en wd va gd rs mu rm ss msz msh mho mhn mhz 1 nb tn tc bo 0, wI G tc 30 tcf]) (some (.int ((x * 5 + nb) - 4))) (wF [wMo o rw fr kp tr ik tp tm mso bg en wd va gd rs mu rm ss msz msh mho mhn mhz 1 nb tn tc (bo + 2) 0, wI G tc 30 (pF [30, 10] tcf bo)]) := by
  refine Ct.of "GooseArmsModel" [some (.ref o), some (.int x)] (by decide +kernel) rfl (Nat.le_of_ble_eq_true rfl) rfl ?_
  refine J_aload_n 0 0 dX6_advocateShakes_0 rfl rfl ?_
  refine J_bipush (v := 30) 1 dX6_advocateShakes_1 rfl ?_
  refine kb_RX6_299 (bs' := [wMo o rw fr kp tr ik tp tm mso bg en wd va gd rs mu rm ss msz msh mho mhn mhz 1 nb tn tc (bo + 1) 0, wI G tc 30 (upd tcf bo 30)]) (rest := []) (st' := []) 3 (c_X6_ran l G 30 o rw fr kp tr ik tp tm mso bg en wd va gd rs mu rm ss msz msh mho mhn mhz 1 nb tn tc bo 0 tcf (by first | omega | assumption)) [0, 1] 0 rfl rfl rfl [[o], [tc]] rfl rfl rfl rfl rfl rfl (Nat.le_of_ble_eq_true rfl) rfl dX6_advocateShakes_3 ?_
  refine J_aload_n 6 0 dX6_advocateShakes_6 rfl rfl ?_
  refine J_iload_n 7 1 dX6_advocateShakes_7 rfl rfl ?_
  refine kb_RX6_305 (bs' := [wMo o rw fr kp tr ik tp tm mso bg en wd va gd rs mu rm ss msz msh mho mhn mhz 1 nb tn tc ((bo + 1) + 1) 0, wI G tc 30 (pF [10] (upd tcf bo 30) (bo + 1))]) (rest := []) (st' := [.int (x * 5 + nb)]) 8 (c_X6_plainShakes_1 l G x o rw fr kp tr ik tp tm mso bg en wd va gd rs mu rm ss msz msh mho mhn mhz nb tn tc (bo + 1) (upd tcf bo 30) (by first | omega | assumption)) [0, 1] 0 rfl rfl rfl [[o], [tc]] rfl rfl rfl rfl rfl rfl (Nat.le_of_ble_eq_true rfl) rfl dX6_advocateShakes_8 ?_
  refine J_iconst (v := 4) 11 dX6_advocateShakes_11 rfl ?_
  refine J_isub 12 dX6_advocateShakes_12 ?_
  exact J_iret 13 dX6_advocateShakes_13 rfl (cg2 (fun (x0_ : Nat) (x1_ : Nat → Int32) => (wF [wMo o rw fr kp tr ik tp tm mso bg en wd va gd rs mu rm ss msz msh mho mhn mhz 1 nb tn tc x0_ 0, wI G tc 30 x1_])) ((bo + 1) + 1) (bo + 2) (pF [10] (upd tcf bo 30) (bo + 1)) (pF [30, 10] tcf bo) rfl rfl)
set_option maxRecDepth 100000 in
set_option maxHeartbeats 4000000 in
theorem c_X6_shakesIt_1 (l : Launch) (G : Gd) (x : Int32) (o : Nat) (rw : Nat) (fr : Nat) (kp : Nat) (tr : Nat) (ik : Int32) (tp : Nat) (tm : Nat) (mso : Int32) (bg : Nat) (en : Nat) (wd : Int64) (va : Int32) (gd : Int32) (rs : Nat) (mu : Nat) (rm : Nat) (ss : Nat) (msz : Nat) (msh : Nat) (mho : Nat) (mhn : Nat) (mhz : Nat) (nb : Int32) (tn : Int32) (tc : Nat) (bo : Nat) (tcf : Nat → Int32) (hb : bo + 1 ≤ 30) : Ct l G yX6_shakesIt cX6_shakesIt 2 (some (FieldType.int)) 3 [.ref o, .int x] (wF [wMo o rw fr kp tr ik tp tm mso bg en wd va gd rs mu rm ss msz msh mho mhn mhz 1 nb tn tc bo 0, wI G tc 30 tcf]) (some (.int (x * 5 + nb))) (wF [wMo o rw fr kp tr ik tp tm mso bg en wd va gd rs mu rm ss msz msh mho mhn mhz 1 nb tn tc (bo + 1) 0, wI G tc 30 (pF [10] tcf bo)]) := by
  refine Ct.of "GooseArmsModel" [some (.ref o), some (.int x)] (by decide +kernel) rfl (Nat.le_of_ble_eq_true rfl) rfl ?_
  refine J_aload_n 0 0 dX6_shakesIt_0 rfl rfl ?_
  refine g_811 (v := .int 1) 1 0 rfl rfl dX6_shakesIt_1 ?_
  refine J_tableOut (tgt := 68) 4 dX6_shakesIt_4 (by decide +kernel) (by decide) ?_
  refine J_aload_n 68 0 dX6_shakesIt_68 rfl rfl ?_
  refine J_iload_n 69 1 dX6_shakesIt_69 rfl rfl ?_
  refine kb_RX6_305 (bs' := [wMo o rw fr kp tr ik tp tm mso bg en wd va gd rs mu rm ss msz msh mho mhn mhz 1 nb tn tc (bo + 1) 0, wI G tc 30 (pF [10] tcf bo)]) (rest := []) (st' := [.int (x * 5 + nb)]) 70 (c_X6_plainShakes_1 l G x o rw fr kp tr ik tp tm mso bg en wd va gd rs mu rm ss msz msh mho mhn mhz nb tn tc bo tcf (by first | omega | assumption)) [0, 1] 0 rfl rfl rfl [[o], [tc]] rfl rfl rfl rfl rfl rfl (Nat.le_of_ble_eq_true rfl) rfl dX6_shakesIt_70 ?_
  exact J_iret 73 dX6_shakesIt_73 rfl rfl
set_option maxRecDepth 100000 in
set_option maxHeartbeats 4000000 in
theorem c_X6_plainReads_1 (l : Launch) (G : Gd) (x : Int32) (o : Nat) (rw : Nat) (fr : Nat) (kp : Nat) (tr : Nat) (ik : Int32) (tp : Nat) (tm : Nat) (mso : Int32) (bg : Nat) (en : Nat) (wd : Int64) (va : Int32) (gd : Int32) (rs : Nat) (mu : Nat) (rm : Nat) (ss : Nat) (msz : Nat) (msh : Nat) (mho : Nat) (mhn : Nat) (mhz : Nat) (nb : Int32) (tn : Int32) (tc : Nat) (bo : Nat) (tcf : Nat → Int32) (hb : bo + 2 ≤ 30) : Ct l G yX6_plainReads cX6_plainReads 2 (some (FieldType.int)) 4 [.ref o, .int x] (wF [wMo o rw fr kp tr ik tp tm mso bg en wd va gd rs mu rm ss msz msh mho mhn mhz 1 nb tn tc bo 0, wI G tc 30 tcf]) (some (.int ((x * 5 + nb) - tn))) (wF [wMo o rw fr kp tr ik tp tm mso bg en wd va gd rs mu rm ss msz msh mho mhn mhz 1 nb tn tc (bo + 2) 0, wI G tc 30 (pF [11, 10] tcf bo)]) := by
  refine Ct.of "GooseArmsModel" [some (.ref o), some (.int x)] (by decide +kernel) rfl (Nat.le_of_ble_eq_true rfl) rfl ?_
  refine J_aload_n 0 0 dX6_plainReads_0 rfl rfl ?_
  refine J_bipush (v := 11) 1 dX6_plainReads_1 rfl ?_
  refine kb_RX6_299 (bs' := [wMo o rw fr kp tr ik tp tm mso bg en wd va gd rs mu rm ss msz msh mho mhn mhz 1 nb tn tc (bo + 1) 0, wI G tc 30 (upd tcf bo 11)]) (rest := []) (st' := []) 3 (c_X6_ran l G 11 o rw fr kp tr ik tp tm mso bg en wd va gd rs mu rm ss msz msh mho mhn mhz 1 nb tn tc bo 0 tcf (by first | omega | assumption)) [0, 1] 0 rfl rfl rfl [[o], [tc]] rfl rfl rfl rfl rfl rfl (Nat.le_of_ble_eq_true rfl) rfl dX6_plainReads_3 ?_
  refine J_aload_n 6 0 dX6_plainReads_6 rfl rfl ?_
  refine J_iload_n 7 1 dX6_plainReads_7 rfl rfl ?_
  refine kb_RX6_317 (bs' := [wMo o rw fr kp tr ik tp tm mso bg en wd va gd rs mu rm ss msz msh mho mhn mhz 1 nb tn tc ((bo + 1) + 1) 0, wI G tc 30 (pF [10] (upd tcf bo 11) (bo + 1))]) (rest := []) (st' := [.int (x * 5 + nb)]) 8 (c_X6_shakesIt_1 l G x o rw fr kp tr ik tp tm mso bg en wd va gd rs mu rm ss msz msh mho mhn mhz nb tn tc (bo + 1) (upd tcf bo 11) (by first | omega | assumption)) [0, 1] 0 rfl rfl rfl [[o], [tc]] rfl rfl rfl rfl rfl rfl (Nat.le_of_ble_eq_true rfl) rfl dX6_plainReads_8 ?_
  refine J_aload_n 11 0 dX6_plainReads_11 rfl rfl ?_
  refine g_813 (v := .int tn) 12 0 rfl rfl dX6_plainReads_12 ?_
  refine J_isub 15 dX6_plainReads_15 ?_
  exact J_iret 16 dX6_plainReads_16 rfl (cg2 (fun (x0_ : Nat) (x1_ : Nat → Int32) => (wF [wMo o rw fr kp tr ik tp tm mso bg en wd va gd rs mu rm ss msz msh mho mhn mhz 1 nb tn tc x0_ 0, wI G tc 30 x1_])) ((bo + 1) + 1) (bo + 2) (pF [10] (upd tcf bo 11) (bo + 1)) (pF [11, 10] tcf bo) rfl rfl)
set_option maxRecDepth 100000 in
set_option maxHeartbeats 4000000 in
theorem c_X6_readsIt_1 (l : Launch) (G : Gd) (x : Int32) (o : Nat) (rw : Nat) (fr : Nat) (kp : Nat) (tr : Nat) (ik : Int32) (tp : Nat) (tm : Nat) (mso : Int32) (bg : Nat) (en : Nat) (wd : Int64) (va : Int32) (gd : Int32) (rs : Nat) (mu : Nat) (rm : Nat) (ss : Nat) (msz : Nat) (msh : Nat) (mho : Nat) (mhn : Nat) (mhz : Nat) (nb : Int32) (tn : Int32) (tc : Nat) (bo : Nat) (tcf : Nat → Int32) (hb : bo + 3 ≤ 30) : Ct l G yX6_readsIt cX6_readsIt 3 (some (FieldType.int)) 5 [.ref o, .int x] (wF [wMo o rw fr kp tr ik tp tm mso bg en wd va gd rs mu rm ss msz msh mho mhn mhz 1 nb tn tc bo 0, wI G tc 30 tcf]) (some (.int (((x * 5 + nb) - tn) * 2))) (wF [wMo o rw fr kp tr ik tp tm mso bg en wd va gd rs mu rm ss msz msh mho mhn mhz 1 nb tn tc (bo + 3) 0, wI G tc 30 (pF [20, 11, 10] tcf bo)]) := by
  refine Ct.of "GooseArmsModel" [some (.ref o), some (.int x), none] (by decide +kernel) rfl (Nat.le_of_ble_eq_true rfl) rfl ?_
  refine J_aload_n 0 0 dX6_readsIt_0 rfl rfl ?_
  refine g_811 (v := .int 1) 1 0 rfl rfl dX6_readsIt_1 ?_
  refine J_iconst (v := 1) 4 dX6_readsIt_4 rfl ?_
  refine J_icmp_eq (tgt := 16) 5 dX6_readsIt_5 (by decide) (fun _ => ?_) (fun c_1_ => absurd c_1_ (by decide))
  refine J_aload_n 16 0 dX6_readsIt_16 rfl rfl ?_
  refine J_bipush (v := 20) 17 dX6_readsIt_17 rfl ?_
  refine kb_RX6_299 (bs' := [wMo o rw fr kp tr ik tp tm mso bg en wd va gd rs mu rm ss msz msh mho mhn mhz 1 nb tn tc (bo + 1) 0, wI G tc 30 (upd tcf bo 20)]) (rest := []) (st' := []) 19 (c_X6_ran l G 20 o rw fr kp tr ik tp tm mso bg en wd va gd rs mu rm ss msz msh mho mhn mhz 1 nb tn tc bo 0 tcf (by first | omega | assumption)) [0, 1] 0 rfl rfl rfl [[o], [tc]] rfl rfl rfl rfl rfl rfl (Nat.le_of_ble_eq_true rfl) rfl dX6_readsIt_19 ?_
  refine J_aload_n 22 0 dX6_readsIt_22 rfl rfl ?_
  refine J_iload_n 23 1 dX6_readsIt_23 rfl rfl ?_
  refine kb_RX6_320 (bs' := [wMo o rw fr kp tr ik tp tm mso bg en wd va gd rs mu rm ss msz msh mho mhn mhz 1 nb tn tc ((bo + 1) + 2) 0, wI G tc 30 (pF [11, 10] (upd tcf bo 20) (bo + 1))]) (rest := []) (st' := [.int ((x * 5 + nb) - tn)]) 24 (c_X6_plainReads_1 l G x o rw fr kp tr ik tp tm mso bg en wd va gd rs mu rm ss msz msh mho mhn mhz nb tn tc (bo + 1) (upd tcf bo 20) (by first | omega | assumption)) [0, 1] 0 rfl rfl rfl [[o], [tc]] rfl rfl rfl rfl rfl rfl (Nat.le_of_ble_eq_true rfl) rfl dX6_readsIt_24 ?_
  refine J_iconst (v := 2) 27 dX6_readsIt_27 rfl ?_
  refine J_imul 28 dX6_readsIt_28 ?_
  exact J_iret 29 dX6_readsIt_29 rfl (cg2 (fun (x0_ : Nat) (x1_ : Nat → Int32) => (wF [wMo o rw fr kp tr ik tp tm mso bg en wd va gd rs mu rm ss msz msh mho mhn mhz 1 nb tn tc x0_ 0, wI G tc 30 x1_])) ((bo + 1) + 2) (bo + 3) (pF [11, 10] (upd tcf bo 20) (bo + 1)) (pF [20, 11, 10] tcf bo) rfl rfl)
set_option maxRecDepth 100000 in
set_option maxHeartbeats 4000000 in
theorem c_X6_plainParts_1 (l : Launch) (G : Gd) (x : Int32) (o : Nat) (rw : Nat) (fr : Nat) (kp : Nat) (tr : Nat) (ik : Int32) (tp : Nat) (tm : Nat) (mso : Int32) (bg : Nat) (en : Nat) (wd : Int64) (va : Int32) (gd : Int32) (rs : Nat) (mu : Nat) (rm : Nat) (ss : Nat) (msz : Nat) (msh : Nat) (mho : Nat) (mhn : Nat) (mhz : Nat) (nb : Int32) (tn : Int32) (tc : Nat) (bo : Nat) (tcf : Nat → Int32) (hb : bo + 1 ≤ 30) (hz : ¬ tn = nb) : Ct l G yX6_plainParts cX6_plainParts 2 (some (FieldType.int)) 1 [.ref o, .int x] (wF [wMo o rw fr kp tr ik tp tm mso bg en wd va gd rs mu rm ss msz msh mho mhn mhz 1 nb tn tc bo 0, wI G tc 30 tcf]) (some (.int (x / (tn - nb)))) (wF [wMo o rw fr kp tr ik tp tm mso bg en wd va gd rs mu rm ss msz msh mho mhn mhz 1 nb tn tc (bo + 1) 0, wI G tc 30 (pF [12] tcf bo)]) := by
  refine Ct.of "GooseArmsModel" [some (.ref o), some (.int x)] (by decide +kernel) rfl (Nat.le_of_ble_eq_true rfl) rfl ?_
  refine J_aload_n 0 0 dX6_plainParts_0 rfl rfl ?_
  refine J_bipush (v := 12) 1 dX6_plainParts_1 rfl ?_
  refine kb_RX6_299 (bs' := [wMo o rw fr kp tr ik tp tm mso bg en wd va gd rs mu rm ss msz msh mho mhn mhz 1 nb tn tc (bo + 1) 0, wI G tc 30 (upd tcf bo 12)]) (rest := []) (st' := []) 3 (c_X6_ran l G 12 o rw fr kp tr ik tp tm mso bg en wd va gd rs mu rm ss msz msh mho mhn mhz 1 nb tn tc bo 0 tcf (by first | omega | assumption)) [0, 1] 0 rfl rfl rfl [[o], [tc]] rfl rfl rfl rfl rfl rfl (Nat.le_of_ble_eq_true rfl) rfl dX6_plainParts_3 ?_
  refine J_aload_n 6 0 dX6_plainParts_6 rfl rfl ?_
  refine g_813 (v := .int tn) 7 0 rfl rfl dX6_plainParts_7 ?_
  refine J_aload_n 10 0 dX6_plainParts_10 rfl rfl ?_
  refine g_812 (v := .int nb) 11 0 rfl rfl dX6_plainParts_11 ?_
  refine J_icmp_ne (tgt := 24) 14 dX6_plainParts_14 (by decide) (fun c_1_ => ?_) (fun c_1_ => ?_)
  · skip
    refine J_iload_n 24 1 dX6_plainParts_24 rfl rfl ?_
    refine J_aload_n 25 0 dX6_plainParts_25 rfl rfl ?_
    refine g_813 (v := .int tn) 26 0 rfl rfl dX6_plainParts_26 ?_
    refine J_aload_n 29 0 dX6_plainParts_29 rfl rfl ?_
    refine g_812 (v := .int nb) 30 0 rfl rfl dX6_plainParts_30 ?_
    refine J_isub 33 dX6_plainParts_33 ?_
    refine J_idiv 34 dX6_plainParts_34 (sub_ne0 hz) ?_
    exact J_iret 35 dX6_plainParts_35 rfl (cg1 (fun (x0_ : Nat → Int32) => (wF [wMo o rw fr kp tr ik tp tm mso bg en wd va gd rs mu rm ss msz msh mho mhn mhz 1 nb tn tc (bo + 1) 0, wI G tc 30 x0_])) (upd tcf bo 12) (pF [12] tcf bo) rfl)
  · skip
    exact absurd c_1_ hz
set_option maxRecDepth 100000 in
set_option maxHeartbeats 4000000 in
theorem c_X6_plainParts_1z (l : Launch) (G : Gd) (x : Int32) (o : Nat) (rw : Nat) (fr : Nat) (kp : Nat) (tr : Nat) (ik : Int32) (tp : Nat) (tm : Nat) (mso : Int32) (bg : Nat) (en : Nat) (wd : Int64) (va : Int32) (gd : Int32) (rs : Nat) (mu : Nat) (rm : Nat) (ss : Nat) (msz : Nat) (msh : Nat) (mho : Nat) (mhn : Nat) (mhz : Nat) (nb : Int32) (tn : Int32) (tc : Nat) (bo : Nat) (tcf : Nat → Int32) (hb : bo + 1 ≤ 30) (hz : tn = nb) : Ct l G yX6_plainParts cX6_plainParts 2 (some (FieldType.int)) 1 [.ref o, .int x] (wF [wMo o rw fr kp tr ik tp tm mso bg en wd va gd rs mu rm ss msz msh mho mhn mhz 1 nb tn tc bo 0, wI G tc 30 tcf]) (some (.int 0)) (wF [wMo o rw fr kp tr ik tp tm mso bg en wd va gd rs mu rm ss msz msh mho mhn mhz 1 nb tn tc (bo + 1) 1, wI G tc 30 (pF [12] tcf bo)]) := by
  refine Ct.of "GooseArmsModel" [some (.ref o), some (.int x)] (by decide +kernel) rfl (Nat.le_of_ble_eq_true rfl) rfl ?_
  refine J_aload_n 0 0 dX6_plainParts_0 rfl rfl ?_
  refine J_bipush (v := 12) 1 dX6_plainParts_1 rfl ?_
  refine kb_RX6_299 (bs' := [wMo o rw fr kp tr ik tp tm mso bg en wd va gd rs mu rm ss msz msh mho mhn mhz 1 nb tn tc (bo + 1) 0, wI G tc 30 (upd tcf bo 12)]) (rest := []) (st' := []) 3 (c_X6_ran l G 12 o rw fr kp tr ik tp tm mso bg en wd va gd rs mu rm ss msz msh mho mhn mhz 1 nb tn tc bo 0 tcf (by first | omega | assumption)) [0, 1] 0 rfl rfl rfl [[o], [tc]] rfl rfl rfl rfl rfl rfl (Nat.le_of_ble_eq_true rfl) rfl dX6_plainParts_3 ?_
  refine J_aload_n 6 0 dX6_plainParts_6 rfl rfl ?_
  refine g_813 (v := .int tn) 7 0 rfl rfl dX6_plainParts_7 ?_
  refine J_aload_n 10 0 dX6_plainParts_10 rfl rfl ?_
  refine g_812 (v := .int nb) 11 0 rfl rfl dX6_plainParts_11 ?_
  refine J_icmp_ne (tgt := 24) 14 dX6_plainParts_14 (by decide) (fun c_1_ => ?_) (fun c_1_ => ?_)
  · skip
    exact absurd hz c_1_
  · skip
    refine J_aload_n 17 0 dX6_plainParts_17 rfl rfl ?_
    refine J_iconst (v := 1) 18 dX6_plainParts_18 rfl ?_
    refine p_816 (ws' := (wF [wMo o rw fr kp tr ik tp tm mso bg en wd va gd rs mu rm ss msz msh mho mhn mhz 1 nb tn tc (bo + 1) 1, wI G tc 30 (upd tcf bo 12)])) 19 0 rfl rfl rfl (Nat.le_of_ble_eq_true rfl) rfl dX6_plainParts_19 ?_
    refine J_iconst (v := 0) 22 dX6_plainParts_22 rfl ?_
    exact J_iret 23 dX6_plainParts_23 rfl (cg1 (fun (x0_ : Nat → Int32) => (wF [wMo o rw fr kp tr ik tp tm mso bg en wd va gd rs mu rm ss msz msh mho mhn mhz 1 nb tn tc (bo + 1) 1, wI G tc 30 x0_])) (upd tcf bo 12) (pF [12] tcf bo) rfl)
set_option maxRecDepth 100000 in
set_option maxHeartbeats 4000000 in
theorem c_X6_partsIt_1 (l : Launch) (G : Gd) (x : Int32) (o : Nat) (rw : Nat) (fr : Nat) (kp : Nat) (tr : Nat) (ik : Int32) (tp : Nat) (tm : Nat) (mso : Int32) (bg : Nat) (en : Nat) (wd : Int64) (va : Int32) (gd : Int32) (rs : Nat) (mu : Nat) (rm : Nat) (ss : Nat) (msz : Nat) (msh : Nat) (mho : Nat) (mhn : Nat) (mhz : Nat) (nb : Int32) (tn : Int32) (tc : Nat) (bo : Nat) (tcf : Nat → Int32) (hb : bo + 1 ≤ 30) (hz : ¬ tn = nb) : Ct l G yX6_partsIt cX6_partsIt 3 (some (FieldType.int)) 4 [.ref o, .int x] (wF [wMo o rw fr kp tr ik tp tm mso bg en wd va gd rs mu rm ss msz msh mho mhn mhz 1 nb tn tc bo 0, wI G tc 30 tcf]) (some (.int (x / (tn - nb)))) (wF [wMo o rw fr kp tr ik tp tm mso bg en wd va gd rs mu rm ss msz msh mho mhn mhz 1 nb tn tc (bo + 1) 0, wI G tc 30 (pF [12] tcf bo)]) := by
  refine Ct.of "GooseArmsModel" [some (.ref o), some (.int x), none] (by decide +kernel) rfl (Nat.le_of_ble_eq_true rfl) rfl ?_
  refine J_aload_n 0 0 dX6_partsIt_0 rfl rfl ?_
  refine g_811 (v := .int 1) 1 0 rfl rfl dX6_partsIt_1 ?_
  refine J_iconst (v := 3) 4 dX6_partsIt_4 rfl ?_
  refine J_icmp_ne (tgt := 24) 5 dX6_partsIt_5 (by decide) (fun _ => ?_) (fun c_1_ => absurd c_1_ (by decide))
  refine J_aload_n 24 0 dX6_partsIt_24 rfl rfl ?_
  refine g_811 (v := .int 1) 25 0 rfl rfl dX6_partsIt_25 ?_
  refine J_iconst (v := 5) 28 dX6_partsIt_28 rfl ?_
  refine J_icmp_ne (tgt := 66) 29 dX6_partsIt_29 (by decide) (fun _ => ?_) (fun c_2_ => absurd c_2_ (by decide))
  refine J_aload_n 66 0 dX6_partsIt_66 rfl rfl ?_
  refine J_iload_n 67 1 dX6_partsIt_67 rfl rfl ?_
  refine kb_RX6_326 (bs' := [wMo o rw fr kp tr ik tp tm mso bg en wd va gd rs mu rm ss msz msh mho mhn mhz 1 nb tn tc (bo + 1) 0, wI G tc 30 (pF [12] tcf bo)]) (rest := []) (st' := [.int (x / (tn - nb))]) 68 (c_X6_plainParts_1 l G x o rw fr kp tr ik tp tm mso bg en wd va gd rs mu rm ss msz msh mho mhn mhz nb tn tc bo tcf (by first | omega | assumption) (by first | omega | assumption)) [0, 1] 0 rfl rfl rfl [[o], [tc]] rfl rfl rfl rfl rfl rfl (Nat.le_of_ble_eq_true rfl) rfl dX6_partsIt_68 ?_
  exact J_iret 71 dX6_partsIt_71 rfl rfl
set_option maxRecDepth 100000 in
set_option maxHeartbeats 4000000 in
theorem c_X6_partsIt_1z (l : Launch) (G : Gd) (x : Int32) (o : Nat) (rw : Nat) (fr : Nat) (kp : Nat) (tr : Nat) (ik : Int32) (tp : Nat) (tm : Nat) (mso : Int32) (bg : Nat) (en : Nat) (wd : Int64) (va : Int32) (gd : Int32) (rs : Nat) (mu : Nat) (rm : Nat) (ss : Nat) (msz : Nat) (msh : Nat) (mho : Nat) (mhn : Nat) (mhz : Nat) (nb : Int32) (tn : Int32) (tc : Nat) (bo : Nat) (tcf : Nat → Int32) (hb : bo + 1 ≤ 30) (hz : tn = nb) : Ct l G yX6_partsIt cX6_partsIt 3 (some (FieldType.int)) 4 [.ref o, .int x] (wF [wMo o rw fr kp tr ik tp tm mso bg en wd va gd rs mu rm ss msz msh mho mhn mhz 1 nb tn tc bo 0, wI G tc 30 tcf]) (some (.int 0)) (wF [wMo o rw fr kp tr ik tp tm mso bg en wd va gd rs mu rm ss msz msh mho mhn mhz 1 nb tn tc (bo + 1) 1, wI G tc 30 (pF [12] tcf bo)]) := by
  refine Ct.of "GooseArmsModel" [some (.ref o), some (.int x), none] (by decide +kernel) rfl (Nat.le_of_ble_eq_true rfl) rfl ?_
  refine J_aload_n 0 0 dX6_partsIt_0 rfl rfl ?_
  refine g_811 (v := .int 1) 1 0 rfl rfl dX6_partsIt_1 ?_
  refine J_iconst (v := 3) 4 dX6_partsIt_4 rfl ?_
  refine J_icmp_ne (tgt := 24) 5 dX6_partsIt_5 (by decide) (fun _ => ?_) (fun c_1_ => absurd c_1_ (by decide))
  refine J_aload_n 24 0 dX6_partsIt_24 rfl rfl ?_
  refine g_811 (v := .int 1) 25 0 rfl rfl dX6_partsIt_25 ?_
  refine J_iconst (v := 5) 28 dX6_partsIt_28 rfl ?_
  refine J_icmp_ne (tgt := 66) 29 dX6_partsIt_29 (by decide) (fun _ => ?_) (fun c_2_ => absurd c_2_ (by decide))
  refine J_aload_n 66 0 dX6_partsIt_66 rfl rfl ?_
  refine J_iload_n 67 1 dX6_partsIt_67 rfl rfl ?_
  refine kb_RX6_326 (bs' := [wMo o rw fr kp tr ik tp tm mso bg en wd va gd rs mu rm ss msz msh mho mhn mhz 1 nb tn tc (bo + 1) 1, wI G tc 30 (pF [12] tcf bo)]) (rest := []) (st' := [.int 0]) 68 (c_X6_plainParts_1z l G x o rw fr kp tr ik tp tm mso bg en wd va gd rs mu rm ss msz msh mho mhn mhz nb tn tc bo tcf (by first | omega | assumption) (by first | omega | assumption)) [0, 1] 0 rfl rfl rfl [[o], [tc]] rfl rfl rfl rfl rfl rfl (Nat.le_of_ble_eq_true rfl) rfl dX6_partsIt_68 ?_
  exact J_iret 71 dX6_partsIt_71 rfl rfl
set_option maxRecDepth 100000 in
set_option maxHeartbeats 4000000 in
theorem c_X6_plainSwears_1 (l : Launch) (G : Gd) (x : Int32) (o : Nat) (rw : Nat) (fr : Nat) (kp : Nat) (tr : Nat) (ik : Int32) (tp : Nat) (tm : Nat) (mso : Int32) (bg : Nat) (en : Nat) (wd : Int64) (va : Int32) (gd : Int32) (rs : Nat) (mu : Nat) (rm : Nat) (ss : Nat) (msz : Nat) (msh : Nat) (mho : Nat) (mhn : Nat) (mhz : Nat) (nb : Int32) (tn : Int32) (tc : Nat) (bo : Nat) (tcf : Nat → Int32) (hb : bo + 4 ≤ 30) : Ct l G yX6_plainSwears cX6_plainSwears 2 (some (FieldType.int)) 6 [.ref o, .int x] (wF [wMo o rw fr kp tr ik tp tm mso bg en wd va gd rs mu rm ss msz msh mho mhn mhz 1 nb tn tc bo 0, wI G tc 30 tcf]) (some (.int ((((x * 5 + nb) - tn) * 2) ^^^ 150))) (wF [wMo o rw fr kp tr ik tp tm mso bg en wd va gd rs mu rm ss msz msh mho mhn mhz 1 nb tn tc (bo + 4) 0, wI G tc 30 (pF [13, 20, 11, 10] tcf bo)]) := by
  refine Ct.of "GooseArmsModel" [some (.ref o), some (.int x)] (by decide +kernel) rfl (Nat.le_of_ble_eq_true rfl) rfl ?_
  refine J_aload_n 0 0 dX6_plainSwears_0 rfl rfl ?_
  refine J_bipush (v := 13) 1 dX6_plainSwears_1 rfl ?_
  refine kb_RX6_299 (bs' := [wMo o rw fr kp tr ik tp tm mso bg en wd va gd rs mu rm ss msz msh mho mhn mhz 1 nb tn tc (bo + 1) 0, wI G tc 30 (upd tcf bo 13)]) (rest := []) (st' := []) 3 (c_X6_ran l G 13 o rw fr kp tr ik tp tm mso bg en wd va gd rs mu rm ss msz msh mho mhn mhz 1 nb tn tc bo 0 tcf (by first | omega | assumption)) [0, 1] 0 rfl rfl rfl [[o], [tc]] rfl rfl rfl rfl rfl rfl (Nat.le_of_ble_eq_true rfl) rfl dX6_plainSwears_3 ?_
  refine J_aload_n 6 0 dX6_plainSwears_6 rfl rfl ?_
  refine J_iload_n 7 1 dX6_plainSwears_7 rfl rfl ?_
  refine kb_RX6_329 (bs' := [wMo o rw fr kp tr ik tp tm mso bg en wd va gd rs mu rm ss msz msh mho mhn mhz 1 nb tn tc ((bo + 1) + 3) 0, wI G tc 30 (pF [20, 11, 10] (upd tcf bo 13) (bo + 1))]) (rest := []) (st' := [.int (((x * 5 + nb) - tn) * 2)]) 8 (c_X6_readsIt_1 l G x o rw fr kp tr ik tp tm mso bg en wd va gd rs mu rm ss msz msh mho mhn mhz nb tn tc (bo + 1) (upd tcf bo 13) (by first | omega | assumption)) [0, 1] 0 rfl rfl rfl [[o], [tc]] rfl rfl rfl rfl rfl rfl (Nat.le_of_ble_eq_true rfl) rfl dX6_plainSwears_8 ?_
  refine J_sipush (v := 150) 11 dX6_plainSwears_11 rfl ?_
  refine J_ixor 14 dX6_plainSwears_14 ?_
  exact J_iret 15 dX6_plainSwears_15 rfl (cg2 (fun (x0_ : Nat) (x1_ : Nat → Int32) => (wF [wMo o rw fr kp tr ik tp tm mso bg en wd va gd rs mu rm ss msz msh mho mhn mhz 1 nb tn tc x0_ 0, wI G tc 30 x1_])) ((bo + 1) + 3) (bo + 4) (pF [20, 11, 10] (upd tcf bo 13) (bo + 1)) (pF [13, 20, 11, 10] tcf bo) rfl rfl)
set_option maxRecDepth 100000 in
set_option maxHeartbeats 4000000 in
theorem c_X6_swearsIt_1 (l : Launch) (G : Gd) (x : Int32) (o : Nat) (rw : Nat) (fr : Nat) (kp : Nat) (tr : Nat) (ik : Int32) (tp : Nat) (tm : Nat) (mso : Int32) (bg : Nat) (en : Nat) (wd : Int64) (va : Int32) (gd : Int32) (rs : Nat) (mu : Nat) (rm : Nat) (ss : Nat) (msz : Nat) (msh : Nat) (mho : Nat) (mhn : Nat) (mhz : Nat) (nb : Int32) (tn : Int32) (tc : Nat) (bo : Nat) (tcf : Nat → Int32) (hb : bo + 4 ≤ 30) : Ct l G yX6_swearsIt cX6_swearsIt 3 (some (FieldType.int)) 7 [.ref o, .int x] (wF [wMo o rw fr kp tr ik tp tm mso bg en wd va gd rs mu rm ss msz msh mho mhn mhz 1 nb tn tc bo 0, wI G tc 30 tcf]) (some (.int ((((x * 5 + nb) - tn) * 2) ^^^ 150))) (wF [wMo o rw fr kp tr ik tp tm mso bg en wd va gd rs mu rm ss msz msh mho mhn mhz 1 nb tn tc (bo + 4) 0, wI G tc 30 (pF [13, 20, 11, 10] tcf bo)]) := by
  refine Ct.of "GooseArmsModel" [some (.ref o), some (.int x), none] (by decide +kernel) rfl (Nat.le_of_ble_eq_true rfl) rfl ?_
  refine J_aload_n 0 0 dX6_swearsIt_0 rfl rfl ?_
  refine g_811 (v := .int 1) 1 0 rfl rfl dX6_swearsIt_1 ?_
  refine J_iconst (v := 2) 4 dX6_swearsIt_4 rfl ?_
  refine J_icmp_eq (tgt := 16) 5 dX6_swearsIt_5 (by decide) (fun c_1_ => absurd c_1_ (by decide)) (fun _ => ?_)
  refine J_aload_n 8 0 dX6_swearsIt_8 rfl rfl ?_
  refine g_811 (v := .int 1) 9 0 rfl rfl dX6_swearsIt_9 ?_
  refine J_iconst (v := 4) 12 dX6_swearsIt_12 rfl ?_
  refine J_icmp_ne (tgt := 39) 13 dX6_swearsIt_13 (by decide) (fun _ => ?_) (fun c_2_ => absurd c_2_ (by decide))
  refine J_aload_n 39 0 dX6_swearsIt_39 rfl rfl ?_
  refine g_811 (v := .int 1) 40 0 rfl rfl dX6_swearsIt_40 ?_
  refine J_iconst (v := 5) 43 dX6_swearsIt_43 rfl ?_
  refine J_icmp_ne (tgt := 61) 44 dX6_swearsIt_44 (by decide) (fun _ => ?_) (fun c_3_ => absurd c_3_ (by decide))
  refine J_aload_n 61 0 dX6_swearsIt_61 rfl rfl ?_
  refine J_iload_n 62 1 dX6_swearsIt_62 rfl rfl ?_
  refine kb_RX6_332 (bs' := [wMo o rw fr kp tr ik tp tm mso bg en wd va gd rs mu rm ss msz msh mho mhn mhz 1 nb tn tc (bo + 4) 0, wI G tc 30 (pF [13, 20, 11, 10] tcf bo)]) (rest := []) (st' := [.int ((((x * 5 + nb) - tn) * 2) ^^^ 150)]) 63 (c_X6_plainSwears_1 l G x o rw fr kp tr ik tp tm mso bg en wd va gd rs mu rm ss msz msh mho mhn mhz nb tn tc bo tcf (by first | omega | assumption)) [0, 1] 0 rfl rfl rfl [[o], [tc]] rfl rfl rfl rfl rfl rfl (Nat.le_of_ble_eq_true rfl) rfl dX6_swearsIt_63 ?_
  exact J_iret 66 dX6_swearsIt_66 rfl rfl
set_option maxRecDepth 100000 in
set_option maxHeartbeats 4000000 in
theorem c_X6_plainShakes_2 (l : Launch) (G : Gd) (x : Int32) (o : Nat) (rw : Nat) (fr : Nat) (kp : Nat) (tr : Nat) (ik : Int32) (tp : Nat) (tm : Nat) (mso : Int32) (bg : Nat) (en : Nat) (wd : Int64) (va : Int32) (gd : Int32) (rs : Nat) (mu : Nat) (rm : Nat) (ss : Nat) (msz : Nat) (msh : Nat) (mho : Nat) (mhn : Nat) (mhz : Nat) (nb : Int32) (tn : Int32) (tc : Nat) (bo : Nat) (tcf : Nat → Int32) (hb : bo + 1 ≤ 30) : Ct l G yX6_plainShakes cX6_plainShakes 2 (some (FieldType.int)) 1 [.ref o, .int x] (wF [wMo o rw fr kp tr ik tp tm mso bg en wd va gd rs mu rm ss msz msh mho mhn mhz 2 nb tn tc bo 0, wI G tc 30 tcf]) (some (.int (x * 5 + nb))) (wF [wMo o rw fr kp tr ik tp tm mso bg en wd va gd rs mu rm ss msz msh mho mhn mhz 2 nb tn tc (bo + 1) 0, wI G tc 30 (pF [10] tcf bo)]) := by
  refine Ct.of "GooseArmsModel" [some (.ref o), some (.int x)] (by decide +kernel) rfl (Nat.le_of_ble_eq_true rfl) rfl ?_
  refine J_aload_n 0 0 dX6_plainShakes_0 rfl rfl ?_
  refine J_bipush (v := 10) 1 dX6_plainShakes_1 rfl ?_
  refine kb_RX6_299 (bs' := [wMo o rw fr kp tr ik tp tm mso bg en wd va gd rs mu rm ss msz msh mho mhn mhz 2 nb tn tc (bo + 1) 0, wI G tc 30 (upd tcf bo 10)]) (rest := []) (st' := []) 3 (c_X6_ran l G 10 o rw fr kp tr ik tp tm mso bg en wd va gd rs mu rm ss msz msh mho mhn mhz 2 nb tn tc bo 0 tcf (by first | omega | assumption)) [0, 1] 0 rfl rfl rfl [[o], [tc]] rfl rfl rfl rfl rfl rfl (Nat.le_of_ble_eq_true rfl) rfl dX6_plainShakes_3 ?_
  refine J_iload_n 6 1 dX6_plainShakes_6 rfl rfl ?_
  refine J_iconst (v := 5) 7 dX6_plainShakes_7 rfl ?_
  refine J_imul 8 dX6_plainShakes_8 ?_
  refine J_aload_n 9 0 dX6_plainShakes_9 rfl rfl ?_
  refine g_812 (v := .int nb) 10 0 rfl rfl dX6_plainShakes_10 ?_
  refine J_iadd 13 dX6_plainShakes_13 ?_
  exact J_iret 14 dX6_plainShakes_14 (congrArg (fun x_ => some (Value.int x_)) (by first | rfl | grind)) (cg1 (fun (x0_ : Nat → Int32) => (wF [wMo o rw fr kp tr ik tp tm mso bg en wd va gd rs mu rm ss msz msh mho mhn mhz 2 nb tn tc (bo + 1) 0, wI G tc 30 x0_])) (upd tcf bo 10) (pF [10] tcf bo) rfl)
set_option maxRecDepth 100000 in
set_option maxHeartbeats 4000000 in
theorem c_X6_advocateShakes_2 (l : Launch) (G : Gd) (x : Int32) (o : Nat) (rw : Nat) (fr : Nat) (kp : Nat) (tr : Nat) (ik : Int32) (tp : Nat) (tm : Nat) (mso : Int32) (bg : Nat) (en : Nat) (wd : Int64) (va : Int32) (gd : Int32) (rs : Nat) (mu : Nat) (rm : Nat) (ss : Nat) (msz : Nat) (msh : Nat) (mho : Nat) (mhn : Nat) (mhz : Nat) (nb : Int32) (tn : Int32) (tc : Nat) (bo : Nat) (tcf : Nat → Int32) (hb : bo + 2 ≤ 30) : Ct l G yX6_advocateShakes cX6_advocateShakes 2 (some (FieldType.int)) 2 [.ref o, .int x] (wF [wMo o rw fr kp tr ik tp tm mso bg en wd va gd rs mu rm ss msz msh mho mhn mhz 2 nb tn tc bo 0, wI G tc 30 tcf]) (some (.int ((x * 5 + nb) - 4))) (wF [wMo o rw fr kp tr ik tp tm mso bg en wd va gd rs mu rm ss msz msh mho mhn mhz 2 nb tn tc (bo + 2) 0, wI G tc 30 (pF [30, 10] tcf bo)]) := by
  refine Ct.of "GooseArmsModel" [some (.ref o), some (.int x)] (by decide +kernel) rfl (Nat.le_of_ble_eq_true rfl) rfl ?_
  refine J_aload_n 0 0 dX6_advocateShakes_0 rfl rfl ?_
  refine J_bipush (v := 30) 1 dX6_advocateShakes_1 rfl ?_
  refine kb_RX6_299 (bs' := [wMo o rw fr kp tr ik tp tm mso bg en wd va gd rs mu rm ss msz msh mho mhn mhz 2 nb tn tc (bo + 1) 0, wI G tc 30 (upd tcf bo 30)]) (rest := []) (st' := []) 3 (c_X6_ran l G 30 o rw fr kp tr ik tp tm mso bg en wd va gd rs mu rm ss msz msh mho mhn mhz 2 nb tn tc bo 0 tcf (by first | omega | assumption)) [0, 1] 0 rfl rfl rfl [[o], [tc]] rfl rfl rfl rfl rfl rfl (Nat.le_of_ble_eq_true rfl) rfl dX6_advocateShakes_3 ?_
  refine J_aload_n 6 0 dX6_advocateShakes_6 rfl rfl ?_
  refine J_iload_n 7 1 dX6_advocateShakes_7 rfl rfl ?_
  refine kb_RX6_305 (bs' := [wMo o rw fr kp tr ik tp tm mso bg en wd va gd rs mu rm ss msz msh mho mhn mhz 2 nb tn tc ((bo + 1) + 1) 0, wI G tc 30 (pF [10] (upd tcf bo 30) (bo + 1))]) (rest := []) (st' := [.int (x * 5 + nb)]) 8 (c_X6_plainShakes_2 l G x o rw fr kp tr ik tp tm mso bg en wd va gd rs mu rm ss msz msh mho mhn mhz nb tn tc (bo + 1) (upd tcf bo 30) (by first | omega | assumption)) [0, 1] 0 rfl rfl rfl [[o], [tc]] rfl rfl rfl rfl rfl rfl (Nat.le_of_ble_eq_true rfl) rfl dX6_advocateShakes_8 ?_
  refine J_iconst (v := 4) 11 dX6_advocateShakes_11 rfl ?_
  refine J_isub 12 dX6_advocateShakes_12 ?_
  exact J_iret 13 dX6_advocateShakes_13 rfl (cg2 (fun (x0_ : Nat) (x1_ : Nat → Int32) => (wF [wMo o rw fr kp tr ik tp tm mso bg en wd va gd rs mu rm ss msz msh mho mhn mhz 2 nb tn tc x0_ 0, wI G tc 30 x1_])) ((bo + 1) + 1) (bo + 2) (pF [10] (upd tcf bo 30) (bo + 1)) (pF [30, 10] tcf bo) rfl rfl)
set_option maxRecDepth 100000 in
set_option maxHeartbeats 4000000 in
theorem c_X6_shakesIt_2 (l : Launch) (G : Gd) (x : Int32) (o : Nat) (rw : Nat) (fr : Nat) (kp : Nat) (tr : Nat) (ik : Int32) (tp : Nat) (tm : Nat) (mso : Int32) (bg : Nat) (en : Nat) (wd : Int64) (va : Int32) (gd : Int32) (rs : Nat) (mu : Nat) (rm : Nat) (ss : Nat) (msz : Nat) (msh : Nat) (mho : Nat) (mhn : Nat) (mhz : Nat) (nb : Int32) (tn : Int32) (tc : Nat) (bo : Nat) (tcf : Nat → Int32) (hb : bo + 2 ≤ 30) : Ct l G yX6_shakesIt cX6_shakesIt 2 (some (FieldType.int)) 3 [.ref o, .int x] (wF [wMo o rw fr kp tr ik tp tm mso bg en wd va gd rs mu rm ss msz msh mho mhn mhz 2 nb tn tc bo 0, wI G tc 30 tcf]) (some (.int ((x * 5 + nb) - 4))) (wF [wMo o rw fr kp tr ik tp tm mso bg en wd va gd rs mu rm ss msz msh mho mhn mhz 2 nb tn tc (bo + 2) 0, wI G tc 30 (pF [30, 10] tcf bo)]) := by
  refine Ct.of "GooseArmsModel" [some (.ref o), some (.int x)] (by decide +kernel) rfl (Nat.le_of_ble_eq_true rfl) rfl ?_
  refine J_aload_n 0 0 dX6_shakesIt_0 rfl rfl ?_
  refine g_811 (v := .int 2) 1 0 rfl rfl dX6_shakesIt_1 ?_
  refine J_tableIn (tgt := 32) (off := 28) 4 2 dX6_shakesIt_4 rfl (by decide +kernel) (by decide) ?_
  refine J_aload_n 32 0 dX6_shakesIt_32 rfl rfl ?_
  refine J_iload_n 33 1 dX6_shakesIt_33 rfl rfl ?_
  refine kb_RX6_311 (bs' := [wMo o rw fr kp tr ik tp tm mso bg en wd va gd rs mu rm ss msz msh mho mhn mhz 2 nb tn tc (bo + 2) 0, wI G tc 30 (pF [30, 10] tcf bo)]) (rest := []) (st' := [.int ((x * 5 + nb) - 4)]) 34 (c_X6_advocateShakes_2 l G x o rw fr kp tr ik tp tm mso bg en wd va gd rs mu rm ss msz msh mho mhn mhz nb tn tc bo tcf (by first | omega | assumption)) [0, 1] 0 rfl rfl rfl [[o], [tc]] rfl rfl rfl rfl rfl rfl (Nat.le_of_ble_eq_true rfl) rfl dX6_shakesIt_34 ?_
  exact J_iret 37 dX6_shakesIt_37 rfl rfl
set_option maxRecDepth 100000 in
set_option maxHeartbeats 4000000 in
theorem c_X6_plainReads_2 (l : Launch) (G : Gd) (x : Int32) (o : Nat) (rw : Nat) (fr : Nat) (kp : Nat) (tr : Nat) (ik : Int32) (tp : Nat) (tm : Nat) (mso : Int32) (bg : Nat) (en : Nat) (wd : Int64) (va : Int32) (gd : Int32) (rs : Nat) (mu : Nat) (rm : Nat) (ss : Nat) (msz : Nat) (msh : Nat) (mho : Nat) (mhn : Nat) (mhz : Nat) (nb : Int32) (tn : Int32) (tc : Nat) (bo : Nat) (tcf : Nat → Int32) (hb : bo + 3 ≤ 30) : Ct l G yX6_plainReads cX6_plainReads 2 (some (FieldType.int)) 4 [.ref o, .int x] (wF [wMo o rw fr kp tr ik tp tm mso bg en wd va gd rs mu rm ss msz msh mho mhn mhz 2 nb tn tc bo 0, wI G tc 30 tcf]) (some (.int (((x * 5 + nb) - 4) - tn))) (wF [wMo o rw fr kp tr ik tp tm mso bg en wd va gd rs mu rm ss msz msh mho mhn mhz 2 nb tn tc (bo + 3) 0, wI G tc 30 (pF [11, 30, 10] tcf bo)]) := by
  refine Ct.of "GooseArmsModel" [some (.ref o), some (.int x)] (by decide +kernel) rfl (Nat.le_of_ble_eq_true rfl) rfl ?_
  refine J_aload_n 0 0 dX6_plainReads_0 rfl rfl ?_
  refine J_bipush (v := 11) 1 dX6_plainReads_1 rfl ?_
  refine kb_RX6_299 (bs' := [wMo o rw fr kp tr ik tp tm mso bg en wd va gd rs mu rm ss msz msh mho mhn mhz 2 nb tn tc (bo + 1) 0, wI G tc 30 (upd tcf bo 11)]) (rest := []) (st' := []) 3 (c_X6_ran l G 11 o rw fr kp tr ik tp tm mso bg en wd va gd rs mu rm ss msz msh mho mhn mhz 2 nb tn tc bo 0 tcf (by first | omega | assumption)) [0, 1] 0 rfl rfl rfl [[o], [tc]] rfl rfl rfl rfl rfl rfl (Nat.le_of_ble_eq_true rfl) rfl dX6_plainReads_3 ?_
  refine J_aload_n 6 0 dX6_plainReads_6 rfl rfl ?_
  refine J_iload_n 7 1 dX6_plainReads_7 rfl rfl ?_
  refine kb_RX6_317 (bs' := [wMo o rw fr kp tr ik tp tm mso bg en wd va gd rs mu rm ss msz msh mho mhn mhz 2 nb tn tc ((bo + 1) + 2) 0, wI G tc 30 (pF [30, 10] (upd tcf bo 11) (bo + 1))]) (rest := []) (st' := [.int ((x * 5 + nb) - 4)]) 8 (c_X6_shakesIt_2 l G x o rw fr kp tr ik tp tm mso bg en wd va gd rs mu rm ss msz msh mho mhn mhz nb tn tc (bo + 1) (upd tcf bo 11) (by first | omega | assumption)) [0, 1] 0 rfl rfl rfl [[o], [tc]] rfl rfl rfl rfl rfl rfl (Nat.le_of_ble_eq_true rfl) rfl dX6_plainReads_8 ?_
  refine J_aload_n 11 0 dX6_plainReads_11 rfl rfl ?_
  refine g_813 (v := .int tn) 12 0 rfl rfl dX6_plainReads_12 ?_
  refine J_isub 15 dX6_plainReads_15 ?_
  exact J_iret 16 dX6_plainReads_16 rfl (cg2 (fun (x0_ : Nat) (x1_ : Nat → Int32) => (wF [wMo o rw fr kp tr ik tp tm mso bg en wd va gd rs mu rm ss msz msh mho mhn mhz 2 nb tn tc x0_ 0, wI G tc 30 x1_])) ((bo + 1) + 2) (bo + 3) (pF [30, 10] (upd tcf bo 11) (bo + 1)) (pF [11, 30, 10] tcf bo) rfl rfl)
set_option maxRecDepth 100000 in
set_option maxHeartbeats 4000000 in
theorem c_X6_readsIt_2 (l : Launch) (G : Gd) (x : Int32) (o : Nat) (rw : Nat) (fr : Nat) (kp : Nat) (tr : Nat) (ik : Int32) (tp : Nat) (tm : Nat) (mso : Int32) (bg : Nat) (en : Nat) (wd : Int64) (va : Int32) (gd : Int32) (rs : Nat) (mu : Nat) (rm : Nat) (ss : Nat) (msz : Nat) (msh : Nat) (mho : Nat) (mhn : Nat) (mhz : Nat) (nb : Int32) (tn : Int32) (tc : Nat) (bo : Nat) (tcf : Nat → Int32) (hb : bo + 3 ≤ 30) : Ct l G yX6_readsIt cX6_readsIt 3 (some (FieldType.int)) 5 [.ref o, .int x] (wF [wMo o rw fr kp tr ik tp tm mso bg en wd va gd rs mu rm ss msz msh mho mhn mhz 2 nb tn tc bo 0, wI G tc 30 tcf]) (some (.int (((x * 5 + nb) - 4) - tn))) (wF [wMo o rw fr kp tr ik tp tm mso bg en wd va gd rs mu rm ss msz msh mho mhn mhz 2 nb tn tc (bo + 3) 0, wI G tc 30 (pF [11, 30, 10] tcf bo)]) := by
  refine Ct.of "GooseArmsModel" [some (.ref o), some (.int x), none] (by decide +kernel) rfl (Nat.le_of_ble_eq_true rfl) rfl ?_
  refine J_aload_n 0 0 dX6_readsIt_0 rfl rfl ?_
  refine g_811 (v := .int 2) 1 0 rfl rfl dX6_readsIt_1 ?_
  refine J_iconst (v := 1) 4 dX6_readsIt_4 rfl ?_
  refine J_icmp_eq (tgt := 16) 5 dX6_readsIt_5 (by decide) (fun c_1_ => absurd c_1_ (by decide)) (fun _ => ?_)
  refine J_aload_n 8 0 dX6_readsIt_8 rfl rfl ?_
  refine g_811 (v := .int 2) 9 0 rfl rfl dX6_readsIt_9 ?_
  refine J_iconst (v := 3) 12 dX6_readsIt_12 rfl ?_
  refine J_icmp_ne (tgt := 30) 13 dX6_readsIt_13 (by decide) (fun _ => ?_) (fun c_2_ => absurd c_2_ (by decide))
  refine J_aload_n 30 0 dX6_readsIt_30 rfl rfl ?_
  refine g_811 (v := .int 2) 31 0 rfl rfl dX6_readsIt_31 ?_
  refine J_iconst (v := 4) 34 dX6_readsIt_34 rfl ?_
  refine J_icmp_ne (tgt := 61) 35 dX6_readsIt_35 (by decide) (fun _ => ?_) (fun c_3_ => absurd c_3_ (by decide))
  refine J_aload_n 61 0 dX6_readsIt_61 rfl rfl ?_
  refine J_iload_n 62 1 dX6_readsIt_62 rfl rfl ?_
  refine kb_RX6_320 (bs' := [wMo o rw fr kp tr ik tp tm mso bg en wd va gd rs mu rm ss msz msh mho mhn mhz 2 nb tn tc (bo + 3) 0, wI G tc 30 (pF [11, 30, 10] tcf bo)]) (rest := []) (st' := [.int (((x * 5 + nb) - 4) - tn)]) 63 (c_X6_plainReads_2 l G x o rw fr kp tr ik tp tm mso bg en wd va gd rs mu rm ss msz msh mho mhn mhz nb tn tc bo tcf (by first | omega | assumption)) [0, 1] 0 rfl rfl rfl [[o], [tc]] rfl rfl rfl rfl rfl rfl (Nat.le_of_ble_eq_true rfl) rfl dX6_readsIt_63 ?_
  exact J_iret 66 dX6_readsIt_66 rfl rfl
set_option maxRecDepth 100000 in
set_option maxHeartbeats 4000000 in
theorem c_X6_plainParts_2 (l : Launch) (G : Gd) (x : Int32) (o : Nat) (rw : Nat) (fr : Nat) (kp : Nat) (tr : Nat) (ik : Int32) (tp : Nat) (tm : Nat) (mso : Int32) (bg : Nat) (en : Nat) (wd : Int64) (va : Int32) (gd : Int32) (rs : Nat) (mu : Nat) (rm : Nat) (ss : Nat) (msz : Nat) (msh : Nat) (mho : Nat) (mhn : Nat) (mhz : Nat) (nb : Int32) (tn : Int32) (tc : Nat) (bo : Nat) (tcf : Nat → Int32) (hb : bo + 1 ≤ 30) (hz : ¬ tn = nb) : Ct l G yX6_plainParts cX6_plainParts 2 (some (FieldType.int)) 1 [.ref o, .int x] (wF [wMo o rw fr kp tr ik tp tm mso bg en wd va gd rs mu rm ss msz msh mho mhn mhz 2 nb tn tc bo 0, wI G tc 30 tcf]) (some (.int (x / (tn - nb)))) (wF [wMo o rw fr kp tr ik tp tm mso bg en wd va gd rs mu rm ss msz msh mho mhn mhz 2 nb tn tc (bo + 1) 0, wI G tc 30 (pF [12] tcf bo)]) := by
  refine Ct.of "GooseArmsModel" [some (.ref o), some (.int x)] (by decide +kernel) rfl (Nat.le_of_ble_eq_true rfl) rfl ?_
  refine J_aload_n 0 0 dX6_plainParts_0 rfl rfl ?_
  refine J_bipush (v := 12) 1 dX6_plainParts_1 rfl ?_
  refine kb_RX6_299 (bs' := [wMo o rw fr kp tr ik tp tm mso bg en wd va gd rs mu rm ss msz msh mho mhn mhz 2 nb tn tc (bo + 1) 0, wI G tc 30 (upd tcf bo 12)]) (rest := []) (st' := []) 3 (c_X6_ran l G 12 o rw fr kp tr ik tp tm mso bg en wd va gd rs mu rm ss msz msh mho mhn mhz 2 nb tn tc bo 0 tcf (by first | omega | assumption)) [0, 1] 0 rfl rfl rfl [[o], [tc]] rfl rfl rfl rfl rfl rfl (Nat.le_of_ble_eq_true rfl) rfl dX6_plainParts_3 ?_
  refine J_aload_n 6 0 dX6_plainParts_6 rfl rfl ?_
  refine g_813 (v := .int tn) 7 0 rfl rfl dX6_plainParts_7 ?_
  refine J_aload_n 10 0 dX6_plainParts_10 rfl rfl ?_
  refine g_812 (v := .int nb) 11 0 rfl rfl dX6_plainParts_11 ?_
  refine J_icmp_ne (tgt := 24) 14 dX6_plainParts_14 (by decide) (fun c_1_ => ?_) (fun c_1_ => ?_)
  · skip
    refine J_iload_n 24 1 dX6_plainParts_24 rfl rfl ?_
    refine J_aload_n 25 0 dX6_plainParts_25 rfl rfl ?_
    refine g_813 (v := .int tn) 26 0 rfl rfl dX6_plainParts_26 ?_
    refine J_aload_n 29 0 dX6_plainParts_29 rfl rfl ?_
    refine g_812 (v := .int nb) 30 0 rfl rfl dX6_plainParts_30 ?_
    refine J_isub 33 dX6_plainParts_33 ?_
    refine J_idiv 34 dX6_plainParts_34 (sub_ne0 hz) ?_
    exact J_iret 35 dX6_plainParts_35 rfl (cg1 (fun (x0_ : Nat → Int32) => (wF [wMo o rw fr kp tr ik tp tm mso bg en wd va gd rs mu rm ss msz msh mho mhn mhz 2 nb tn tc (bo + 1) 0, wI G tc 30 x0_])) (upd tcf bo 12) (pF [12] tcf bo) rfl)
  · skip
    exact absurd c_1_ hz
set_option maxRecDepth 100000 in
set_option maxHeartbeats 4000000 in
theorem c_X6_plainParts_2z (l : Launch) (G : Gd) (x : Int32) (o : Nat) (rw : Nat) (fr : Nat) (kp : Nat) (tr : Nat) (ik : Int32) (tp : Nat) (tm : Nat) (mso : Int32) (bg : Nat) (en : Nat) (wd : Int64) (va : Int32) (gd : Int32) (rs : Nat) (mu : Nat) (rm : Nat) (ss : Nat) (msz : Nat) (msh : Nat) (mho : Nat) (mhn : Nat) (mhz : Nat) (nb : Int32) (tn : Int32) (tc : Nat) (bo : Nat) (tcf : Nat → Int32) (hb : bo + 1 ≤ 30) (hz : tn = nb) : Ct l G yX6_plainParts cX6_plainParts 2 (some (FieldType.int)) 1 [.ref o, .int x] (wF [wMo o rw fr kp tr ik tp tm mso bg en wd va gd rs mu rm ss msz msh mho mhn mhz 2 nb tn tc bo 0, wI G tc 30 tcf]) (some (.int 0)) (wF [wMo o rw fr kp tr ik tp tm mso bg en wd va gd rs mu rm ss msz msh mho mhn mhz 2 nb tn tc (bo + 1) 1, wI G tc 30 (pF [12] tcf bo)]) := by
  refine Ct.of "GooseArmsModel" [some (.ref o), some (.int x)] (by decide +kernel) rfl (Nat.le_of_ble_eq_true rfl) rfl ?_
  refine J_aload_n 0 0 dX6_plainParts_0 rfl rfl ?_
  refine J_bipush (v := 12) 1 dX6_plainParts_1 rfl ?_
  refine kb_RX6_299 (bs' := [wMo o rw fr kp tr ik tp tm mso bg en wd va gd rs mu rm ss msz msh mho mhn mhz 2 nb tn tc (bo + 1) 0, wI G tc 30 (upd tcf bo 12)]) (rest := []) (st' := []) 3 (c_X6_ran l G 12 o rw fr kp tr ik tp tm mso bg en wd va gd rs mu rm ss msz msh mho mhn mhz 2 nb tn tc bo 0 tcf (by first | omega | assumption)) [0, 1] 0 rfl rfl rfl [[o], [tc]] rfl rfl rfl rfl rfl rfl (Nat.le_of_ble_eq_true rfl) rfl dX6_plainParts_3 ?_
  refine J_aload_n 6 0 dX6_plainParts_6 rfl rfl ?_
  refine g_813 (v := .int tn) 7 0 rfl rfl dX6_plainParts_7 ?_
  refine J_aload_n 10 0 dX6_plainParts_10 rfl rfl ?_
  refine g_812 (v := .int nb) 11 0 rfl rfl dX6_plainParts_11 ?_
  refine J_icmp_ne (tgt := 24) 14 dX6_plainParts_14 (by decide) (fun c_1_ => ?_) (fun c_1_ => ?_)
  · skip
    exact absurd hz c_1_
  · skip
    refine J_aload_n 17 0 dX6_plainParts_17 rfl rfl ?_
    refine J_iconst (v := 1) 18 dX6_plainParts_18 rfl ?_
    refine p_816 (ws' := (wF [wMo o rw fr kp tr ik tp tm mso bg en wd va gd rs mu rm ss msz msh mho mhn mhz 2 nb tn tc (bo + 1) 1, wI G tc 30 (upd tcf bo 12)])) 19 0 rfl rfl rfl (Nat.le_of_ble_eq_true rfl) rfl dX6_plainParts_19 ?_
    refine J_iconst (v := 0) 22 dX6_plainParts_22 rfl ?_
    exact J_iret 23 dX6_plainParts_23 rfl (cg1 (fun (x0_ : Nat → Int32) => (wF [wMo o rw fr kp tr ik tp tm mso bg en wd va gd rs mu rm ss msz msh mho mhn mhz 2 nb tn tc (bo + 1) 1, wI G tc 30 x0_])) (upd tcf bo 12) (pF [12] tcf bo) rfl)
set_option maxRecDepth 100000 in
set_option maxHeartbeats 4000000 in
theorem c_X6_partsIt_2 (l : Launch) (G : Gd) (x : Int32) (o : Nat) (rw : Nat) (fr : Nat) (kp : Nat) (tr : Nat) (ik : Int32) (tp : Nat) (tm : Nat) (mso : Int32) (bg : Nat) (en : Nat) (wd : Int64) (va : Int32) (gd : Int32) (rs : Nat) (mu : Nat) (rm : Nat) (ss : Nat) (msz : Nat) (msh : Nat) (mho : Nat) (mhn : Nat) (mhz : Nat) (nb : Int32) (tn : Int32) (tc : Nat) (bo : Nat) (tcf : Nat → Int32) (hb : bo + 1 ≤ 30) (hz : ¬ tn = nb) : Ct l G yX6_partsIt cX6_partsIt 3 (some (FieldType.int)) 4 [.ref o, .int x] (wF [wMo o rw fr kp tr ik tp tm mso bg en wd va gd rs mu rm ss msz msh mho mhn mhz 2 nb tn tc bo 0, wI G tc 30 tcf]) (some (.int (x / (tn - nb)))) (wF [wMo o rw fr kp tr ik tp tm mso bg en wd va gd rs mu rm ss msz msh mho mhn mhz 2 nb tn tc (bo + 1) 0, wI G tc 30 (pF [12] tcf bo)]) := by
  refine Ct.of "GooseArmsModel" [some (.ref o), some (.int x), none] (by decide +kernel) rfl (Nat.le_of_ble_eq_true rfl) rfl ?_
  refine J_aload_n 0 0 dX6_partsIt_0 rfl rfl ?_
  refine g_811 (v := .int 2) 1 0 rfl rfl dX6_partsIt_1 ?_
  refine J_iconst (v := 3) 4 dX6_partsIt_4 rfl ?_
  refine J_icmp_ne (tgt := 24) 5 dX6_partsIt_5 (by decide) (fun _ => ?_) (fun c_1_ => absurd c_1_ (by decide))
  refine J_aload_n 24 0 dX6_partsIt_24 rfl rfl ?_
  refine g_811 (v := .int 2) 25 0 rfl rfl dX6_partsIt_25 ?_
  refine J_iconst (v := 5) 28 dX6_partsIt_28 rfl ?_
  refine J_icmp_ne (tgt := 66) 29 dX6_partsIt_29 (by decide) (fun _ => ?_) (fun c_2_ => absurd c_2_ (by decide))
  refine J_aload_n 66 0 dX6_partsIt_66 rfl rfl ?_
  refine J_iload_n 67 1 dX6_partsIt_67 rfl rfl ?_
  refine kb_RX6_326 (bs' := [wMo o rw fr kp tr ik tp tm mso bg en wd va gd rs mu rm ss msz msh mho mhn mhz 2 nb tn tc (bo + 1) 0, wI G tc 30 (pF [12] tcf bo)]) (rest := []) (st' := [.int (x / (tn - nb))]) 68 (c_X6_plainParts_2 l G x o rw fr kp tr ik tp tm mso bg en wd va gd rs mu rm ss msz msh mho mhn mhz nb tn tc bo tcf (by first | omega | assumption) (by first | omega | assumption)) [0, 1] 0 rfl rfl rfl [[o], [tc]] rfl rfl rfl rfl rfl rfl (Nat.le_of_ble_eq_true rfl) rfl dX6_partsIt_68 ?_
  exact J_iret 71 dX6_partsIt_71 rfl rfl
set_option maxRecDepth 100000 in
set_option maxHeartbeats 4000000 in
theorem c_X6_partsIt_2z (l : Launch) (G : Gd) (x : Int32) (o : Nat) (rw : Nat) (fr : Nat) (kp : Nat) (tr : Nat) (ik : Int32) (tp : Nat) (tm : Nat) (mso : Int32) (bg : Nat) (en : Nat) (wd : Int64) (va : Int32) (gd : Int32) (rs : Nat) (mu : Nat) (rm : Nat) (ss : Nat) (msz : Nat) (msh : Nat) (mho : Nat) (mhn : Nat) (mhz : Nat) (nb : Int32) (tn : Int32) (tc : Nat) (bo : Nat) (tcf : Nat → Int32) (hb : bo + 1 ≤ 30) (hz : tn = nb) : Ct l G yX6_partsIt cX6_partsIt 3 (some (FieldType.int)) 4 [.ref o, .int x] (wF [wMo o rw fr kp tr ik tp tm mso bg en wd va gd rs mu rm ss msz msh mho mhn mhz 2 nb tn tc bo 0, wI G tc 30 tcf]) (some (.int 0)) (wF [wMo o rw fr kp tr ik tp tm mso bg en wd va gd rs mu rm ss msz msh mho mhn mhz 2 nb tn tc (bo + 1) 1, wI G tc 30 (pF [12] tcf bo)]) := by
  refine Ct.of "GooseArmsModel" [some (.ref o), some (.int x), none] (by decide +kernel) rfl (Nat.le_of_ble_eq_true rfl) rfl ?_
  refine J_aload_n 0 0 dX6_partsIt_0 rfl rfl ?_
  refine g_811 (v := .int 2) 1 0 rfl rfl dX6_partsIt_1 ?_
  refine J_iconst (v := 3) 4 dX6_partsIt_4 rfl ?_
  refine J_icmp_ne (tgt := 24) 5 dX6_partsIt_5 (by decide) (fun _ => ?_) (fun c_1_ => absurd c_1_ (by decide))
  refine J_aload_n 24 0 dX6_partsIt_24 rfl rfl ?_
  refine g_811 (v := .int 2) 25 0 rfl rfl dX6_partsIt_25 ?_
  refine J_iconst (v := 5) 28 dX6_partsIt_28 rfl ?_
  refine J_icmp_ne (tgt := 66) 29 dX6_partsIt_29 (by decide) (fun _ => ?_) (fun c_2_ => absurd c_2_ (by decide))
  refine J_aload_n 66 0 dX6_partsIt_66 rfl rfl ?_
  refine J_iload_n 67 1 dX6_partsIt_67 rfl rfl ?_
  refine kb_RX6_326 (bs' := [wMo o rw fr kp tr ik tp tm mso bg en wd va gd rs mu rm ss msz msh mho mhn mhz 2 nb tn tc (bo + 1) 1, wI G tc 30 (pF [12] tcf bo)]) (rest := []) (st' := [.int 0]) 68 (c_X6_plainParts_2z l G x o rw fr kp tr ik tp tm mso bg en wd va gd rs mu rm ss msz msh mho mhn mhz nb tn tc bo tcf (by first | omega | assumption) (by first | omega | assumption)) [0, 1] 0 rfl rfl rfl [[o], [tc]] rfl rfl rfl rfl rfl rfl (Nat.le_of_ble_eq_true rfl) rfl dX6_partsIt_68 ?_
  exact J_iret 71 dX6_partsIt_71 rfl rfl
set_option maxRecDepth 100000 in
set_option maxHeartbeats 4000000 in
theorem c_X6_plainSwears_2 (l : Launch) (G : Gd) (x : Int32) (o : Nat) (rw : Nat) (fr : Nat) (kp : Nat) (tr : Nat) (ik : Int32) (tp : Nat) (tm : Nat) (mso : Int32) (bg : Nat) (en : Nat) (wd : Int64) (va : Int32) (gd : Int32) (rs : Nat) (mu : Nat) (rm : Nat) (ss : Nat) (msz : Nat) (msh : Nat) (mho : Nat) (mhn : Nat) (mhz : Nat) (nb : Int32) (tn : Int32) (tc : Nat) (bo : Nat) (tcf : Nat → Int32) (hb : bo + 4 ≤ 30) : Ct l G yX6_plainSwears cX6_plainSwears 2 (some (FieldType.int)) 6 [.ref o, .int x] (wF [wMo o rw fr kp tr ik tp tm mso bg en wd va gd rs mu rm ss msz msh mho mhn mhz 2 nb tn tc bo 0, wI G tc 30 tcf]) (some (.int ((((x * 5 + nb) - 4) - tn) ^^^ 150))) (wF [wMo o rw fr kp tr ik tp tm mso bg en wd va gd rs mu rm ss msz msh mho mhn mhz 2 nb tn tc (bo + 4) 0, wI G tc 30 (pF [13, 11, 30, 10] tcf bo)]) := by
  refine Ct.of "GooseArmsModel" [some (.ref o), some (.int x)] (by decide +kernel) rfl (Nat.le_of_ble_eq_true rfl) rfl ?_
  refine J_aload_n 0 0 dX6_plainSwears_0 rfl rfl ?_
  refine J_bipush (v := 13) 1 dX6_plainSwears_1 rfl ?_
  refine kb_RX6_299 (bs' := [wMo o rw fr kp tr ik tp tm mso bg en wd va gd rs mu rm ss msz msh mho mhn mhz 2 nb tn tc (bo + 1) 0, wI G tc 30 (upd tcf bo 13)]) (rest := []) (st' := []) 3 (c_X6_ran l G 13 o rw fr kp tr ik tp tm mso bg en wd va gd rs mu rm ss msz msh mho mhn mhz 2 nb tn tc bo 0 tcf (by first | omega | assumption)) [0, 1] 0 rfl rfl rfl [[o], [tc]] rfl rfl rfl rfl rfl rfl (Nat.le_of_ble_eq_true rfl) rfl dX6_plainSwears_3 ?_
  refine J_aload_n 6 0 dX6_plainSwears_6 rfl rfl ?_
  refine J_iload_n 7 1 dX6_plainSwears_7 rfl rfl ?_
  refine kb_RX6_329 (bs' := [wMo o rw fr kp tr ik tp tm mso bg en wd va gd rs mu rm ss msz msh mho mhn mhz 2 nb tn tc ((bo + 1) + 3) 0, wI G tc 30 (pF [11, 30, 10] (upd tcf bo 13) (bo + 1))]) (rest := []) (st' := [.int (((x * 5 + nb) - 4) - tn)]) 8 (c_X6_readsIt_2 l G x o rw fr kp tr ik tp tm mso bg en wd va gd rs mu rm ss msz msh mho mhn mhz nb tn tc (bo + 1) (upd tcf bo 13) (by first | omega | assumption)) [0, 1] 0 rfl rfl rfl [[o], [tc]] rfl rfl rfl rfl rfl rfl (Nat.le_of_ble_eq_true rfl) rfl dX6_plainSwears_8 ?_
  refine J_sipush (v := 150) 11 dX6_plainSwears_11 rfl ?_
  refine J_ixor 14 dX6_plainSwears_14 ?_
  exact J_iret 15 dX6_plainSwears_15 rfl (cg2 (fun (x0_ : Nat) (x1_ : Nat → Int32) => (wF [wMo o rw fr kp tr ik tp tm mso bg en wd va gd rs mu rm ss msz msh mho mhn mhz 2 nb tn tc x0_ 0, wI G tc 30 x1_])) ((bo + 1) + 3) (bo + 4) (pF [11, 30, 10] (upd tcf bo 13) (bo + 1)) (pF [13, 11, 30, 10] tcf bo) rfl rfl)
set_option maxRecDepth 100000 in
set_option maxHeartbeats 4000000 in
theorem c_X6_swearsIt_2 (l : Launch) (G : Gd) (x : Int32) (o : Nat) (rw : Nat) (fr : Nat) (kp : Nat) (tr : Nat) (ik : Int32) (tp : Nat) (tm : Nat) (mso : Int32) (bg : Nat) (en : Nat) (wd : Int64) (va : Int32) (gd : Int32) (rs : Nat) (mu : Nat) (rm : Nat) (ss : Nat) (msz : Nat) (msh : Nat) (mho : Nat) (mhn : Nat) (mhz : Nat) (nb : Int32) (tn : Int32) (tc : Nat) (bo : Nat) (tcf : Nat → Int32) (hb : bo + 6 ≤ 30) (hz : ¬ tn = nb) : Ct l G yX6_swearsIt cX6_swearsIt 3 (some (FieldType.int)) 7 [.ref o, .int x] (wF [wMo o rw fr kp tr ik tp tm mso bg en wd va gd rs mu rm ss msz msh mho mhn mhz 2 nb tn tc bo 0, wI G tc 30 tcf]) (some (.int (((((x * 5 + nb) - 4) - tn) ^^^ 150) + (nb / (tn - nb))))) (wF [wMo o rw fr kp tr ik tp tm mso bg en wd va gd rs mu rm ss msz msh mho mhn mhz 2 nb tn tc (bo + 6) 0, wI G tc 30 (pF [31, 13, 11, 30, 10, 12] tcf bo)]) := by
  refine Ct.of "GooseArmsModel" [some (.ref o), some (.int x), none] (by decide +kernel) rfl (Nat.le_of_ble_eq_true rfl) rfl ?_
  refine J_aload_n 0 0 dX6_swearsIt_0 rfl rfl ?_
  refine g_811 (v := .int 2) 1 0 rfl rfl dX6_swearsIt_1 ?_
  refine J_iconst (v := 2) 4 dX6_swearsIt_4 rfl ?_
  refine J_icmp_eq (tgt := 16) 5 dX6_swearsIt_5 (by decide) (fun _ => ?_) (fun c_1_ => absurd c_1_ (by decide))
  refine J_aload_n 16 0 dX6_swearsIt_16 rfl rfl ?_
  refine J_bipush (v := 31) 17 dX6_swearsIt_17 rfl ?_
  refine kb_RX6_299 (bs' := [wMo o rw fr kp tr ik tp tm mso bg en wd va gd rs mu rm ss msz msh mho mhn mhz 2 nb tn tc (bo + 1) 0, wI G tc 30 (upd tcf bo 31)]) (rest := []) (st' := []) 19 (c_X6_ran l G 31 o rw fr kp tr ik tp tm mso bg en wd va gd rs mu rm ss msz msh mho mhn mhz 2 nb tn tc bo 0 tcf (by first | omega | assumption)) [0, 1] 0 rfl rfl rfl [[o], [tc]] rfl rfl rfl rfl rfl rfl (Nat.le_of_ble_eq_true rfl) rfl dX6_swearsIt_19 ?_
  refine J_aload_n 22 0 dX6_swearsIt_22 rfl rfl ?_
  refine J_iload_n 23 1 dX6_swearsIt_23 rfl rfl ?_
  refine kb_RX6_332 (bs' := [wMo o rw fr kp tr ik tp tm mso bg en wd va gd rs mu rm ss msz msh mho mhn mhz 2 nb tn tc ((bo + 1) + 4) 0, wI G tc 30 (pF [13, 11, 30, 10] (upd tcf bo 31) (bo + 1))]) (rest := []) (st' := [.int ((((x * 5 + nb) - 4) - tn) ^^^ 150)]) 24 (c_X6_plainSwears_2 l G x o rw fr kp tr ik tp tm mso bg en wd va gd rs mu rm ss msz msh mho mhn mhz nb tn tc (bo + 1) (upd tcf bo 31) (by first | omega | assumption)) [0, 1] 0 rfl rfl rfl [[o], [tc]] rfl rfl rfl rfl rfl rfl (Nat.le_of_ble_eq_true rfl) rfl dX6_swearsIt_24 ?_
  refine J_istore_n (lv' := [some (.ref o), some (.int x), some (.int ((((x * 5 + nb) - 4) - tn) ^^^ 150))]) 27 2 dX6_swearsIt_27 rfl (by decide) rfl ?_
  refine J_iload_n 28 2 dX6_swearsIt_28 rfl rfl ?_
  refine J_aload_n 29 0 dX6_swearsIt_29 rfl rfl ?_
  refine J_aload_n 30 0 dX6_swearsIt_30 rfl rfl ?_
  refine g_812 (v := .int nb) 31 0 rfl rfl dX6_swearsIt_31 ?_
  refine kb_RX6_335 (bs' := [wMo o rw fr kp tr ik tp tm mso bg en wd va gd rs mu rm ss msz msh mho mhn mhz 2 nb tn tc (((bo + 1) + 4) + 1) 0, wI G tc 30 (pF [12] (pF [13, 11, 30, 10] (upd tcf bo 31) (bo + 1)) ((bo + 1) + 4))]) (rest := [.int ((((x * 5 + nb) - 4) - tn) ^^^ 150)]) (st' := [.int (nb / (tn - nb)), .int ((((x * 5 + nb) - 4) - tn) ^^^ 150)]) 34 (c_X6_partsIt_2 l G nb o rw fr kp tr ik tp tm mso bg en wd va gd rs mu rm ss msz msh mho mhn mhz nb tn tc ((bo + 1) + 4) (pF [13, 11, 30, 10] (upd tcf bo 31) (bo + 1)) (by first | omega | assumption) (by first | omega | assumption)) [0, 1] 0 rfl rfl rfl [[o], [tc]] rfl rfl rfl rfl rfl rfl (Nat.le_of_ble_eq_true rfl) rfl dX6_swearsIt_34 ?_
  refine J_iadd 37 dX6_swearsIt_37 ?_
  exact J_iret 38 dX6_swearsIt_38 rfl (cg2 (fun (x0_ : Nat) (x1_ : Nat → Int32) => (wF [wMo o rw fr kp tr ik tp tm mso bg en wd va gd rs mu rm ss msz msh mho mhn mhz 2 nb tn tc x0_ 0, wI G tc 30 x1_])) (((bo + 1) + 4) + 1) (bo + 6) (pF [12] (pF [13, 11, 30, 10] (upd tcf bo 31) (bo + 1)) ((bo + 1) + 4)) (pF [31, 13, 11, 30, 10, 12] tcf bo) rfl rfl)
set_option maxRecDepth 100000 in
set_option maxHeartbeats 4000000 in
theorem c_X6_swearsIt_2z (l : Launch) (G : Gd) (x : Int32) (o : Nat) (rw : Nat) (fr : Nat) (kp : Nat) (tr : Nat) (ik : Int32) (tp : Nat) (tm : Nat) (mso : Int32) (bg : Nat) (en : Nat) (wd : Int64) (va : Int32) (gd : Int32) (rs : Nat) (mu : Nat) (rm : Nat) (ss : Nat) (msz : Nat) (msh : Nat) (mho : Nat) (mhn : Nat) (mhz : Nat) (nb : Int32) (tn : Int32) (tc : Nat) (bo : Nat) (tcf : Nat → Int32) (hb : bo + 6 ≤ 30) (hz : tn = nb) : Ct l G yX6_swearsIt cX6_swearsIt 3 (some (FieldType.int)) 7 [.ref o, .int x] (wF [wMo o rw fr kp tr ik tp tm mso bg en wd va gd rs mu rm ss msz msh mho mhn mhz 2 nb tn tc bo 0, wI G tc 30 tcf]) (some (.int (((((x * 5 + nb) - 4) - tn) ^^^ 150) + 0))) (wF [wMo o rw fr kp tr ik tp tm mso bg en wd va gd rs mu rm ss msz msh mho mhn mhz 2 nb tn tc (bo + 6) 1, wI G tc 30 (pF [31, 13, 11, 30, 10, 12] tcf bo)]) := by
  refine Ct.of "GooseArmsModel" [some (.ref o), some (.int x), none] (by decide +kernel) rfl (Nat.le_of_ble_eq_true rfl) rfl ?_
  refine J_aload_n 0 0 dX6_swearsIt_0 rfl rfl ?_
  refine g_811 (v := .int 2) 1 0 rfl rfl dX6_swearsIt_1 ?_
  refine J_iconst (v := 2) 4 dX6_swearsIt_4 rfl ?_
  refine J_icmp_eq (tgt := 16) 5 dX6_swearsIt_5 (by decide) (fun _ => ?_) (fun c_1_ => absurd c_1_ (by decide))
  refine J_aload_n 16 0 dX6_swearsIt_16 rfl rfl ?_
  refine J_bipush (v := 31) 17 dX6_swearsIt_17 rfl ?_
  refine kb_RX6_299 (bs' := [wMo o rw fr kp tr ik tp tm mso bg en wd va gd rs mu rm ss msz msh mho mhn mhz 2 nb tn tc (bo + 1) 0, wI G tc 30 (upd tcf bo 31)]) (rest := []) (st' := []) 19 (c_X6_ran l G 31 o rw fr kp tr ik tp tm mso bg en wd va gd rs mu rm ss msz msh mho mhn mhz 2 nb tn tc bo 0 tcf (by first | omega | assumption)) [0, 1] 0 rfl rfl rfl [[o], [tc]] rfl rfl rfl rfl rfl rfl (Nat.le_of_ble_eq_true rfl) rfl dX6_swearsIt_19 ?_
  refine J_aload_n 22 0 dX6_swearsIt_22 rfl rfl ?_
  refine J_iload_n 23 1 dX6_swearsIt_23 rfl rfl ?_
  refine kb_RX6_332 (bs' := [wMo o rw fr kp tr ik tp tm mso bg en wd va gd rs mu rm ss msz msh mho mhn mhz 2 nb tn tc ((bo + 1) + 4) 0, wI G tc 30 (pF [13, 11, 30, 10] (upd tcf bo 31) (bo + 1))]) (rest := []) (st' := [.int ((((x * 5 + nb) - 4) - tn) ^^^ 150)]) 24 (c_X6_plainSwears_2 l G x o rw fr kp tr ik tp tm mso bg en wd va gd rs mu rm ss msz msh mho mhn mhz nb tn tc (bo + 1) (upd tcf bo 31) (by first | omega | assumption)) [0, 1] 0 rfl rfl rfl [[o], [tc]] rfl rfl rfl rfl rfl rfl (Nat.le_of_ble_eq_true rfl) rfl dX6_swearsIt_24 ?_
  refine J_istore_n (lv' := [some (.ref o), some (.int x), some (.int ((((x * 5 + nb) - 4) - tn) ^^^ 150))]) 27 2 dX6_swearsIt_27 rfl (by decide) rfl ?_
  refine J_iload_n 28 2 dX6_swearsIt_28 rfl rfl ?_
  refine J_aload_n 29 0 dX6_swearsIt_29 rfl rfl ?_
  refine J_aload_n 30 0 dX6_swearsIt_30 rfl rfl ?_
  refine g_812 (v := .int nb) 31 0 rfl rfl dX6_swearsIt_31 ?_
  refine kb_RX6_335 (bs' := [wMo o rw fr kp tr ik tp tm mso bg en wd va gd rs mu rm ss msz msh mho mhn mhz 2 nb tn tc (((bo + 1) + 4) + 1) 1, wI G tc 30 (pF [12] (pF [13, 11, 30, 10] (upd tcf bo 31) (bo + 1)) ((bo + 1) + 4))]) (rest := [.int ((((x * 5 + nb) - 4) - tn) ^^^ 150)]) (st' := [.int 0, .int ((((x * 5 + nb) - 4) - tn) ^^^ 150)]) 34 (c_X6_partsIt_2z l G nb o rw fr kp tr ik tp tm mso bg en wd va gd rs mu rm ss msz msh mho mhn mhz nb tn tc ((bo + 1) + 4) (pF [13, 11, 30, 10] (upd tcf bo 31) (bo + 1)) (by first | omega | assumption) (by first | omega | assumption)) [0, 1] 0 rfl rfl rfl [[o], [tc]] rfl rfl rfl rfl rfl rfl (Nat.le_of_ble_eq_true rfl) rfl dX6_swearsIt_34 ?_
  refine J_iadd 37 dX6_swearsIt_37 ?_
  exact J_iret 38 dX6_swearsIt_38 rfl (cg2 (fun (x0_ : Nat) (x1_ : Nat → Int32) => (wF [wMo o rw fr kp tr ik tp tm mso bg en wd va gd rs mu rm ss msz msh mho mhn mhz 2 nb tn tc x0_ 1, wI G tc 30 x1_])) (((bo + 1) + 4) + 1) (bo + 6) (pF [12] (pF [13, 11, 30, 10] (upd tcf bo 31) (bo + 1)) ((bo + 1) + 4)) (pF [31, 13, 11, 30, 10, 12] tcf bo) rfl rfl)
set_option maxRecDepth 100000 in
set_option maxHeartbeats 4000000 in
theorem c_X6_plainShakes_3 (l : Launch) (G : Gd) (x : Int32) (o : Nat) (rw : Nat) (fr : Nat) (kp : Nat) (tr : Nat) (ik : Int32) (tp : Nat) (tm : Nat) (mso : Int32) (bg : Nat) (en : Nat) (wd : Int64) (va : Int32) (gd : Int32) (rs : Nat) (mu : Nat) (rm : Nat) (ss : Nat) (msz : Nat) (msh : Nat) (mho : Nat) (mhn : Nat) (mhz : Nat) (nb : Int32) (tn : Int32) (tc : Nat) (bo : Nat) (tcf : Nat → Int32) (hb : bo + 1 ≤ 30) : Ct l G yX6_plainShakes cX6_plainShakes 2 (some (FieldType.int)) 1 [.ref o, .int x] (wF [wMo o rw fr kp tr ik tp tm mso bg en wd va gd rs mu rm ss msz msh mho mhn mhz 3 nb tn tc bo 0, wI G tc 30 tcf]) (some (.int (x * 5 + nb))) (wF [wMo o rw fr kp tr ik tp tm mso bg en wd va gd rs mu rm ss msz msh mho mhn mhz 3 nb tn tc (bo + 1) 0, wI G tc 30 (pF [10] tcf bo)]) := by
  refine Ct.of "GooseArmsModel" [some (.ref o), some (.int x)] (by decide +kernel) rfl (Nat.le_of_ble_eq_true rfl) rfl ?_
  refine J_aload_n 0 0 dX6_plainShakes_0 rfl rfl ?_
  refine J_bipush (v := 10) 1 dX6_plainShakes_1 rfl ?_
  refine kb_RX6_299 (bs' := [wMo o rw fr kp tr ik tp tm mso bg en wd va gd rs mu rm ss msz msh mho mhn mhz 3 nb tn tc (bo + 1) 0, wI G tc 30 (upd tcf bo 10)]) (rest := []) (st' := []) 3 (c_X6_ran l G 10 o rw fr kp tr ik tp tm mso bg en wd va gd rs mu rm ss msz msh mho mhn mhz 3 nb tn tc bo 0 tcf (by first | omega | assumption)) [0, 1] 0 rfl rfl rfl [[o], [tc]] rfl rfl rfl rfl rfl rfl (Nat.le_of_ble_eq_true rfl) rfl dX6_plainShakes_3 ?_
  refine J_iload_n 6 1 dX6_plainShakes_6 rfl rfl ?_
  refine J_iconst (v := 5) 7 dX6_plainShakes_7 rfl ?_
  refine J_imul 8 dX6_plainShakes_8 ?_
  refine J_aload_n 9 0 dX6_plainShakes_9 rfl rfl ?_
  refine g_812 (v := .int nb) 10 0 rfl rfl dX6_plainShakes_10 ?_
  refine J_iadd 13 dX6_plainShakes_13 ?_
  exact J_iret 14 dX6_plainShakes_14 (congrArg (fun x_ => some (Value.int x_)) (by first | rfl | grind)) (cg1 (fun (x0_ : Nat → Int32) => (wF [wMo o rw fr kp tr ik tp tm mso bg en wd va gd rs mu rm ss msz msh mho mhn mhz 3 nb tn tc (bo + 1) 0, wI G tc 30 x0_])) (upd tcf bo 10) (pF [10] tcf bo) rfl)
set_option maxRecDepth 100000 in
set_option maxHeartbeats 4000000 in
theorem c_X6_advocateShakes_3 (l : Launch) (G : Gd) (x : Int32) (o : Nat) (rw : Nat) (fr : Nat) (kp : Nat) (tr : Nat) (ik : Int32) (tp : Nat) (tm : Nat) (mso : Int32) (bg : Nat) (en : Nat) (wd : Int64) (va : Int32) (gd : Int32) (rs : Nat) (mu : Nat) (rm : Nat) (ss : Nat) (msz : Nat) (msh : Nat) (mho : Nat) (mhn : Nat) (mhz : Nat) (nb : Int32) (tn : Int32) (tc : Nat) (bo : Nat) (tcf : Nat → Int32) (hb : bo + 2 ≤ 30) : Ct l G yX6_advocateShakes cX6_advocateShakes 2 (some (FieldType.int)) 2 [.ref o, .int x] (wF [wMo o rw fr kp tr ik tp tm mso bg en wd va gd rs mu rm ss msz msh mho mhn mhz 3 nb tn tc bo 0, wI G tc 30 tcf]) (some (.int ((x * 5 + nb) - 4))) (wF [wMo o rw fr kp tr ik tp tm mso bg en wd va gd rs mu rm ss msz msh mho mhn mhz 3 nb tn tc (bo + 2) 0, wI G tc 30 (pF [30, 10] tcf bo)]) := by
  refine Ct.of "GooseArmsModel" [some (.ref o), some (.int x)] (by decide +kernel) rfl (Nat.le_of_ble_eq_true rfl) rfl ?_
  refine J_aload_n 0 0 dX6_advocateShakes_0 rfl rfl ?_
  refine J_bipush (v := 30) 1 dX6_advocateShakes_1 rfl ?_
  refine kb_RX6_299 (bs' := [wMo o rw fr kp tr ik tp tm mso bg en wd va gd rs mu rm ss msz msh mho mhn mhz 3 nb tn tc (bo + 1) 0, wI G tc 30 (upd tcf bo 30)]) (rest := []) (st' := []) 3 (c_X6_ran l G 30 o rw fr kp tr ik tp tm mso bg en wd va gd rs mu rm ss msz msh mho mhn mhz 3 nb tn tc bo 0 tcf (by first | omega | assumption)) [0, 1] 0 rfl rfl rfl [[o], [tc]] rfl rfl rfl rfl rfl rfl (Nat.le_of_ble_eq_true rfl) rfl dX6_advocateShakes_3 ?_
  refine J_aload_n 6 0 dX6_advocateShakes_6 rfl rfl ?_
  refine J_iload_n 7 1 dX6_advocateShakes_7 rfl rfl ?_
  refine kb_RX6_305 (bs' := [wMo o rw fr kp tr ik tp tm mso bg en wd va gd rs mu rm ss msz msh mho mhn mhz 3 nb tn tc ((bo + 1) + 1) 0, wI G tc 30 (pF [10] (upd tcf bo 30) (bo + 1))]) (rest := []) (st' := [.int (x * 5 + nb)]) 8 (c_X6_plainShakes_3 l G x o rw fr kp tr ik tp tm mso bg en wd va gd rs mu rm ss msz msh mho mhn mhz nb tn tc (bo + 1) (upd tcf bo 30) (by first | omega | assumption)) [0, 1] 0 rfl rfl rfl [[o], [tc]] rfl rfl rfl rfl rfl rfl (Nat.le_of_ble_eq_true rfl) rfl dX6_advocateShakes_8 ?_
  refine J_iconst (v := 4) 11 dX6_advocateShakes_11 rfl ?_
  refine J_isub 12 dX6_advocateShakes_12 ?_
  exact J_iret 13 dX6_advocateShakes_13 rfl (cg2 (fun (x0_ : Nat) (x1_ : Nat → Int32) => (wF [wMo o rw fr kp tr ik tp tm mso bg en wd va gd rs mu rm ss msz msh mho mhn mhz 3 nb tn tc x0_ 0, wI G tc 30 x1_])) ((bo + 1) + 1) (bo + 2) (pF [10] (upd tcf bo 30) (bo + 1)) (pF [30, 10] tcf bo) rfl rfl)
set_option maxRecDepth 100000 in
set_option maxHeartbeats 4000000 in
theorem c_X6_shakesIt_3 (l : Launch) (G : Gd) (x : Int32) (o : Nat) (rw : Nat) (fr : Nat) (kp : Nat) (tr : Nat) (ik : Int32) (tp : Nat) (tm : Nat) (mso : Int32) (bg : Nat) (en : Nat) (wd : Int64) (va : Int32) (gd : Int32) (rs : Nat) (mu : Nat) (rm : Nat) (ss : Nat) (msz : Nat) (msh : Nat) (mho : Nat) (mhn : Nat) (mhz : Nat) (nb : Int32) (tn : Int32) (tc : Nat) (bo : Nat) (tcf : Nat → Int32) (hb : bo + 2 ≤ 30) : Ct l G yX6_shakesIt cX6_shakesIt 2 (some (FieldType.int)) 3 [.ref o, .int x] (wF [wMo o rw fr kp tr ik tp tm mso bg en wd va gd rs mu rm ss msz msh mho mhn mhz 3 nb tn tc bo 0, wI G tc 30 tcf]) (some (.int ((x * 5 + nb) + tn))) (wF [wMo o rw fr kp tr ik tp tm mso bg en wd va gd rs mu rm ss msz msh mho mhn mhz 3 nb tn tc (bo + 2) 0, wI G tc 30 (pF [51, 10] tcf bo)]) := by
  refine Ct.of "GooseArmsModel" [some (.ref o), some (.int x)] (by decide +kernel) rfl (Nat.le_of_ble_eq_true rfl) rfl ?_
  refine J_aload_n 0 0 dX6_shakesIt_0 rfl rfl ?_
  refine g_811 (v := .int 3) 1 0 rfl rfl dX6_shakesIt_1 ?_
  refine J_tableIn (tgt := 51) (off := 47) 4 3 dX6_shakesIt_4 rfl (by decide +kernel) (by decide) ?_
  refine J_aload_n 51 0 dX6_shakesIt_51 rfl rfl ?_
  refine J_bipush (v := 51) 52 dX6_shakesIt_52 rfl ?_
  refine kb_RX6_299 (bs' := [wMo o rw fr kp tr ik tp tm mso bg en wd va gd rs mu rm ss msz msh mho mhn mhz 3 nb tn tc (bo + 1) 0, wI G tc 30 (upd tcf bo 51)]) (rest := []) (st' := []) 54 (c_X6_ran l G 51 o rw fr kp tr ik tp tm mso bg en wd va gd rs mu rm ss msz msh mho mhn mhz 3 nb tn tc bo 0 tcf (by first | omega | assumption)) [0, 1] 0 rfl rfl rfl [[o], [tc]] rfl rfl rfl rfl rfl rfl (Nat.le_of_ble_eq_true rfl) rfl dX6_shakesIt_54 ?_
  refine J_aload_n 57 0 dX6_shakesIt_57 rfl rfl ?_
  refine J_iload_n 58 1 dX6_shakesIt_58 rfl rfl ?_
  refine kb_RX6_305 (bs' := [wMo o rw fr kp tr ik tp tm mso bg en wd va gd rs mu rm ss msz msh mho mhn mhz 3 nb tn tc ((bo + 1) + 1) 0, wI G tc 30 (pF [10] (upd tcf bo 51) (bo + 1))]) (rest := []) (st' := [.int (x * 5 + nb)]) 59 (c_X6_plainShakes_3 l G x o rw fr kp tr ik tp tm mso bg en wd va gd rs mu rm ss msz msh mho mhn mhz nb tn tc (bo + 1) (upd tcf bo 51) (by first | omega | assumption)) [0, 1] 0 rfl rfl rfl [[o], [tc]] rfl rfl rfl rfl rfl rfl (Nat.le_of_ble_eq_true rfl) rfl dX6_shakesIt_59 ?_
  refine J_aload_n 62 0 dX6_shakesIt_62 rfl rfl ?_
  refine g_813 (v := .int tn) 63 0 rfl rfl dX6_shakesIt_63 ?_
  refine J_iadd 66 dX6_shakesIt_66 ?_
  exact J_iret 67 dX6_shakesIt_67 rfl (cg2 (fun (x0_ : Nat) (x1_ : Nat → Int32) => (wF [wMo o rw fr kp tr ik tp tm mso bg en wd va gd rs mu rm ss msz msh mho mhn mhz 3 nb tn tc x0_ 0, wI G tc 30 x1_])) ((bo + 1) + 1) (bo + 2) (pF [10] (upd tcf bo 51) (bo + 1)) (pF [51, 10] tcf bo) rfl rfl)
set_option maxRecDepth 100000 in
set_option maxHeartbeats 4000000 in
theorem c_X6_plainReads_3 (l : Launch) (G : Gd) (x : Int32) (o : Nat) (rw : Nat) (fr : Nat) (kp : Nat) (tr : Nat) (ik : Int32) (tp : Nat) (tm : Nat) (mso : Int32) (bg : Nat) (en : Nat) (wd : Int64) (va : Int32) (gd : Int32) (rs : Nat) (mu : Nat) (rm : Nat) (ss : Nat) (msz : Nat) (msh : Nat) (mho : Nat) (mhn : Nat) (mhz : Nat) (nb : Int32) (tn : Int32) (tc : Nat) (bo : Nat) (tcf : Nat → Int32) (hb : bo + 3 ≤ 30) : Ct l G yX6_plainReads cX6_plainReads 2 (some (FieldType.int)) 4 [.ref o, .int x] (wF [wMo o rw fr kp tr ik tp tm mso bg en wd va gd rs mu rm ss msz msh mho mhn mhz 3 nb tn tc bo 0, wI G tc 30 tcf]) (some (.int (((x * 5 + nb) + tn) - tn))) (wF [wMo o rw fr kp tr ik tp tm mso bg en wd va gd rs mu rm ss msz msh mho mhn mhz 3 nb tn tc (bo + 3) 0, wI G tc 30 (pF [11, 51, 10] tcf bo)]) := by
  refine Ct.of "GooseArmsModel" [some (.ref o), some (.int x)] (by decide +kernel) rfl (Nat.le_of_ble_eq_true rfl) rfl ?_
  refine J_aload_n 0 0 dX6_plainReads_0 rfl rfl ?_
  refine J_bipush (v := 11) 1 dX6_plainReads_1 rfl ?_
  refine kb_RX6_299 (bs' := [wMo o rw fr kp tr ik tp tm mso bg en wd va gd rs mu rm ss msz msh mho mhn mhz 3 nb tn tc (bo + 1) 0, wI G tc 30 (upd tcf bo 11)]) (rest := []) (st' := []) 3 (c_X6_ran l G 11 o rw fr kp tr ik tp tm mso bg en wd va gd rs mu rm ss msz msh mho mhn mhz 3 nb tn tc bo 0 tcf (by first | omega | assumption)) [0, 1] 0 rfl rfl rfl [[o], [tc]] rfl rfl rfl rfl rfl rfl (Nat.le_of_ble_eq_true rfl) rfl dX6_plainReads_3 ?_
  refine J_aload_n 6 0 dX6_plainReads_6 rfl rfl ?_
  refine J_iload_n 7 1 dX6_plainReads_7 rfl rfl ?_
  refine kb_RX6_317 (bs' := [wMo o rw fr kp tr ik tp tm mso bg en wd va gd rs mu rm ss msz msh mho mhn mhz 3 nb tn tc ((bo + 1) + 2) 0, wI G tc 30 (pF [51, 10] (upd tcf bo 11) (bo + 1))]) (rest := []) (st' := [.int ((x * 5 + nb) + tn)]) 8 (c_X6_shakesIt_3 l G x o rw fr kp tr ik tp tm mso bg en wd va gd rs mu rm ss msz msh mho mhn mhz nb tn tc (bo + 1) (upd tcf bo 11) (by first | omega | assumption)) [0, 1] 0 rfl rfl rfl [[o], [tc]] rfl rfl rfl rfl rfl rfl (Nat.le_of_ble_eq_true rfl) rfl dX6_plainReads_8 ?_
  refine J_aload_n 11 0 dX6_plainReads_11 rfl rfl ?_
  refine g_813 (v := .int tn) 12 0 rfl rfl dX6_plainReads_12 ?_
  refine J_isub 15 dX6_plainReads_15 ?_
  exact J_iret 16 dX6_plainReads_16 rfl (cg2 (fun (x0_ : Nat) (x1_ : Nat → Int32) => (wF [wMo o rw fr kp tr ik tp tm mso bg en wd va gd rs mu rm ss msz msh mho mhn mhz 3 nb tn tc x0_ 0, wI G tc 30 x1_])) ((bo + 1) + 2) (bo + 3) (pF [51, 10] (upd tcf bo 11) (bo + 1)) (pF [11, 51, 10] tcf bo) rfl rfl)
set_option maxRecDepth 100000 in
set_option maxHeartbeats 4000000 in
theorem c_X6_readsIt_3 (l : Launch) (G : Gd) (x : Int32) (o : Nat) (rw : Nat) (fr : Nat) (kp : Nat) (tr : Nat) (ik : Int32) (tp : Nat) (tm : Nat) (mso : Int32) (bg : Nat) (en : Nat) (wd : Int64) (va : Int32) (gd : Int32) (rs : Nat) (mu : Nat) (rm : Nat) (ss : Nat) (msz : Nat) (msh : Nat) (mho : Nat) (mhn : Nat) (mhz : Nat) (nb : Int32) (tn : Int32) (tc : Nat) (bo : Nat) (tcf : Nat → Int32) (hb : bo + 4 ≤ 30) : Ct l G yX6_readsIt cX6_readsIt 3 (some (FieldType.int)) 5 [.ref o, .int x] (wF [wMo o rw fr kp tr ik tp tm mso bg en wd va gd rs mu rm ss msz msh mho mhn mhz 3 nb tn tc bo 0, wI G tc 30 tcf]) (some (.int ((((x * 5 + nb) + tn) - tn) * 2))) (wF [wMo o rw fr kp tr ik tp tm mso bg en wd va gd rs mu rm ss msz msh mho mhn mhz 3 nb tn tc (bo + 4) 0, wI G tc 30 (pF [20, 11, 51, 10] tcf bo)]) := by
  refine Ct.of "GooseArmsModel" [some (.ref o), some (.int x), none] (by decide +kernel) rfl (Nat.le_of_ble_eq_true rfl) rfl ?_
  refine J_aload_n 0 0 dX6_readsIt_0 rfl rfl ?_
  refine g_811 (v := .int 3) 1 0 rfl rfl dX6_readsIt_1 ?_
  refine J_iconst (v := 1) 4 dX6_readsIt_4 rfl ?_
  refine J_icmp_eq (tgt := 16) 5 dX6_readsIt_5 (by decide) (fun c_1_ => absurd c_1_ (by decide)) (fun _ => ?_)
  refine J_aload_n 8 0 dX6_readsIt_8 rfl rfl ?_
  refine g_811 (v := .int 3) 9 0 rfl rfl dX6_readsIt_9 ?_
  refine J_iconst (v := 3) 12 dX6_readsIt_12 rfl ?_
  refine J_icmp_ne (tgt := 30) 13 dX6_readsIt_13 (by decide) (fun c_2_ => absurd c_2_ (by decide)) (fun _ => ?_)
  refine J_aload_n 16 0 dX6_readsIt_16 rfl rfl ?_
  refine J_bipush (v := 20) 17 dX6_readsIt_17 rfl ?_
  refine kb_RX6_299 (bs' := [wMo o rw fr kp tr ik tp tm mso bg en wd va gd rs mu rm ss msz msh mho mhn mhz 3 nb tn tc (bo + 1) 0, wI G tc 30 (upd tcf bo 20)]) (rest := []) (st' := []) 19 (c_X6_ran l G 20 o rw fr kp tr ik tp tm mso bg en wd va gd rs mu rm ss msz msh mho mhn mhz 3 nb tn tc bo 0 tcf (by first | omega | assumption)) [0, 1] 0 rfl rfl rfl [[o], [tc]] rfl rfl rfl rfl rfl rfl (Nat.le_of_ble_eq_true rfl) rfl dX6_readsIt_19 ?_
  refine J_aload_n 22 0 dX6_readsIt_22 rfl rfl ?_
  refine J_iload_n 23 1 dX6_readsIt_23 rfl rfl ?_
  refine kb_RX6_320 (bs' := [wMo o rw fr kp tr ik tp tm mso bg en wd va gd rs mu rm ss msz msh mho mhn mhz 3 nb tn tc ((bo + 1) + 3) 0, wI G tc 30 (pF [11, 51, 10] (upd tcf bo 20) (bo + 1))]) (rest := []) (st' := [.int (((x * 5 + nb) + tn) - tn)]) 24 (c_X6_plainReads_3 l G x o rw fr kp tr ik tp tm mso bg en wd va gd rs mu rm ss msz msh mho mhn mhz nb tn tc (bo + 1) (upd tcf bo 20) (by first | omega | assumption)) [0, 1] 0 rfl rfl rfl [[o], [tc]] rfl rfl rfl rfl rfl rfl (Nat.le_of_ble_eq_true rfl) rfl dX6_readsIt_24 ?_
  refine J_iconst (v := 2) 27 dX6_readsIt_27 rfl ?_
  refine J_imul 28 dX6_readsIt_28 ?_
  exact J_iret 29 dX6_readsIt_29 rfl (cg2 (fun (x0_ : Nat) (x1_ : Nat → Int32) => (wF [wMo o rw fr kp tr ik tp tm mso bg en wd va gd rs mu rm ss msz msh mho mhn mhz 3 nb tn tc x0_ 0, wI G tc 30 x1_])) ((bo + 1) + 3) (bo + 4) (pF [11, 51, 10] (upd tcf bo 20) (bo + 1)) (pF [20, 11, 51, 10] tcf bo) rfl rfl)
set_option maxRecDepth 100000 in
set_option maxHeartbeats 4000000 in
theorem c_X6_plainParts_3 (l : Launch) (G : Gd) (x : Int32) (o : Nat) (rw : Nat) (fr : Nat) (kp : Nat) (tr : Nat) (ik : Int32) (tp : Nat) (tm : Nat) (mso : Int32) (bg : Nat) (en : Nat) (wd : Int64) (va : Int32) (gd : Int32) (rs : Nat) (mu : Nat) (rm : Nat) (ss : Nat) (msz : Nat) (msh : Nat) (mho : Nat) (mhn : Nat) (mhz : Nat) (nb : Int32) (tn : Int32) (tc : Nat) (bo : Nat) (tcf : Nat → Int32) (hb : bo + 1 ≤ 30) (hz : ¬ tn = nb) : Ct l G yX6_plainParts cX6_plainParts 2 (some (FieldType.int)) 1 [.ref o, .int x] (wF [wMo o rw fr kp tr ik tp tm mso bg en wd va gd rs mu rm ss msz msh mho mhn mhz 3 nb tn tc bo 0, wI G tc 30 tcf]) (some (.int (x / (tn - nb)))) (wF [wMo o rw fr kp tr ik tp tm mso bg en wd va gd rs mu rm ss msz msh mho mhn mhz 3 nb tn tc (bo + 1) 0, wI G tc 30 (pF [12] tcf bo)]) := by
  refine Ct.of "GooseArmsModel" [some (.ref o), some (.int x)] (by decide +kernel) rfl (Nat.le_of_ble_eq_true rfl) rfl ?_
  refine J_aload_n 0 0 dX6_plainParts_0 rfl rfl ?_
  refine J_bipush (v := 12) 1 dX6_plainParts_1 rfl ?_
  refine kb_RX6_299 (bs' := [wMo o rw fr kp tr ik tp tm mso bg en wd va gd rs mu rm ss msz msh mho mhn mhz 3 nb tn tc (bo + 1) 0, wI G tc 30 (upd tcf bo 12)]) (rest := []) (st' := []) 3 (c_X6_ran l G 12 o rw fr kp tr ik tp tm mso bg en wd va gd rs mu rm ss msz msh mho mhn mhz 3 nb tn tc bo 0 tcf (by first | omega | assumption)) [0, 1] 0 rfl rfl rfl [[o], [tc]] rfl rfl rfl rfl rfl rfl (Nat.le_of_ble_eq_true rfl) rfl dX6_plainParts_3 ?_
  refine J_aload_n 6 0 dX6_plainParts_6 rfl rfl ?_
  refine g_813 (v := .int tn) 7 0 rfl rfl dX6_plainParts_7 ?_
  refine J_aload_n 10 0 dX6_plainParts_10 rfl rfl ?_
  refine g_812 (v := .int nb) 11 0 rfl rfl dX6_plainParts_11 ?_
  refine J_icmp_ne (tgt := 24) 14 dX6_plainParts_14 (by decide) (fun c_1_ => ?_) (fun c_1_ => ?_)
  · skip
    refine J_iload_n 24 1 dX6_plainParts_24 rfl rfl ?_
    refine J_aload_n 25 0 dX6_plainParts_25 rfl rfl ?_
    refine g_813 (v := .int tn) 26 0 rfl rfl dX6_plainParts_26 ?_
    refine J_aload_n 29 0 dX6_plainParts_29 rfl rfl ?_
    refine g_812 (v := .int nb) 30 0 rfl rfl dX6_plainParts_30 ?_
    refine J_isub 33 dX6_plainParts_33 ?_
    refine J_idiv 34 dX6_plainParts_34 (sub_ne0 hz) ?_
    exact J_iret 35 dX6_plainParts_35 rfl (cg1 (fun (x0_ : Nat → Int32) => (wF [wMo o rw fr kp tr ik tp tm mso bg en wd va gd rs mu rm ss msz msh mho mhn mhz 3 nb tn tc (bo + 1) 0, wI G tc 30 x0_])) (upd tcf bo 12) (pF [12] tcf bo) rfl)
  · skip
    exact absurd c_1_ hz
set_option maxRecDepth 100000 in
set_option maxHeartbeats 4000000 in
theorem c_X6_plainParts_3z (l : Launch) (G : Gd) (x : Int32) (o : Nat) (rw : Nat) (fr : Nat) (kp : Nat) (tr : Nat) (ik : Int32) (tp : Nat) (tm : Nat) (mso : Int32) (bg : Nat) (en : Nat) (wd : Int64) (va : Int32) (gd : Int32) (rs : Nat) (mu : Nat) (rm : Nat) (ss : Nat) (msz : Nat) (msh : Nat) (mho : Nat) (mhn : Nat) (mhz : Nat) (nb : Int32) (tn : Int32) (tc : Nat) (bo : Nat) (tcf : Nat → Int32) (hb : bo + 1 ≤ 30) (hz : tn = nb) : Ct l G yX6_plainParts cX6_plainParts 2 (some (FieldType.int)) 1 [.ref o, .int x] (wF [wMo o rw fr kp tr ik tp tm mso bg en wd va gd rs mu rm ss msz msh mho mhn mhz 3 nb tn tc bo 0, wI G tc 30 tcf]) (some (.int 0)) (wF [wMo o rw fr kp tr ik tp tm mso bg en wd va gd rs mu rm ss msz msh mho mhn mhz 3 nb tn tc (bo + 1) 1, wI G tc 30 (pF [12] tcf bo)]) := by
  refine Ct.of "GooseArmsModel" [some (.ref o), some (.int x)] (by decide +kernel) rfl (Nat.le_of_ble_eq_true rfl) rfl ?_
  refine J_aload_n 0 0 dX6_plainParts_0 rfl rfl ?_
  refine J_bipush (v := 12) 1 dX6_plainParts_1 rfl ?_
  refine kb_RX6_299 (bs' := [wMo o rw fr kp tr ik tp tm mso bg en wd va gd rs mu rm ss msz msh mho mhn mhz 3 nb tn tc (bo + 1) 0, wI G tc 30 (upd tcf bo 12)]) (rest := []) (st' := []) 3 (c_X6_ran l G 12 o rw fr kp tr ik tp tm mso bg en wd va gd rs mu rm ss msz msh mho mhn mhz 3 nb tn tc bo 0 tcf (by first | omega | assumption)) [0, 1] 0 rfl rfl rfl [[o], [tc]] rfl rfl rfl rfl rfl rfl (Nat.le_of_ble_eq_true rfl) rfl dX6_plainParts_3 ?_
  refine J_aload_n 6 0 dX6_plainParts_6 rfl rfl ?_
  refine g_813 (v := .int tn) 7 0 rfl rfl dX6_plainParts_7 ?_
  refine J_aload_n 10 0 dX6_plainParts_10 rfl rfl ?_
  refine g_812 (v := .int nb) 11 0 rfl rfl dX6_plainParts_11 ?_
  refine J_icmp_ne (tgt := 24) 14 dX6_plainParts_14 (by decide) (fun c_1_ => ?_) (fun c_1_ => ?_)
  · skip
    exact absurd hz c_1_
  · skip
    refine J_aload_n 17 0 dX6_plainParts_17 rfl rfl ?_
    refine J_iconst (v := 1) 18 dX6_plainParts_18 rfl ?_
    refine p_816 (ws' := (wF [wMo o rw fr kp tr ik tp tm mso bg en wd va gd rs mu rm ss msz msh mho mhn mhz 3 nb tn tc (bo + 1) 1, wI G tc 30 (upd tcf bo 12)])) 19 0 rfl rfl rfl (Nat.le_of_ble_eq_true rfl) rfl dX6_plainParts_19 ?_
    refine J_iconst (v := 0) 22 dX6_plainParts_22 rfl ?_
    exact J_iret 23 dX6_plainParts_23 rfl (cg1 (fun (x0_ : Nat → Int32) => (wF [wMo o rw fr kp tr ik tp tm mso bg en wd va gd rs mu rm ss msz msh mho mhn mhz 3 nb tn tc (bo + 1) 1, wI G tc 30 x0_])) (upd tcf bo 12) (pF [12] tcf bo) rfl)
set_option maxRecDepth 100000 in
set_option maxHeartbeats 4000000 in
theorem c_X6_partsIt_3 (l : Launch) (G : Gd) (x : Int32) (o : Nat) (rw : Nat) (fr : Nat) (kp : Nat) (tr : Nat) (ik : Int32) (tp : Nat) (tm : Nat) (mso : Int32) (bg : Nat) (en : Nat) (wd : Int64) (va : Int32) (gd : Int32) (rs : Nat) (mu : Nat) (rm : Nat) (ss : Nat) (msz : Nat) (msh : Nat) (mho : Nat) (mhn : Nat) (mhz : Nat) (nb : Int32) (tn : Int32) (tc : Nat) (bo : Nat) (tcf : Nat → Int32) (hb : bo + 2 ≤ 30) (hz : ¬ tn = nb) : Ct l G yX6_partsIt cX6_partsIt 3 (some (FieldType.int)) 4 [.ref o, .int x] (wF [wMo o rw fr kp tr ik tp tm mso bg en wd va gd rs mu rm ss msz msh mho mhn mhz 3 nb tn tc bo 0, wI G tc 30 tcf]) (some (.int (((x * 3) / (tn - nb)) + 2))) (wF [wMo o rw fr kp tr ik tp tm mso bg en wd va gd rs mu rm ss msz msh mho mhn mhz 3 nb tn tc (bo + 2) 0, wI G tc 30 (pF [50, 12] tcf bo)]) := by
  refine Ct.of "GooseArmsModel" [some (.ref o), some (.int x), none] (by decide +kernel) rfl (Nat.le_of_ble_eq_true rfl) rfl ?_
  refine J_aload_n 0 0 dX6_partsIt_0 rfl rfl ?_
  refine g_811 (v := .int 3) 1 0 rfl rfl dX6_partsIt_1 ?_
  refine J_iconst (v := 3) 4 dX6_partsIt_4 rfl ?_
  refine J_icmp_ne (tgt := 24) 5 dX6_partsIt_5 (by decide) (fun c_1_ => absurd c_1_ (by decide)) (fun _ => ?_)
  refine J_aload_n 8 0 dX6_partsIt_8 rfl rfl ?_
  refine J_bipush (v := 50) 9 dX6_partsIt_9 rfl ?_
  refine kb_RX6_299 (bs' := [wMo o rw fr kp tr ik tp tm mso bg en wd va gd rs mu rm ss msz msh mho mhn mhz 3 nb tn tc (bo + 1) 0, wI G tc 30 (upd tcf bo 50)]) (rest := []) (st' := []) 11 (c_X6_ran l G 50 o rw fr kp tr ik tp tm mso bg en wd va gd rs mu rm ss msz msh mho mhn mhz 3 nb tn tc bo 0 tcf (by first | omega | assumption)) [0, 1] 0 rfl rfl rfl [[o], [tc]] rfl rfl rfl rfl rfl rfl (Nat.le_of_ble_eq_true rfl) rfl dX6_partsIt_11 ?_
  refine J_aload_n 14 0 dX6_partsIt_14 rfl rfl ?_
  refine J_iload_n 15 1 dX6_partsIt_15 rfl rfl ?_
  refine J_iconst (v := 3) 16 dX6_partsIt_16 rfl ?_
  refine J_imul 17 dX6_partsIt_17 ?_
  refine kb_RX6_326 (bs' := [wMo o rw fr kp tr ik tp tm mso bg en wd va gd rs mu rm ss msz msh mho mhn mhz 3 nb tn tc ((bo + 1) + 1) 0, wI G tc 30 (pF [12] (upd tcf bo 50) (bo + 1))]) (rest := []) (st' := [.int ((x * 3) / (tn - nb))]) 18 (c_X6_plainParts_3 l G (x * 3) o rw fr kp tr ik tp tm mso bg en wd va gd rs mu rm ss msz msh mho mhn mhz nb tn tc (bo + 1) (upd tcf bo 50) (by first | omega | assumption) (by first | omega | assumption)) [0, 1] 0 rfl rfl rfl [[o], [tc]] rfl rfl rfl rfl rfl rfl (Nat.le_of_ble_eq_true rfl) rfl dX6_partsIt_18 ?_
  refine J_iconst (v := 2) 21 dX6_partsIt_21 rfl ?_
  refine J_iadd 22 dX6_partsIt_22 ?_
  exact J_iret 23 dX6_partsIt_23 rfl (cg2 (fun (x0_ : Nat) (x1_ : Nat → Int32) => (wF [wMo o rw fr kp tr ik tp tm mso bg en wd va gd rs mu rm ss msz msh mho mhn mhz 3 nb tn tc x0_ 0, wI G tc 30 x1_])) ((bo + 1) + 1) (bo + 2) (pF [12] (upd tcf bo 50) (bo + 1)) (pF [50, 12] tcf bo) rfl rfl)
set_option maxRecDepth 100000 in
set_option maxHeartbeats 4000000 in
theorem c_X6_partsIt_3z (l : Launch) (G : Gd) (x : Int32) (o : Nat) (rw : Nat) (fr : Nat) (kp : Nat) (tr : Nat) (ik : Int32) (tp : Nat) (tm : Nat) (mso : Int32) (bg : Nat) (en : Nat) (wd : Int64) (va : Int32) (gd : Int32) (rs : Nat) (mu : Nat) (rm : Nat) (ss : Nat) (msz : Nat) (msh : Nat) (mho : Nat) (mhn : Nat) (mhz : Nat) (nb : Int32) (tn : Int32) (tc : Nat) (bo : Nat) (tcf : Nat → Int32) (hb : bo + 2 ≤ 30) (hz : tn = nb) : Ct l G yX6_partsIt cX6_partsIt 3 (some (FieldType.int)) 4 [.ref o, .int x] (wF [wMo o rw fr kp tr ik tp tm mso bg en wd va gd rs mu rm ss msz msh mho mhn mhz 3 nb tn tc bo 0, wI G tc 30 tcf]) (some (.int (0 + 2))) (wF [wMo o rw fr kp tr ik tp tm mso bg en wd va gd rs mu rm ss msz msh mho mhn mhz 3 nb tn tc (bo + 2) 1, wI G tc 30 (pF [50, 12] tcf bo)]) := by
  refine Ct.of "GooseArmsModel" [some (.ref o), some (.int x), none] (by decide +kernel) rfl (Nat.le_of_ble_eq_true rfl) rfl ?_
  refine J_aload_n 0 0 dX6_partsIt_0 rfl rfl ?_
  refine g_811 (v := .int 3) 1 0 rfl rfl dX6_partsIt_1 ?_
  refine J_iconst (v := 3) 4 dX6_partsIt_4 rfl ?_
  refine J_icmp_ne (tgt := 24) 5 dX6_partsIt_5 (by decide) (fun c_1_ => absurd c_1_ (by decide)) (fun _ => ?_)
  refine J_aload_n 8 0 dX6_partsIt_8 rfl rfl ?_
  refine J_bipush (v := 50) 9 dX6_partsIt_9 rfl ?_
  refine kb_RX6_299 (bs' := [wMo o rw fr kp tr ik tp tm mso bg en wd va gd rs mu rm ss msz msh mho mhn mhz 3 nb tn tc (bo + 1) 0, wI G tc 30 (upd tcf bo 50)]) (rest := []) (st' := []) 11 (c_X6_ran l G 50 o rw fr kp tr ik tp tm mso bg en wd va gd rs mu rm ss msz msh mho mhn mhz 3 nb tn tc bo 0 tcf (by first | omega | assumption)) [0, 1] 0 rfl rfl rfl [[o], [tc]] rfl rfl rfl rfl rfl rfl (Nat.le_of_ble_eq_true rfl) rfl dX6_partsIt_11 ?_
  refine J_aload_n 14 0 dX6_partsIt_14 rfl rfl ?_
  refine J_iload_n 15 1 dX6_partsIt_15 rfl rfl ?_
  refine J_iconst (v := 3) 16 dX6_partsIt_16 rfl ?_
  refine J_imul 17 dX6_partsIt_17 ?_
  refine kb_RX6_326 (bs' := [wMo o rw fr kp tr ik tp tm mso bg en wd va gd rs mu rm ss msz msh mho mhn mhz 3 nb tn tc ((bo + 1) + 1) 1, wI G tc 30 (pF [12] (upd tcf bo 50) (bo + 1))]) (rest := []) (st' := [.int 0]) 18 (c_X6_plainParts_3z l G (x * 3) o rw fr kp tr ik tp tm mso bg en wd va gd rs mu rm ss msz msh mho mhn mhz nb tn tc (bo + 1) (upd tcf bo 50) (by first | omega | assumption) (by first | omega | assumption)) [0, 1] 0 rfl rfl rfl [[o], [tc]] rfl rfl rfl rfl rfl rfl (Nat.le_of_ble_eq_true rfl) rfl dX6_partsIt_18 ?_
  refine J_iconst (v := 2) 21 dX6_partsIt_21 rfl ?_
  refine J_iadd 22 dX6_partsIt_22 ?_
  refine J_topi (y := 2) 23 rfl ?_
  exact J_iret 23 dX6_partsIt_23 (congrArg (fun x_ => some (Value.int x_)) (by first | rfl | grind)) (cg2 (fun (x0_ : Nat) (x1_ : Nat → Int32) => (wF [wMo o rw fr kp tr ik tp tm mso bg en wd va gd rs mu rm ss msz msh mho mhn mhz 3 nb tn tc x0_ 1, wI G tc 30 x1_])) ((bo + 1) + 1) (bo + 2) (pF [12] (upd tcf bo 50) (bo + 1)) (pF [50, 12] tcf bo) rfl rfl)
set_option maxRecDepth 100000 in
set_option maxHeartbeats 4000000 in
theorem c_X6_plainSwears_3 (l : Launch) (G : Gd) (x : Int32) (o : Nat) (rw : Nat) (fr : Nat) (kp : Nat) (tr : Nat) (ik : Int32) (tp : Nat) (tm : Nat) (mso : Int32) (bg : Nat) (en : Nat) (wd : Int64) (va : Int32) (gd : Int32) (rs : Nat) (mu : Nat) (rm : Nat) (ss : Nat) (msz : Nat) (msh : Nat) (mho : Nat) (mhn : Nat) (mhz : Nat) (nb : Int32) (tn : Int32) (tc : Nat) (bo : Nat) (tcf : Nat → Int32) (hb : bo + 5 ≤ 30) : Ct l G yX6_plainSwears cX6_plainSwears 2 (some (FieldType.int)) 6 [.ref o, .int x] (wF [wMo o rw fr kp tr ik tp tm mso bg en wd va gd rs mu rm ss msz msh mho mhn mhz 3 nb tn tc bo 0, wI G tc 30 tcf]) (some (.int (((((x * 5 + nb) + tn) - tn) * 2) ^^^ 150))) (wF [wMo o rw fr kp tr ik tp tm mso bg en wd va gd rs mu rm ss msz msh mho mhn mhz 3 nb tn tc (bo + 5) 0, wI G tc 30 (pF [13, 20, 11, 51, 10] tcf bo)]) := by
  refine Ct.of "GooseArmsModel" [some (.ref o), some (.int x)] (by decide +kernel) rfl (Nat.le_of_ble_eq_true rfl) rfl ?_
  refine J_aload_n 0 0 dX6_plainSwears_0 rfl rfl ?_
  refine J_bipush (v := 13) 1 dX6_plainSwears_1 rfl ?_
  refine kb_RX6_299 (bs' := [wMo o rw fr kp tr ik tp tm mso bg en wd va gd rs mu rm ss msz msh mho mhn mhz 3 nb tn tc (bo + 1) 0, wI G tc 30 (upd tcf bo 13)]) (rest := []) (st' := []) 3 (c_X6_ran l G 13 o rw fr kp tr ik tp tm mso bg en wd va gd rs mu rm ss msz msh mho mhn mhz 3 nb tn tc bo 0 tcf (by first | omega | assumption)) [0, 1] 0 rfl rfl rfl [[o], [tc]] rfl rfl rfl rfl rfl rfl (Nat.le_of_ble_eq_true rfl) rfl dX6_plainSwears_3 ?_
  refine J_aload_n 6 0 dX6_plainSwears_6 rfl rfl ?_
  refine J_iload_n 7 1 dX6_plainSwears_7 rfl rfl ?_
  refine kb_RX6_329 (bs' := [wMo o rw fr kp tr ik tp tm mso bg en wd va gd rs mu rm ss msz msh mho mhn mhz 3 nb tn tc ((bo + 1) + 4) 0, wI G tc 30 (pF [20, 11, 51, 10] (upd tcf bo 13) (bo + 1))]) (rest := []) (st' := [.int ((((x * 5 + nb) + tn) - tn) * 2)]) 8 (c_X6_readsIt_3 l G x o rw fr kp tr ik tp tm mso bg en wd va gd rs mu rm ss msz msh mho mhn mhz nb tn tc (bo + 1) (upd tcf bo 13) (by first | omega | assumption)) [0, 1] 0 rfl rfl rfl [[o], [tc]] rfl rfl rfl rfl rfl rfl (Nat.le_of_ble_eq_true rfl) rfl dX6_plainSwears_8 ?_
  refine J_sipush (v := 150) 11 dX6_plainSwears_11 rfl ?_
  refine J_ixor 14 dX6_plainSwears_14 ?_
  exact J_iret 15 dX6_plainSwears_15 rfl (cg2 (fun (x0_ : Nat) (x1_ : Nat → Int32) => (wF [wMo o rw fr kp tr ik tp tm mso bg en wd va gd rs mu rm ss msz msh mho mhn mhz 3 nb tn tc x0_ 0, wI G tc 30 x1_])) ((bo + 1) + 4) (bo + 5) (pF [20, 11, 51, 10] (upd tcf bo 13) (bo + 1)) (pF [13, 20, 11, 51, 10] tcf bo) rfl rfl)
set_option maxRecDepth 100000 in
set_option maxHeartbeats 4000000 in
theorem c_X6_swearsIt_3 (l : Launch) (G : Gd) (x : Int32) (o : Nat) (rw : Nat) (fr : Nat) (kp : Nat) (tr : Nat) (ik : Int32) (tp : Nat) (tm : Nat) (mso : Int32) (bg : Nat) (en : Nat) (wd : Int64) (va : Int32) (gd : Int32) (rs : Nat) (mu : Nat) (rm : Nat) (ss : Nat) (msz : Nat) (msh : Nat) (mho : Nat) (mhn : Nat) (mhz : Nat) (nb : Int32) (tn : Int32) (tc : Nat) (bo : Nat) (tcf : Nat → Int32) (hb : bo + 5 ≤ 30) : Ct l G yX6_swearsIt cX6_swearsIt 3 (some (FieldType.int)) 7 [.ref o, .int x] (wF [wMo o rw fr kp tr ik tp tm mso bg en wd va gd rs mu rm ss msz msh mho mhn mhz 3 nb tn tc bo 0, wI G tc 30 tcf]) (some (.int (((((x * 5 + nb) + tn) - tn) * 2) ^^^ 150))) (wF [wMo o rw fr kp tr ik tp tm mso bg en wd va gd rs mu rm ss msz msh mho mhn mhz 3 nb tn tc (bo + 5) 0, wI G tc 30 (pF [13, 20, 11, 51, 10] tcf bo)]) := by
  refine Ct.of "GooseArmsModel" [some (.ref o), some (.int x), none] (by decide +kernel) rfl (Nat.le_of_ble_eq_true rfl) rfl ?_
  refine J_aload_n 0 0 dX6_swearsIt_0 rfl rfl ?_
  refine g_811 (v := .int 3) 1 0 rfl rfl dX6_swearsIt_1 ?_
  refine J_iconst (v := 2) 4 dX6_swearsIt_4 rfl ?_
  refine J_icmp_eq (tgt := 16) 5 dX6_swearsIt_5 (by decide) (fun c_1_ => absurd c_1_ (by decide)) (fun _ => ?_)
  refine J_aload_n 8 0 dX6_swearsIt_8 rfl rfl ?_
  refine g_811 (v := .int 3) 9 0 rfl rfl dX6_swearsIt_9 ?_
  refine J_iconst (v := 4) 12 dX6_swearsIt_12 rfl ?_
  refine J_icmp_ne (tgt := 39) 13 dX6_swearsIt_13 (by decide) (fun _ => ?_) (fun c_2_ => absurd c_2_ (by decide))
  refine J_aload_n 39 0 dX6_swearsIt_39 rfl rfl ?_
  refine g_811 (v := .int 3) 40 0 rfl rfl dX6_swearsIt_40 ?_
  refine J_iconst (v := 5) 43 dX6_swearsIt_43 rfl ?_
  refine J_icmp_ne (tgt := 61) 44 dX6_swearsIt_44 (by decide) (fun _ => ?_) (fun c_3_ => absurd c_3_ (by decide))
  refine J_aload_n 61 0 dX6_swearsIt_61 rfl rfl ?_
  refine J_iload_n 62 1 dX6_swearsIt_62 rfl rfl ?_
  refine kb_RX6_332 (bs' := [wMo o rw fr kp tr ik tp tm mso bg en wd va gd rs mu rm ss msz msh mho mhn mhz 3 nb tn tc (bo + 5) 0, wI G tc 30 (pF [13, 20, 11, 51, 10] tcf bo)]) (rest := []) (st' := [.int (((((x * 5 + nb) + tn) - tn) * 2) ^^^ 150)]) 63 (c_X6_plainSwears_3 l G x o rw fr kp tr ik tp tm mso bg en wd va gd rs mu rm ss msz msh mho mhn mhz nb tn tc bo tcf (by first | omega | assumption)) [0, 1] 0 rfl rfl rfl [[o], [tc]] rfl rfl rfl rfl rfl rfl (Nat.le_of_ble_eq_true rfl) rfl dX6_swearsIt_63 ?_
  exact J_iret 66 dX6_swearsIt_66 rfl rfl
set_option maxRecDepth 100000 in
set_option maxHeartbeats 4000000 in
theorem c_X6_plainShakes_4 (l : Launch) (G : Gd) (x : Int32) (o : Nat) (rw : Nat) (fr : Nat) (kp : Nat) (tr : Nat) (ik : Int32) (tp : Nat) (tm : Nat) (mso : Int32) (bg : Nat) (en : Nat) (wd : Int64) (va : Int32) (gd : Int32) (rs : Nat) (mu : Nat) (rm : Nat) (ss : Nat) (msz : Nat) (msh : Nat) (mho : Nat) (mhn : Nat) (mhz : Nat) (nb : Int32) (tn : Int32) (tc : Nat) (bo : Nat) (tcf : Nat → Int32) (hb : bo + 1 ≤ 30) : Ct l G yX6_plainShakes cX6_plainShakes 2 (some (FieldType.int)) 1 [.ref o, .int x] (wF [wMo o rw fr kp tr ik tp tm mso bg en wd va gd rs mu rm ss msz msh mho mhn mhz 4 nb tn tc bo 0, wI G tc 30 tcf]) (some (.int (x * 5 + nb))) (wF [wMo o rw fr kp tr ik tp tm mso bg en wd va gd rs mu rm ss msz msh mho mhn mhz 4 nb tn tc (bo + 1) 0, wI G tc 30 (pF [10] tcf bo)]) := by
  refine Ct.of "GooseArmsModel" [some (.ref o), some (.int x)] (by decide +kernel) rfl (Nat.le_of_ble_eq_true rfl) rfl ?_
  refine J_aload_n 0 0 dX6_plainShakes_0 rfl rfl ?_
  refine J_bipush (v := 10) 1 dX6_plainShakes_1 rfl ?_
  refine kb_RX6_299 (bs' := [wMo o rw fr kp tr ik tp tm mso bg en wd va gd rs mu rm ss msz msh mho mhn mhz 4 nb tn tc (bo + 1) 0, wI G tc 30 (upd tcf bo 10)]) (rest := []) (st' := []) 3 (c_X6_ran l G 10 o rw fr kp tr ik tp tm mso bg en wd va gd rs mu rm ss msz msh mho mhn mhz 4 nb tn tc bo 0 tcf (by first | omega | assumption)) [0, 1] 0 rfl rfl rfl [[o], [tc]] rfl rfl rfl rfl rfl rfl (Nat.le_of_ble_eq_true rfl) rfl dX6_plainShakes_3 ?_
  refine J_iload_n 6 1 dX6_plainShakes_6 rfl rfl ?_
  refine J_iconst (v := 5) 7 dX6_plainShakes_7 rfl ?_
  refine J_imul 8 dX6_plainShakes_8 ?_
  refine J_aload_n 9 0 dX6_plainShakes_9 rfl rfl ?_
  refine g_812 (v := .int nb) 10 0 rfl rfl dX6_plainShakes_10 ?_
  refine J_iadd 13 dX6_plainShakes_13 ?_
  exact J_iret 14 dX6_plainShakes_14 (congrArg (fun x_ => some (Value.int x_)) (by first | rfl | grind)) (cg1 (fun (x0_ : Nat → Int32) => (wF [wMo o rw fr kp tr ik tp tm mso bg en wd va gd rs mu rm ss msz msh mho mhn mhz 4 nb tn tc (bo + 1) 0, wI G tc 30 x0_])) (upd tcf bo 10) (pF [10] tcf bo) rfl)
set_option maxRecDepth 100000 in
set_option maxHeartbeats 4000000 in
theorem c_X6_advocateShakes_4 (l : Launch) (G : Gd) (x : Int32) (o : Nat) (rw : Nat) (fr : Nat) (kp : Nat) (tr : Nat) (ik : Int32) (tp : Nat) (tm : Nat) (mso : Int32) (bg : Nat) (en : Nat) (wd : Int64) (va : Int32) (gd : Int32) (rs : Nat) (mu : Nat) (rm : Nat) (ss : Nat) (msz : Nat) (msh : Nat) (mho : Nat) (mhn : Nat) (mhz : Nat) (nb : Int32) (tn : Int32) (tc : Nat) (bo : Nat) (tcf : Nat → Int32) (hb : bo + 2 ≤ 30) : Ct l G yX6_advocateShakes cX6_advocateShakes 2 (some (FieldType.int)) 2 [.ref o, .int x] (wF [wMo o rw fr kp tr ik tp tm mso bg en wd va gd rs mu rm ss msz msh mho mhn mhz 4 nb tn tc bo 0, wI G tc 30 tcf]) (some (.int ((x * 5 + nb) - 4))) (wF [wMo o rw fr kp tr ik tp tm mso bg en wd va gd rs mu rm ss msz msh mho mhn mhz 4 nb tn tc (bo + 2) 0, wI G tc 30 (pF [30, 10] tcf bo)]) := by
  refine Ct.of "GooseArmsModel" [some (.ref o), some (.int x)] (by decide +kernel) rfl (Nat.le_of_ble_eq_true rfl) rfl ?_
  refine J_aload_n 0 0 dX6_advocateShakes_0 rfl rfl ?_
  refine J_bipush (v := 30) 1 dX6_advocateShakes_1 rfl ?_
  refine kb_RX6_299 (bs' := [wMo o rw fr kp tr ik tp tm mso bg en wd va gd rs mu rm ss msz msh mho mhn mhz 4 nb tn tc (bo + 1) 0, wI G tc 30 (upd tcf bo 30)]) (rest := []) (st' := []) 3 (c_X6_ran l G 30 o rw fr kp tr ik tp tm mso bg en wd va gd rs mu rm ss msz msh mho mhn mhz 4 nb tn tc bo 0 tcf (by first | omega | assumption)) [0, 1] 0 rfl rfl rfl [[o], [tc]] rfl rfl rfl rfl rfl rfl (Nat.le_of_ble_eq_true rfl) rfl dX6_advocateShakes_3 ?_
  refine J_aload_n 6 0 dX6_advocateShakes_6 rfl rfl ?_
  refine J_iload_n 7 1 dX6_advocateShakes_7 rfl rfl ?_
  refine kb_RX6_305 (bs' := [wMo o rw fr kp tr ik tp tm mso bg en wd va gd rs mu rm ss msz msh mho mhn mhz 4 nb tn tc ((bo + 1) + 1) 0, wI G tc 30 (pF [10] (upd tcf bo 30) (bo + 1))]) (rest := []) (st' := [.int (x * 5 + nb)]) 8 (c_X6_plainShakes_4 l G x o rw fr kp tr ik tp tm mso bg en wd va gd rs mu rm ss msz msh mho mhn mhz nb tn tc (bo + 1) (upd tcf bo 30) (by first | omega | assumption)) [0, 1] 0 rfl rfl rfl [[o], [tc]] rfl rfl rfl rfl rfl rfl (Nat.le_of_ble_eq_true rfl) rfl dX6_advocateShakes_8 ?_
  refine J_iconst (v := 4) 11 dX6_advocateShakes_11 rfl ?_
  refine J_isub 12 dX6_advocateShakes_12 ?_
  exact J_iret 13 dX6_advocateShakes_13 rfl (cg2 (fun (x0_ : Nat) (x1_ : Nat → Int32) => (wF [wMo o rw fr kp tr ik tp tm mso bg en wd va gd rs mu rm ss msz msh mho mhn mhz 4 nb tn tc x0_ 0, wI G tc 30 x1_])) ((bo + 1) + 1) (bo + 2) (pF [10] (upd tcf bo 30) (bo + 1)) (pF [30, 10] tcf bo) rfl rfl)
set_option maxRecDepth 100000 in
set_option maxHeartbeats 4000000 in
theorem c_X6_shakesIt_4 (l : Launch) (G : Gd) (x : Int32) (o : Nat) (rw : Nat) (fr : Nat) (kp : Nat) (tr : Nat) (ik : Int32) (tp : Nat) (tm : Nat) (mso : Int32) (bg : Nat) (en : Nat) (wd : Int64) (va : Int32) (gd : Int32) (rs : Nat) (mu : Nat) (rm : Nat) (ss : Nat) (msz : Nat) (msh : Nat) (mho : Nat) (mhn : Nat) (mhz : Nat) (nb : Int32) (tn : Int32) (tc : Nat) (bo : Nat) (tcf : Nat → Int32) (hb : bo + 3 ≤ 30) : Ct l G yX6_shakesIt cX6_shakesIt 2 (some (FieldType.int)) 3 [.ref o, .int x] (wF [wMo o rw fr kp tr ik tp tm mso bg en wd va gd rs mu rm ss msz msh mho mhn mhz 4 nb tn tc bo 0, wI G tc 30 tcf]) (some (.int (0 - ((x * 5 + nb) - 4)))) (wF [wMo o rw fr kp tr ik tp tm mso bg en wd va gd rs mu rm ss msz msh mho mhn mhz 4 nb tn tc (bo + 3) 0, wI G tc 30 (pF [40, 30, 10] tcf bo)]) := by
  refine Ct.of "GooseArmsModel" [some (.ref o), some (.int x)] (by decide +kernel) rfl (Nat.le_of_ble_eq_true rfl) rfl ?_
  refine J_aload_n 0 0 dX6_shakesIt_0 rfl rfl ?_
  refine g_811 (v := .int 4) 1 0 rfl rfl dX6_shakesIt_1 ?_
  refine J_tableIn (tgt := 38) (off := 34) 4 4 dX6_shakesIt_4 rfl (by decide +kernel) (by decide) ?_
  refine J_aload_n 38 0 dX6_shakesIt_38 rfl rfl ?_
  refine J_bipush (v := 40) 39 dX6_shakesIt_39 rfl ?_
  refine kb_RX6_299 (bs' := [wMo o rw fr kp tr ik tp tm mso bg en wd va gd rs mu rm ss msz msh mho mhn mhz 4 nb tn tc (bo + 1) 0, wI G tc 30 (upd tcf bo 40)]) (rest := []) (st' := []) 41 (c_X6_ran l G 40 o rw fr kp tr ik tp tm mso bg en wd va gd rs mu rm ss msz msh mho mhn mhz 4 nb tn tc bo 0 tcf (by first | omega | assumption)) [0, 1] 0 rfl rfl rfl [[o], [tc]] rfl rfl rfl rfl rfl rfl (Nat.le_of_ble_eq_true rfl) rfl dX6_shakesIt_41 ?_
  refine J_aload_n 44 0 dX6_shakesIt_44 rfl rfl ?_
  refine J_iload_n 45 1 dX6_shakesIt_45 rfl rfl ?_
  refine kb_RX6_311 (bs' := [wMo o rw fr kp tr ik tp tm mso bg en wd va gd rs mu rm ss msz msh mho mhn mhz 4 nb tn tc ((bo + 1) + 2) 0, wI G tc 30 (pF [30, 10] (upd tcf bo 40) (bo + 1))]) (rest := []) (st' := [.int ((x * 5 + nb) - 4)]) 46 (c_X6_advocateShakes_4 l G x o rw fr kp tr ik tp tm mso bg en wd va gd rs mu rm ss msz msh mho mhn mhz nb tn tc (bo + 1) (upd tcf bo 40) (by first | omega | assumption)) [0, 1] 0 rfl rfl rfl [[o], [tc]] rfl rfl rfl rfl rfl rfl (Nat.le_of_ble_eq_true rfl) rfl dX6_shakesIt_46 ?_
  refine J_ineg 49 dX6_shakesIt_49 ?_
  exact J_iret 50 dX6_shakesIt_50 (congrArg (fun x_ => some (Value.int x_)) (by first | rfl | grind)) (cg2 (fun (x0_ : Nat) (x1_ : Nat → Int32) => (wF [wMo o rw fr kp tr ik tp tm mso bg en wd va gd rs mu rm ss msz msh mho mhn mhz 4 nb tn tc x0_ 0, wI G tc 30 x1_])) ((bo + 1) + 2) (bo + 3) (pF [30, 10] (upd tcf bo 40) (bo + 1)) (pF [40, 30, 10] tcf bo) rfl rfl)
set_option maxRecDepth 100000 in
set_option maxHeartbeats 4000000 in
theorem c_X6_plainReads_4 (l : Launch) (G : Gd) (x : Int32) (o : Nat) (rw : Nat) (fr : Nat) (kp : Nat) (tr : Nat) (ik : Int32) (tp : Nat) (tm : Nat) (mso : Int32) (bg : Nat) (en : Nat) (wd : Int64) (va : Int32) (gd : Int32) (rs : Nat) (mu : Nat) (rm : Nat) (ss : Nat) (msz : Nat) (msh : Nat) (mho : Nat) (mhn : Nat) (mhz : Nat) (nb : Int32) (tn : Int32) (tc : Nat) (bo : Nat) (tcf : Nat → Int32) (hb : bo + 4 ≤ 30) : Ct l G yX6_plainReads cX6_plainReads 2 (some (FieldType.int)) 4 [.ref o, .int x] (wF [wMo o rw fr kp tr ik tp tm mso bg en wd va gd rs mu rm ss msz msh mho mhn mhz 4 nb tn tc bo 0, wI G tc 30 tcf]) (some (.int ((0 - ((x * 5 + nb) - 4)) - tn))) (wF [wMo o rw fr kp tr ik tp tm mso bg en wd va gd rs mu rm ss msz msh mho mhn mhz 4 nb tn tc (bo + 4) 0, wI G tc 30 (pF [11, 40, 30, 10] tcf bo)]) := by
  refine Ct.of "GooseArmsModel" [some (.ref o), some (.int x)] (by decide +kernel) rfl (Nat.le_of_ble_eq_true rfl) rfl ?_
  refine J_aload_n 0 0 dX6_plainReads_0 rfl rfl ?_
  refine J_bipush (v := 11) 1 dX6_plainReads_1 rfl ?_
  refine kb_RX6_299 (bs' := [wMo o rw fr kp tr ik tp tm mso bg en wd va gd rs mu rm ss msz msh mho mhn mhz 4 nb tn tc (bo + 1) 0, wI G tc 30 (upd tcf bo 11)]) (rest := []) (st' := []) 3 (c_X6_ran l G 11 o rw fr kp tr ik tp tm mso bg en wd va gd rs mu rm ss msz msh mho mhn mhz 4 nb tn tc bo 0 tcf (by first | omega | assumption)) [0, 1] 0 rfl rfl rfl [[o], [tc]] rfl rfl rfl rfl rfl rfl (Nat.le_of_ble_eq_true rfl) rfl dX6_plainReads_3 ?_
  refine J_aload_n 6 0 dX6_plainReads_6 rfl rfl ?_
  refine J_iload_n 7 1 dX6_plainReads_7 rfl rfl ?_
  refine kb_RX6_317 (bs' := [wMo o rw fr kp tr ik tp tm mso bg en wd va gd rs mu rm ss msz msh mho mhn mhz 4 nb tn tc ((bo + 1) + 3) 0, wI G tc 30 (pF [40, 30, 10] (upd tcf bo 11) (bo + 1))]) (rest := []) (st' := [.int (0 - ((x * 5 + nb) - 4))]) 8 (c_X6_shakesIt_4 l G x o rw fr kp tr ik tp tm mso bg en wd va gd rs mu rm ss msz msh mho mhn mhz nb tn tc (bo + 1) (upd tcf bo 11) (by first | omega | assumption)) [0, 1] 0 rfl rfl rfl [[o], [tc]] rfl rfl rfl rfl rfl rfl (Nat.le_of_ble_eq_true rfl) rfl dX6_plainReads_8 ?_
  refine J_aload_n 11 0 dX6_plainReads_11 rfl rfl ?_
  refine g_813 (v := .int tn) 12 0 rfl rfl dX6_plainReads_12 ?_
  refine J_isub 15 dX6_plainReads_15 ?_
  exact J_iret 16 dX6_plainReads_16 rfl (cg2 (fun (x0_ : Nat) (x1_ : Nat → Int32) => (wF [wMo o rw fr kp tr ik tp tm mso bg en wd va gd rs mu rm ss msz msh mho mhn mhz 4 nb tn tc x0_ 0, wI G tc 30 x1_])) ((bo + 1) + 3) (bo + 4) (pF [40, 30, 10] (upd tcf bo 11) (bo + 1)) (pF [11, 40, 30, 10] tcf bo) rfl rfl)
set_option maxRecDepth 100000 in
set_option maxHeartbeats 4000000 in
theorem c_X6_readsIt_4 (l : Launch) (G : Gd) (x : Int32) (o : Nat) (rw : Nat) (fr : Nat) (kp : Nat) (tr : Nat) (ik : Int32) (tp : Nat) (tm : Nat) (mso : Int32) (bg : Nat) (en : Nat) (wd : Int64) (va : Int32) (gd : Int32) (rs : Nat) (mu : Nat) (rm : Nat) (ss : Nat) (msz : Nat) (msh : Nat) (mho : Nat) (mhn : Nat) (mhz : Nat) (nb : Int32) (tn : Int32) (tc : Nat) (bo : Nat) (tcf : Nat → Int32) (hb : bo + 8 ≤ 30) : Ct l G yX6_readsIt cX6_readsIt 3 (some (FieldType.int)) 5 [.ref o, .int x] (wF [wMo o rw fr kp tr ik tp tm mso bg en wd va gd rs mu rm ss msz msh mho mhn mhz 4 nb tn tc bo 0, wI G tc 30 tcf]) (some (.int (((0 - ((x * 5 + nb) - 4)) - tn) ^^^ (0 - ((tn * 5 + nb) - 4))))) (wF [wMo o rw fr kp tr ik tp tm mso bg en wd va gd rs mu rm ss msz msh mho mhn mhz 4 nb tn tc (bo + 8) 0, wI G tc 30 (pF [41, 11, 40, 30, 10, 40, 30, 10] tcf bo)]) := by
  refine Ct.of "GooseArmsModel" [some (.ref o), some (.int x), none] (by decide +kernel) rfl (Nat.le_of_ble_eq_true rfl) rfl ?_
  refine J_aload_n 0 0 dX6_readsIt_0 rfl rfl ?_
  refine g_811 (v := .int 4) 1 0 rfl rfl dX6_readsIt_1 ?_
  refine J_iconst (v := 1) 4 dX6_readsIt_4 rfl ?_
  refine J_icmp_eq (tgt := 16) 5 dX6_readsIt_5 (by decide) (fun c_1_ => absurd c_1_ (by decide)) (fun _ => ?_)
  refine J_aload_n 8 0 dX6_readsIt_8 rfl rfl ?_
  refine g_811 (v := .int 4) 9 0 rfl rfl dX6_readsIt_9 ?_
  refine J_iconst (v := 3) 12 dX6_readsIt_12 rfl ?_
  refine J_icmp_ne (tgt := 30) 13 dX6_readsIt_13 (by decide) (fun _ => ?_) (fun c_2_ => absurd c_2_ (by decide))
  refine J_aload_n 30 0 dX6_readsIt_30 rfl rfl ?_
  refine g_811 (v := .int 4) 31 0 rfl rfl dX6_readsIt_31 ?_
  refine J_iconst (v := 4) 34 dX6_readsIt_34 rfl ?_
  refine J_icmp_ne (tgt := 61) 35 dX6_readsIt_35 (by decide) (fun c_3_ => absurd c_3_ (by decide)) (fun _ => ?_)
  refine J_aload_n 38 0 dX6_readsIt_38 rfl rfl ?_
  refine J_bipush (v := 41) 39 dX6_readsIt_39 rfl ?_
  refine kb_RX6_299 (bs' := [wMo o rw fr kp tr ik tp tm mso bg en wd va gd rs mu rm ss msz msh mho mhn mhz 4 nb tn tc (bo + 1) 0, wI G tc 30 (upd tcf bo 41)]) (rest := []) (st' := []) 41 (c_X6_ran l G 41 o rw fr kp tr ik tp tm mso bg en wd va gd rs mu rm ss msz msh mho mhn mhz 4 nb tn tc bo 0 tcf (by first | omega | assumption)) [0, 1] 0 rfl rfl rfl [[o], [tc]] rfl rfl rfl rfl rfl rfl (Nat.le_of_ble_eq_true rfl) rfl dX6_readsIt_41 ?_
  refine J_aload_n 44 0 dX6_readsIt_44 rfl rfl ?_
  refine J_iload_n 45 1 dX6_readsIt_45 rfl rfl ?_
  refine kb_RX6_320 (bs' := [wMo o rw fr kp tr ik tp tm mso bg en wd va gd rs mu rm ss msz msh mho mhn mhz 4 nb tn tc ((bo + 1) + 4) 0, wI G tc 30 (pF [11, 40, 30, 10] (upd tcf bo 41) (bo + 1))]) (rest := []) (st' := [.int ((0 - ((x * 5 + nb) - 4)) - tn)]) 46 (c_X6_plainReads_4 l G x o rw fr kp tr ik tp tm mso bg en wd va gd rs mu rm ss msz msh mho mhn mhz nb tn tc (bo + 1) (upd tcf bo 41) (by first | omega | assumption)) [0, 1] 0 rfl rfl rfl [[o], [tc]] rfl rfl rfl rfl rfl rfl (Nat.le_of_ble_eq_true rfl) rfl dX6_readsIt_46 ?_
  refine J_istore_n (lv' := [some (.ref o), some (.int x), some (.int ((0 - ((x * 5 + nb) - 4)) - tn))]) 49 2 dX6_readsIt_49 rfl (by decide) rfl ?_
  refine J_iload_n 50 2 dX6_readsIt_50 rfl rfl ?_
  refine J_aload_n 51 0 dX6_readsIt_51 rfl rfl ?_
  refine J_aload_n 52 0 dX6_readsIt_52 rfl rfl ?_
  refine g_813 (v := .int tn) 53 0 rfl rfl dX6_readsIt_53 ?_
  refine kb_RX6_317 (bs' := [wMo o rw fr kp tr ik tp tm mso bg en wd va gd rs mu rm ss msz msh mho mhn mhz 4 nb tn tc (((bo + 1) + 4) + 3) 0, wI G tc 30 (pF [40, 30, 10] (pF [11, 40, 30, 10] (upd tcf bo 41) (bo + 1)) ((bo + 1) + 4))]) (rest := [.int ((0 - ((x * 5 + nb) - 4)) - tn)]) (st' := [.int (0 - ((tn * 5 + nb) - 4)), .int ((0 - ((x * 5 + nb) - 4)) - tn)]) 56 (c_X6_shakesIt_4 l G tn o rw fr kp tr ik tp tm mso bg en wd va gd rs mu rm ss msz msh mho mhn mhz nb tn tc ((bo + 1) + 4) (pF [11, 40, 30, 10] (upd tcf bo 41) (bo + 1)) (by first | omega | assumption)) [0, 1] 0 rfl rfl rfl [[o], [tc]] rfl rfl rfl rfl rfl rfl (Nat.le_of_ble_eq_true rfl) rfl dX6_readsIt_56 ?_
  refine J_ixor 59 dX6_readsIt_59 ?_
  exact J_iret 60 dX6_readsIt_60 rfl (cg2 (fun (x0_ : Nat) (x1_ : Nat → Int32) => (wF [wMo o rw fr kp tr ik tp tm mso bg en wd va gd rs mu rm ss msz msh mho mhn mhz 4 nb tn tc x0_ 0, wI G tc 30 x1_])) (((bo + 1) + 4) + 3) (bo + 8) (pF [40, 30, 10] (pF [11, 40, 30, 10] (upd tcf bo 41) (bo + 1)) ((bo + 1) + 4)) (pF [41, 11, 40, 30, 10, 40, 30, 10] tcf bo) rfl rfl)
set_option maxRecDepth 100000 in
set_option maxHeartbeats 4000000 in
theorem c_X6_plainParts_4 (l : Launch) (G : Gd) (x : Int32) (o : Nat) (rw : Nat) (fr : Nat) (kp : Nat) (tr : Nat) (ik : Int32) (tp : Nat) (tm : Nat) (mso : Int32) (bg : Nat) (en : Nat) (wd : Int64) (va : Int32) (gd : Int32) (rs : Nat) (mu : Nat) (rm : Nat) (ss : Nat) (msz : Nat) (msh : Nat) (mho : Nat) (mhn : Nat) (mhz : Nat) (nb : Int32) (tn : Int32) (tc : Nat) (bo : Nat) (tcf : Nat → Int32) (hb : bo + 1 ≤ 30) (hz : ¬ tn = nb) : Ct l G yX6_plainParts cX6_plainParts 2 (some (FieldType.int)) 1 [.ref o, .int x] (wF [wMo o rw fr kp tr ik tp tm mso bg en wd va gd rs mu rm ss msz msh mho mhn mhz 4 nb tn tc bo 0, wI G tc 30 tcf]) (some (.int (x / (tn - nb)))) (wF [wMo o rw fr kp tr ik tp tm mso bg en wd va gd rs mu rm ss msz msh mho mhn mhz 4 nb tn tc (bo + 1) 0, wI G tc 30 (pF [12] tcf bo)]) := by
  refine Ct.of "GooseArmsModel" [some (.ref o), some (.int x)] (by decide +kernel) rfl (Nat.le_of_ble_eq_true rfl) rfl ?_
  refine J_aload_n 0 0 dX6_plainParts_0 rfl rfl ?_
  refine J_bipush (v := 12) 1 dX6_plainParts_1 rfl ?_
  refine kb_RX6_299 (bs' := [wMo o rw fr kp tr ik tp tm mso bg en wd va gd rs mu rm ss msz msh mho mhn mhz 4 nb tn tc (bo + 1) 0, wI G tc 30 (upd tcf bo 12)]) (rest := []) (st' := []) 3 (c_X6_ran l G 12 o rw fr kp tr ik tp tm mso bg en wd va gd rs mu rm ss msz msh mho mhn mhz 4 nb tn tc bo 0 tcf (by first | omega | assumption)) [0, 1] 0 rfl rfl rfl [[o], [tc]] rfl rfl rfl rfl rfl rfl (Nat.le_of_ble_eq_true rfl) rfl dX6_plainParts_3 ?_
  refine J_aload_n 6 0 dX6_plainParts_6 rfl rfl ?_
  refine g_813 (v := .int tn) 7 0 rfl rfl dX6_plainParts_7 ?_
  refine J_aload_n 10 0 dX6_plainParts_10 rfl rfl ?_
  refine g_812 (v := .int nb) 11 0 rfl rfl dX6_plainParts_11 ?_
  refine J_icmp_ne (tgt := 24) 14 dX6_plainParts_14 (by decide) (fun c_1_ => ?_) (fun c_1_ => ?_)
  · skip
    refine J_iload_n 24 1 dX6_plainParts_24 rfl rfl ?_
    refine J_aload_n 25 0 dX6_plainParts_25 rfl rfl ?_
    refine g_813 (v := .int tn) 26 0 rfl rfl dX6_plainParts_26 ?_
    refine J_aload_n 29 0 dX6_plainParts_29 rfl rfl ?_
    refine g_812 (v := .int nb) 30 0 rfl rfl dX6_plainParts_30 ?_
    refine J_isub 33 dX6_plainParts_33 ?_
    refine J_idiv 34 dX6_plainParts_34 (sub_ne0 hz) ?_
    exact J_iret 35 dX6_plainParts_35 rfl (cg1 (fun (x0_ : Nat → Int32) => (wF [wMo o rw fr kp tr ik tp tm mso bg en wd va gd rs mu rm ss msz msh mho mhn mhz 4 nb tn tc (bo + 1) 0, wI G tc 30 x0_])) (upd tcf bo 12) (pF [12] tcf bo) rfl)
  · skip
    exact absurd c_1_ hz
set_option maxRecDepth 100000 in
set_option maxHeartbeats 4000000 in
theorem c_X6_plainParts_4z (l : Launch) (G : Gd) (x : Int32) (o : Nat) (rw : Nat) (fr : Nat) (kp : Nat) (tr : Nat) (ik : Int32) (tp : Nat) (tm : Nat) (mso : Int32) (bg : Nat) (en : Nat) (wd : Int64) (va : Int32) (gd : Int32) (rs : Nat) (mu : Nat) (rm : Nat) (ss : Nat) (msz : Nat) (msh : Nat) (mho : Nat) (mhn : Nat) (mhz : Nat) (nb : Int32) (tn : Int32) (tc : Nat) (bo : Nat) (tcf : Nat → Int32) (hb : bo + 1 ≤ 30) (hz : tn = nb) : Ct l G yX6_plainParts cX6_plainParts 2 (some (FieldType.int)) 1 [.ref o, .int x] (wF [wMo o rw fr kp tr ik tp tm mso bg en wd va gd rs mu rm ss msz msh mho mhn mhz 4 nb tn tc bo 0, wI G tc 30 tcf]) (some (.int 0)) (wF [wMo o rw fr kp tr ik tp tm mso bg en wd va gd rs mu rm ss msz msh mho mhn mhz 4 nb tn tc (bo + 1) 1, wI G tc 30 (pF [12] tcf bo)]) := by
  refine Ct.of "GooseArmsModel" [some (.ref o), some (.int x)] (by decide +kernel) rfl (Nat.le_of_ble_eq_true rfl) rfl ?_
  refine J_aload_n 0 0 dX6_plainParts_0 rfl rfl ?_
  refine J_bipush (v := 12) 1 dX6_plainParts_1 rfl ?_
  refine kb_RX6_299 (bs' := [wMo o rw fr kp tr ik tp tm mso bg en wd va gd rs mu rm ss msz msh mho mhn mhz 4 nb tn tc (bo + 1) 0, wI G tc 30 (upd tcf bo 12)]) (rest := []) (st' := []) 3 (c_X6_ran l G 12 o rw fr kp tr ik tp tm mso bg en wd va gd rs mu rm ss msz msh mho mhn mhz 4 nb tn tc bo 0 tcf (by first | omega | assumption)) [0, 1] 0 rfl rfl rfl [[o], [tc]] rfl rfl rfl rfl rfl rfl (Nat.le_of_ble_eq_true rfl) rfl dX6_plainParts_3 ?_
  refine J_aload_n 6 0 dX6_plainParts_6 rfl rfl ?_
  refine g_813 (v := .int tn) 7 0 rfl rfl dX6_plainParts_7 ?_
  refine J_aload_n 10 0 dX6_plainParts_10 rfl rfl ?_
  refine g_812 (v := .int nb) 11 0 rfl rfl dX6_plainParts_11 ?_
  refine J_icmp_ne (tgt := 24) 14 dX6_plainParts_14 (by decide) (fun c_1_ => ?_) (fun c_1_ => ?_)
  · skip
    exact absurd hz c_1_
  · skip
    refine J_aload_n 17 0 dX6_plainParts_17 rfl rfl ?_
    refine J_iconst (v := 1) 18 dX6_plainParts_18 rfl ?_
    refine p_816 (ws' := (wF [wMo o rw fr kp tr ik tp tm mso bg en wd va gd rs mu rm ss msz msh mho mhn mhz 4 nb tn tc (bo + 1) 1, wI G tc 30 (upd tcf bo 12)])) 19 0 rfl rfl rfl (Nat.le_of_ble_eq_true rfl) rfl dX6_plainParts_19 ?_
    refine J_iconst (v := 0) 22 dX6_plainParts_22 rfl ?_
    exact J_iret 23 dX6_plainParts_23 rfl (cg1 (fun (x0_ : Nat → Int32) => (wF [wMo o rw fr kp tr ik tp tm mso bg en wd va gd rs mu rm ss msz msh mho mhn mhz 4 nb tn tc (bo + 1) 1, wI G tc 30 x0_])) (upd tcf bo 12) (pF [12] tcf bo) rfl)
set_option maxRecDepth 100000 in
set_option maxHeartbeats 4000000 in
theorem c_X6_partsIt_4 (l : Launch) (G : Gd) (x : Int32) (o : Nat) (rw : Nat) (fr : Nat) (kp : Nat) (tr : Nat) (ik : Int32) (tp : Nat) (tm : Nat) (mso : Int32) (bg : Nat) (en : Nat) (wd : Int64) (va : Int32) (gd : Int32) (rs : Nat) (mu : Nat) (rm : Nat) (ss : Nat) (msz : Nat) (msh : Nat) (mho : Nat) (mhn : Nat) (mhz : Nat) (nb : Int32) (tn : Int32) (tc : Nat) (bo : Nat) (tcf : Nat → Int32) (hb : bo + 1 ≤ 30) (hz : ¬ tn = nb) : Ct l G yX6_partsIt cX6_partsIt 3 (some (FieldType.int)) 4 [.ref o, .int x] (wF [wMo o rw fr kp tr ik tp tm mso bg en wd va gd rs mu rm ss msz msh mho mhn mhz 4 nb tn tc bo 0, wI G tc 30 tcf]) (some (.int (x / (tn - nb)))) (wF [wMo o rw fr kp tr ik tp tm mso bg en wd va gd rs mu rm ss msz msh mho mhn mhz 4 nb tn tc (bo + 1) 0, wI G tc 30 (pF [12] tcf bo)]) := by
  refine Ct.of "GooseArmsModel" [some (.ref o), some (.int x), none] (by decide +kernel) rfl (Nat.le_of_ble_eq_true rfl) rfl ?_
  refine J_aload_n 0 0 dX6_partsIt_0 rfl rfl ?_
  refine g_811 (v := .int 4) 1 0 rfl rfl dX6_partsIt_1 ?_
  refine J_iconst (v := 3) 4 dX6_partsIt_4 rfl ?_
  refine J_icmp_ne (tgt := 24) 5 dX6_partsIt_5 (by decide) (fun _ => ?_) (fun c_1_ => absurd c_1_ (by decide))
  refine J_aload_n 24 0 dX6_partsIt_24 rfl rfl ?_
  refine g_811 (v := .int 4) 25 0 rfl rfl dX6_partsIt_25 ?_
  refine J_iconst (v := 5) 28 dX6_partsIt_28 rfl ?_
  refine J_icmp_ne (tgt := 66) 29 dX6_partsIt_29 (by decide) (fun _ => ?_) (fun c_2_ => absurd c_2_ (by decide))
  refine J_aload_n 66 0 dX6_partsIt_66 rfl rfl ?_
  refine J_iload_n 67 1 dX6_partsIt_67 rfl rfl ?_
  refine kb_RX6_326 (bs' := [wMo o rw fr kp tr ik tp tm mso bg en wd va gd rs mu rm ss msz msh mho mhn mhz 4 nb tn tc (bo + 1) 0, wI G tc 30 (pF [12] tcf bo)]) (rest := []) (st' := [.int (x / (tn - nb))]) 68 (c_X6_plainParts_4 l G x o rw fr kp tr ik tp tm mso bg en wd va gd rs mu rm ss msz msh mho mhn mhz nb tn tc bo tcf (by first | omega | assumption) (by first | omega | assumption)) [0, 1] 0 rfl rfl rfl [[o], [tc]] rfl rfl rfl rfl rfl rfl (Nat.le_of_ble_eq_true rfl) rfl dX6_partsIt_68 ?_
  exact J_iret 71 dX6_partsIt_71 rfl rfl
set_option maxRecDepth 100000 in
set_option maxHeartbeats 4000000 in
theorem c_X6_partsIt_4z (l : Launch) (G : Gd) (x : Int32) (o : Nat) (rw : Nat) (fr : Nat) (kp : Nat) (tr : Nat) (ik : Int32) (tp : Nat) (tm : Nat) (mso : Int32) (bg : Nat) (en : Nat) (wd : Int64) (va : Int32) (gd : Int32) (rs : Nat) (mu : Nat) (rm : Nat) (ss : Nat) (msz : Nat) (msh : Nat) (mho : Nat) (mhn : Nat) (mhz : Nat) (nb : Int32) (tn : Int32) (tc : Nat) (bo : Nat) (tcf : Nat → Int32) (hb : bo + 1 ≤ 30) (hz : tn = nb) : Ct l G yX6_partsIt cX6_partsIt 3 (some (FieldType.int)) 4 [.ref o, .int x] (wF [wMo o rw fr kp tr ik tp tm mso bg en wd va gd rs mu rm ss msz msh mho mhn mhz 4 nb tn tc bo 0, wI G tc 30 tcf]) (some (.int 0)) (wF [wMo o rw fr kp tr ik tp tm mso bg en wd va gd rs mu rm ss msz msh mho mhn mhz 4 nb tn tc (bo + 1) 1, wI G tc 30 (pF [12] tcf bo)]) := by
  refine Ct.of "GooseArmsModel" [some (.ref o), some (.int x), none] (by decide +kernel) rfl (Nat.le_of_ble_eq_true rfl) rfl ?_
  refine J_aload_n 0 0 dX6_partsIt_0 rfl rfl ?_
  refine g_811 (v := .int 4) 1 0 rfl rfl dX6_partsIt_1 ?_
  refine J_iconst (v := 3) 4 dX6_partsIt_4 rfl ?_
  refine J_icmp_ne (tgt := 24) 5 dX6_partsIt_5 (by decide) (fun _ => ?_) (fun c_1_ => absurd c_1_ (by decide))
  refine J_aload_n 24 0 dX6_partsIt_24 rfl rfl ?_
  refine g_811 (v := .int 4) 25 0 rfl rfl dX6_partsIt_25 ?_
  refine J_iconst (v := 5) 28 dX6_partsIt_28 rfl ?_
  refine J_icmp_ne (tgt := 66) 29 dX6_partsIt_29 (by decide) (fun _ => ?_) (fun c_2_ => absurd c_2_ (by decide))
  refine J_aload_n 66 0 dX6_partsIt_66 rfl rfl ?_
  refine J_iload_n 67 1 dX6_partsIt_67 rfl rfl ?_
  refine kb_RX6_326 (bs' := [wMo o rw fr kp tr ik tp tm mso bg en wd va gd rs mu rm ss msz msh mho mhn mhz 4 nb tn tc (bo + 1) 1, wI G tc 30 (pF [12] tcf bo)]) (rest := []) (st' := [.int 0]) 68 (c_X6_plainParts_4z l G x o rw fr kp tr ik tp tm mso bg en wd va gd rs mu rm ss msz msh mho mhn mhz nb tn tc bo tcf (by first | omega | assumption) (by first | omega | assumption)) [0, 1] 0 rfl rfl rfl [[o], [tc]] rfl rfl rfl rfl rfl rfl (Nat.le_of_ble_eq_true rfl) rfl dX6_partsIt_68 ?_
  exact J_iret 71 dX6_partsIt_71 rfl rfl
set_option maxRecDepth 100000 in
set_option maxHeartbeats 4000000 in
theorem c_X6_plainSwears_4 (l : Launch) (G : Gd) (x : Int32) (o : Nat) (rw : Nat) (fr : Nat) (kp : Nat) (tr : Nat) (ik : Int32) (tp : Nat) (tm : Nat) (mso : Int32) (bg : Nat) (en : Nat) (wd : Int64) (va : Int32) (gd : Int32) (rs : Nat) (mu : Nat) (rm : Nat) (ss : Nat) (msz : Nat) (msh : Nat) (mho : Nat) (mhn : Nat) (mhz : Nat) (nb : Int32) (tn : Int32) (tc : Nat) (bo : Nat) (tcf : Nat → Int32) (hb : bo + 9 ≤ 30) : Ct l G yX6_plainSwears cX6_plainSwears 2 (some (FieldType.int)) 6 [.ref o, .int x] (wF [wMo o rw fr kp tr ik tp tm mso bg en wd va gd rs mu rm ss msz msh mho mhn mhz 4 nb tn tc bo 0, wI G tc 30 tcf]) (some (.int ((((0 - ((x * 5 + nb) - 4)) - tn) ^^^ (0 - ((tn * 5 + nb) - 4))) ^^^ 150))) (wF [wMo o rw fr kp tr ik tp tm mso bg en wd va gd rs mu rm ss msz msh mho mhn mhz 4 nb tn tc (bo + 9) 0, wI G tc 30 (pF [13, 41, 11, 40, 30, 10, 40, 30, 10] tcf bo)]) := by
  refine Ct.of "GooseArmsModel" [some (.ref o), some (.int x)] (by decide +kernel) rfl (Nat.le_of_ble_eq_true rfl) rfl ?_
  refine J_aload_n 0 0 dX6_plainSwears_0 rfl rfl ?_
  refine J_bipush (v := 13) 1 dX6_plainSwears_1 rfl ?_
  refine kb_RX6_299 (bs' := [wMo o rw fr kp tr ik tp tm mso bg en wd va gd rs mu rm ss msz msh mho mhn mhz 4 nb tn tc (bo + 1) 0, wI G tc 30 (upd tcf bo 13)]) (rest := []) (st' := []) 3 (c_X6_ran l G 13 o rw fr kp tr ik tp tm mso bg en wd va gd rs mu rm ss msz msh mho mhn mhz 4 nb tn tc bo 0 tcf (by first | omega | assumption)) [0, 1] 0 rfl rfl rfl [[o], [tc]] rfl rfl rfl rfl rfl rfl (Nat.le_of_ble_eq_true rfl) rfl dX6_plainSwears_3 ?_
  refine J_aload_n 6 0 dX6_plainSwears_6 rfl rfl ?_
  refine J_iload_n 7 1 dX6_plainSwears_7 rfl rfl ?_
  refine kb_RX6_329 (bs' := [wMo o rw fr kp tr ik tp tm mso bg en wd va gd rs mu rm ss msz msh mho mhn mhz 4 nb tn tc ((bo + 1) + 8) 0, wI G tc 30 (pF [41, 11, 40, 30, 10, 40, 30, 10] (upd tcf bo 13) (bo + 1))]) (rest := []) (st' := [.int (((0 - ((x * 5 + nb) - 4)) - tn) ^^^ (0 - ((tn * 5 + nb) - 4)))]) 8 (c_X6_readsIt_4 l G x o rw fr kp tr ik tp tm mso bg en wd va gd rs mu rm ss msz msh mho mhn mhz nb tn tc (bo + 1) (upd tcf bo 13) (by first | omega | assumption)) [0, 1] 0 rfl rfl rfl [[o], [tc]] rfl rfl rfl rfl rfl rfl (Nat.le_of_ble_eq_true rfl) rfl dX6_plainSwears_8 ?_
  refine J_sipush (v := 150) 11 dX6_plainSwears_11 rfl ?_
  refine J_ixor 14 dX6_plainSwears_14 ?_
  exact J_iret 15 dX6_plainSwears_15 rfl (cg2 (fun (x0_ : Nat) (x1_ : Nat → Int32) => (wF [wMo o rw fr kp tr ik tp tm mso bg en wd va gd rs mu rm ss msz msh mho mhn mhz 4 nb tn tc x0_ 0, wI G tc 30 x1_])) ((bo + 1) + 8) (bo + 9) (pF [41, 11, 40, 30, 10, 40, 30, 10] (upd tcf bo 13) (bo + 1)) (pF [13, 41, 11, 40, 30, 10, 40, 30, 10] tcf bo) rfl rfl)
set_option maxRecDepth 100000 in
set_option maxHeartbeats 4000000 in
theorem c_X6_swearsIt_4 (l : Launch) (G : Gd) (x : Int32) (o : Nat) (rw : Nat) (fr : Nat) (kp : Nat) (tr : Nat) (ik : Int32) (tp : Nat) (tm : Nat) (mso : Int32) (bg : Nat) (en : Nat) (wd : Int64) (va : Int32) (gd : Int32) (rs : Nat) (mu : Nat) (rm : Nat) (ss : Nat) (msz : Nat) (msh : Nat) (mho : Nat) (mhn : Nat) (mhz : Nat) (nb : Int32) (tn : Int32) (tc : Nat) (bo : Nat) (tcf : Nat → Int32) (hb : bo + 11 ≤ 30) (hz : ¬ tn = nb) : Ct l G yX6_swearsIt cX6_swearsIt 3 (some (FieldType.int)) 7 [.ref o, .int x] (wF [wMo o rw fr kp tr ik tp tm mso bg en wd va gd rs mu rm ss msz msh mho mhn mhz 4 nb tn tc bo 0, wI G tc 30 tcf]) (some (.int (((((0 - ((x * 5 + nb) - 4)) - tn) ^^^ (0 - ((tn * 5 + nb) - 4))) ^^^ 150) + (nb / (tn - nb))))) (wF [wMo o rw fr kp tr ik tp tm mso bg en wd va gd rs mu rm ss msz msh mho mhn mhz 4 nb tn tc (bo + 11) 0, wI G tc 30 (pF [31, 13, 41, 11, 40, 30, 10, 40, 30, 10, 12] tcf bo)]) := by
  refine Ct.of "GooseArmsModel" [some (.ref o), some (.int x), none] (by decide +kernel) rfl (Nat.le_of_ble_eq_true rfl) rfl ?_
  refine J_aload_n 0 0 dX6_swearsIt_0 rfl rfl ?_
  refine g_811 (v := .int 4) 1 0 rfl rfl dX6_swearsIt_1 ?_
  refine J_iconst (v := 2) 4 dX6_swearsIt_4 rfl ?_
  refine J_icmp_eq (tgt := 16) 5 dX6_swearsIt_5 (by decide) (fun c_1_ => absurd c_1_ (by decide)) (fun _ => ?_)
  refine J_aload_n 8 0 dX6_swearsIt_8 rfl rfl ?_
  refine g_811 (v := .int 4) 9 0 rfl rfl dX6_swearsIt_9 ?_
  refine J_iconst (v := 4) 12 dX6_swearsIt_12 rfl ?_
  refine J_icmp_ne (tgt := 39) 13 dX6_swearsIt_13 (by decide) (fun c_2_ => absurd c_2_ (by decide)) (fun _ => ?_)
  refine J_aload_n 16 0 dX6_swearsIt_16 rfl rfl ?_
  refine J_bipush (v := 31) 17 dX6_swearsIt_17 rfl ?_
  refine kb_RX6_299 (bs' := [wMo o rw fr kp tr ik tp tm mso bg en wd va gd rs mu rm ss msz msh mho mhn mhz 4 nb tn tc (bo + 1) 0, wI G tc 30 (upd tcf bo 31)]) (rest := []) (st' := []) 19 (c_X6_ran l G 31 o rw fr kp tr ik tp tm mso bg en wd va gd rs mu rm ss msz msh mho mhn mhz 4 nb tn tc bo 0 tcf (by first | omega | assumption)) [0, 1] 0 rfl rfl rfl [[o], [tc]] rfl rfl rfl rfl rfl rfl (Nat.le_of_ble_eq_true rfl) rfl dX6_swearsIt_19 ?_
  refine J_aload_n 22 0 dX6_swearsIt_22 rfl rfl ?_
  refine J_iload_n 23 1 dX6_swearsIt_23 rfl rfl ?_
  refine kb_RX6_332 (bs' := [wMo o rw fr kp tr ik tp tm mso bg en wd va gd rs mu rm ss msz msh mho mhn mhz 4 nb tn tc ((bo + 1) + 9) 0, wI G tc 30 (pF [13, 41, 11, 40, 30, 10, 40, 30, 10] (upd tcf bo 31) (bo + 1))]) (rest := []) (st' := [.int ((((0 - ((x * 5 + nb) - 4)) - tn) ^^^ (0 - ((tn * 5 + nb) - 4))) ^^^ 150)]) 24 (c_X6_plainSwears_4 l G x o rw fr kp tr ik tp tm mso bg en wd va gd rs mu rm ss msz msh mho mhn mhz nb tn tc (bo + 1) (upd tcf bo 31) (by first | omega | assumption)) [0, 1] 0 rfl rfl rfl [[o], [tc]] rfl rfl rfl rfl rfl rfl (Nat.le_of_ble_eq_true rfl) rfl dX6_swearsIt_24 ?_
  refine J_istore_n (lv' := [some (.ref o), some (.int x), some (.int ((((0 - ((x * 5 + nb) - 4)) - tn) ^^^ (0 - ((tn * 5 + nb) - 4))) ^^^ 150))]) 27 2 dX6_swearsIt_27 rfl (by decide) rfl ?_
  refine J_iload_n 28 2 dX6_swearsIt_28 rfl rfl ?_
  refine J_aload_n 29 0 dX6_swearsIt_29 rfl rfl ?_
  refine J_aload_n 30 0 dX6_swearsIt_30 rfl rfl ?_
  refine g_812 (v := .int nb) 31 0 rfl rfl dX6_swearsIt_31 ?_
  refine kb_RX6_335 (bs' := [wMo o rw fr kp tr ik tp tm mso bg en wd va gd rs mu rm ss msz msh mho mhn mhz 4 nb tn tc (((bo + 1) + 9) + 1) 0, wI G tc 30 (pF [12] (pF [13, 41, 11, 40, 30, 10, 40, 30, 10] (upd tcf bo 31) (bo + 1)) ((bo + 1) + 9))]) (rest := [.int ((((0 - ((x * 5 + nb) - 4)) - tn) ^^^ (0 - ((tn * 5 + nb) - 4))) ^^^ 150)]) (st' := [.int (nb / (tn - nb)), .int ((((0 - ((x * 5 + nb) - 4)) - tn) ^^^ (0 - ((tn * 5 + nb) - 4))) ^^^ 150)]) 34 (c_X6_partsIt_4 l G nb o rw fr kp tr ik tp tm mso bg en wd va gd rs mu rm ss msz msh mho mhn mhz nb tn tc ((bo + 1) + 9) (pF [13, 41, 11, 40, 30, 10, 40, 30, 10] (upd tcf bo 31) (bo + 1)) (by first | omega | assumption) (by first | omega | assumption)) [0, 1] 0 rfl rfl rfl [[o], [tc]] rfl rfl rfl rfl rfl rfl (Nat.le_of_ble_eq_true rfl) rfl dX6_swearsIt_34 ?_
  refine J_iadd 37 dX6_swearsIt_37 ?_
  exact J_iret 38 dX6_swearsIt_38 rfl (cg2 (fun (x0_ : Nat) (x1_ : Nat → Int32) => (wF [wMo o rw fr kp tr ik tp tm mso bg en wd va gd rs mu rm ss msz msh mho mhn mhz 4 nb tn tc x0_ 0, wI G tc 30 x1_])) (((bo + 1) + 9) + 1) (bo + 11) (pF [12] (pF [13, 41, 11, 40, 30, 10, 40, 30, 10] (upd tcf bo 31) (bo + 1)) ((bo + 1) + 9)) (pF [31, 13, 41, 11, 40, 30, 10, 40, 30, 10, 12] tcf bo) rfl rfl)
set_option maxRecDepth 100000 in
set_option maxHeartbeats 4000000 in
theorem c_X6_swearsIt_4z (l : Launch) (G : Gd) (x : Int32) (o : Nat) (rw : Nat) (fr : Nat) (kp : Nat) (tr : Nat) (ik : Int32) (tp : Nat) (tm : Nat) (mso : Int32) (bg : Nat) (en : Nat) (wd : Int64) (va : Int32) (gd : Int32) (rs : Nat) (mu : Nat) (rm : Nat) (ss : Nat) (msz : Nat) (msh : Nat) (mho : Nat) (mhn : Nat) (mhz : Nat) (nb : Int32) (tn : Int32) (tc : Nat) (bo : Nat) (tcf : Nat → Int32) (hb : bo + 11 ≤ 30) (hz : tn = nb) : Ct l G yX6_swearsIt cX6_swearsIt 3 (some (FieldType.int)) 7 [.ref o, .int x] (wF [wMo o rw fr kp tr ik tp tm mso bg en wd va gd rs mu rm ss msz msh mho mhn mhz 4 nb tn tc bo 0, wI G tc 30 tcf]) (some (.int (((((0 - ((x * 5 + nb) - 4)) - tn) ^^^ (0 - ((tn * 5 + nb) - 4))) ^^^ 150) + 0))) (wF [wMo o rw fr kp tr ik tp tm mso bg en wd va gd rs mu rm ss msz msh mho mhn mhz 4 nb tn tc (bo + 11) 1, wI G tc 30 (pF [31, 13, 41, 11, 40, 30, 10, 40, 30, 10, 12] tcf bo)]) := by
  refine Ct.of "GooseArmsModel" [some (.ref o), some (.int x), none] (by decide +kernel) rfl (Nat.le_of_ble_eq_true rfl) rfl ?_
  refine J_aload_n 0 0 dX6_swearsIt_0 rfl rfl ?_
  refine g_811 (v := .int 4) 1 0 rfl rfl dX6_swearsIt_1 ?_
  refine J_iconst (v := 2) 4 dX6_swearsIt_4 rfl ?_
  refine J_icmp_eq (tgt := 16) 5 dX6_swearsIt_5 (by decide) (fun c_1_ => absurd c_1_ (by decide)) (fun _ => ?_)
  refine J_aload_n 8 0 dX6_swearsIt_8 rfl rfl ?_
  refine g_811 (v := .int 4) 9 0 rfl rfl dX6_swearsIt_9 ?_
  refine J_iconst (v := 4) 12 dX6_swearsIt_12 rfl ?_
  refine J_icmp_ne (tgt := 39) 13 dX6_swearsIt_13 (by decide) (fun c_2_ => absurd c_2_ (by decide)) (fun _ => ?_)
  refine J_aload_n 16 0 dX6_swearsIt_16 rfl rfl ?_
  refine J_bipush (v := 31) 17 dX6_swearsIt_17 rfl ?_
  refine kb_RX6_299 (bs' := [wMo o rw fr kp tr ik tp tm mso bg en wd va gd rs mu rm ss msz msh mho mhn mhz 4 nb tn tc (bo + 1) 0, wI G tc 30 (upd tcf bo 31)]) (rest := []) (st' := []) 19 (c_X6_ran l G 31 o rw fr kp tr ik tp tm mso bg en wd va gd rs mu rm ss msz msh mho mhn mhz 4 nb tn tc bo 0 tcf (by first | omega | assumption)) [0, 1] 0 rfl rfl rfl [[o], [tc]] rfl rfl rfl rfl rfl rfl (Nat.le_of_ble_eq_true rfl) rfl dX6_swearsIt_19 ?_
  refine J_aload_n 22 0 dX6_swearsIt_22 rfl rfl ?_
  refine J_iload_n 23 1 dX6_swearsIt_23 rfl rfl ?_
  refine kb_RX6_332 (bs' := [wMo o rw fr kp tr ik tp tm mso bg en wd va gd rs mu rm ss msz msh mho mhn mhz 4 nb tn tc ((bo + 1) + 9) 0, wI G tc 30 (pF [13, 41, 11, 40, 30, 10, 40, 30, 10] (upd tcf bo 31) (bo + 1))]) (rest := []) (st' := [.int ((((0 - ((x * 5 + nb) - 4)) - tn) ^^^ (0 - ((tn * 5 + nb) - 4))) ^^^ 150)]) 24 (c_X6_plainSwears_4 l G x o rw fr kp tr ik tp tm mso bg en wd va gd rs mu rm ss msz msh mho mhn mhz nb tn tc (bo + 1) (upd tcf bo 31) (by first | omega | assumption)) [0, 1] 0 rfl rfl rfl [[o], [tc]] rfl rfl rfl rfl rfl rfl (Nat.le_of_ble_eq_true rfl) rfl dX6_swearsIt_24 ?_
  refine J_istore_n (lv' := [some (.ref o), some (.int x), some (.int ((((0 - ((x * 5 + nb) - 4)) - tn) ^^^ (0 - ((tn * 5 + nb) - 4))) ^^^ 150))]) 27 2 dX6_swearsIt_27 rfl (by decide) rfl ?_
  refine J_iload_n 28 2 dX6_swearsIt_28 rfl rfl ?_
  refine J_aload_n 29 0 dX6_swearsIt_29 rfl rfl ?_
  refine J_aload_n 30 0 dX6_swearsIt_30 rfl rfl ?_
  refine g_812 (v := .int nb) 31 0 rfl rfl dX6_swearsIt_31 ?_
  refine kb_RX6_335 (bs' := [wMo o rw fr kp tr ik tp tm mso bg en wd va gd rs mu rm ss msz msh mho mhn mhz 4 nb tn tc (((bo + 1) + 9) + 1) 1, wI G tc 30 (pF [12] (pF [13, 41, 11, 40, 30, 10, 40, 30, 10] (upd tcf bo 31) (bo + 1)) ((bo + 1) + 9))]) (rest := [.int ((((0 - ((x * 5 + nb) - 4)) - tn) ^^^ (0 - ((tn * 5 + nb) - 4))) ^^^ 150)]) (st' := [.int 0, .int ((((0 - ((x * 5 + nb) - 4)) - tn) ^^^ (0 - ((tn * 5 + nb) - 4))) ^^^ 150)]) 34 (c_X6_partsIt_4z l G nb o rw fr kp tr ik tp tm mso bg en wd va gd rs mu rm ss msz msh mho mhn mhz nb tn tc ((bo + 1) + 9) (pF [13, 41, 11, 40, 30, 10, 40, 30, 10] (upd tcf bo 31) (bo + 1)) (by first | omega | assumption) (by first | omega | assumption)) [0, 1] 0 rfl rfl rfl [[o], [tc]] rfl rfl rfl rfl rfl rfl (Nat.le_of_ble_eq_true rfl) rfl dX6_swearsIt_34 ?_
  refine J_iadd 37 dX6_swearsIt_37 ?_
  exact J_iret 38 dX6_swearsIt_38 rfl (cg2 (fun (x0_ : Nat) (x1_ : Nat → Int32) => (wF [wMo o rw fr kp tr ik tp tm mso bg en wd va gd rs mu rm ss msz msh mho mhn mhz 4 nb tn tc x0_ 1, wI G tc 30 x1_])) (((bo + 1) + 9) + 1) (bo + 11) (pF [12] (pF [13, 41, 11, 40, 30, 10, 40, 30, 10] (upd tcf bo 31) (bo + 1)) ((bo + 1) + 9)) (pF [31, 13, 41, 11, 40, 30, 10, 40, 30, 10, 12] tcf bo) rfl rfl)
set_option maxRecDepth 100000 in
set_option maxHeartbeats 4000000 in
theorem c_X6_plainShakes_5 (l : Launch) (G : Gd) (x : Int32) (o : Nat) (rw : Nat) (fr : Nat) (kp : Nat) (tr : Nat) (ik : Int32) (tp : Nat) (tm : Nat) (mso : Int32) (bg : Nat) (en : Nat) (wd : Int64) (va : Int32) (gd : Int32) (rs : Nat) (mu : Nat) (rm : Nat) (ss : Nat) (msz : Nat) (msh : Nat) (mho : Nat) (mhn : Nat) (mhz : Nat) (nb : Int32) (tn : Int32) (tc : Nat) (bo : Nat) (tcf : Nat → Int32) (hb : bo + 1 ≤ 30) : Ct l G yX6_plainShakes cX6_plainShakes 2 (some (FieldType.int)) 1 [.ref o, .int x] (wF [wMo o rw fr kp tr ik tp tm mso bg en wd va gd rs mu rm ss msz msh mho mhn mhz 5 nb tn tc bo 0, wI G tc 30 tcf]) (some (.int (x * 5 + nb))) (wF [wMo o rw fr kp tr ik tp tm mso bg en wd va gd rs mu rm ss msz msh mho mhn mhz 5 nb tn tc (bo + 1) 0, wI G tc 30 (pF [10] tcf bo)]) := by
  refine Ct.of "GooseArmsModel" [some (.ref o), some (.int x)] (by decide +kernel) rfl (Nat.le_of_ble_eq_true rfl) rfl ?_
  refine J_aload_n 0 0 dX6_plainShakes_0 rfl rfl ?_
  refine J_bipush (v := 10) 1 dX6_plainShakes_1 rfl ?_
  refine kb_RX6_299 (bs' := [wMo o rw fr kp tr ik tp tm mso bg en wd va gd rs mu rm ss msz msh mho mhn mhz 5 nb tn tc (bo + 1) 0, wI G tc 30 (upd tcf bo 10)]) (rest := []) (st' := []) 3 (c_X6_ran l G 10 o rw fr kp tr ik tp tm mso bg en wd va gd rs mu rm ss msz msh mho mhn mhz 5 nb tn tc bo 0 tcf (by first | omega | assumption)) [0, 1] 0 rfl rfl rfl [[o], [tc]] rfl rfl rfl rfl rfl rfl (Nat.le_of_ble_eq_true rfl) rfl dX6_plainShakes_3 ?_
  refine J_iload_n 6 1 dX6_plainShakes_6 rfl rfl ?_
  refine J_iconst (v := 5) 7 dX6_plainShakes_7 rfl ?_
  refine J_imul 8 dX6_plainShakes_8 ?_
  refine J_aload_n 9 0 dX6_plainShakes_9 rfl rfl ?_
  refine g_812 (v := .int nb) 10 0 rfl rfl dX6_plainShakes_10 ?_
  refine J_iadd 13 dX6_plainShakes_13 ?_
  exact J_iret 14 dX6_plainShakes_14 (congrArg (fun x_ => some (Value.int x_)) (by first | rfl | grind)) (cg1 (fun (x0_ : Nat → Int32) => (wF [wMo o rw fr kp tr ik tp tm mso bg en wd va gd rs mu rm ss msz msh mho mhn mhz 5 nb tn tc (bo + 1) 0, wI G tc 30 x0_])) (upd tcf bo 10) (pF [10] tcf bo) rfl)
set_option maxRecDepth 100000 in
set_option maxHeartbeats 4000000 in
theorem c_X6_advocateShakes_5 (l : Launch) (G : Gd) (x : Int32) (o : Nat) (rw : Nat) (fr : Nat) (kp : Nat) (tr : Nat) (ik : Int32) (tp : Nat) (tm : Nat) (mso : Int32) (bg : Nat) (en : Nat) (wd : Int64) (va : Int32) (gd : Int32) (rs : Nat) (mu : Nat) (rm : Nat) (ss : Nat) (msz : Nat) (msh : Nat) (mho : Nat) (mhn : Nat) (mhz : Nat) (nb : Int32) (tn : Int32) (tc : Nat) (bo : Nat) (tcf : Nat → Int32) (hb : bo + 2 ≤ 30) : Ct l G yX6_advocateShakes cX6_advocateShakes 2 (some (FieldType.int)) 2 [.ref o, .int x] (wF [wMo o rw fr kp tr ik tp tm mso bg en wd va gd rs mu rm ss msz msh mho mhn mhz 5 nb tn tc bo 0, wI G tc 30 tcf]) (some (.int ((x * 5 + nb) - 4))) (wF [wMo o rw fr kp tr ik tp tm mso bg en wd va gd rs mu rm ss msz msh mho mhn mhz 5 nb tn tc (bo + 2) 0, wI G tc 30 (pF [30, 10] tcf bo)]) := by
  refine Ct.of "GooseArmsModel" [some (.ref o), some (.int x)] (by decide +kernel) rfl (Nat.le_of_ble_eq_true rfl) rfl ?_
  refine J_aload_n 0 0 dX6_advocateShakes_0 rfl rfl ?_
  refine J_bipush (v := 30) 1 dX6_advocateShakes_1 rfl ?_
  refine kb_RX6_299 (bs' := [wMo o rw fr kp tr ik tp tm mso bg en wd va gd rs mu rm ss msz msh mho mhn mhz 5 nb tn tc (bo + 1) 0, wI G tc 30 (upd tcf bo 30)]) (rest := []) (st' := []) 3 (c_X6_ran l G 30 o rw fr kp tr ik tp tm mso bg en wd va gd rs mu rm ss msz msh mho mhn mhz 5 nb tn tc bo 0 tcf (by first | omega | assumption)) [0, 1] 0 rfl rfl rfl [[o], [tc]] rfl rfl rfl rfl rfl rfl (Nat.le_of_ble_eq_true rfl) rfl dX6_advocateShakes_3 ?_
  refine J_aload_n 6 0 dX6_advocateShakes_6 rfl rfl ?_
  refine J_iload_n 7 1 dX6_advocateShakes_7 rfl rfl ?_
  refine kb_RX6_305 (bs' := [wMo o rw fr kp tr ik tp tm mso bg en wd va gd rs mu rm ss msz msh mho mhn mhz 5 nb tn tc ((bo + 1) + 1) 0, wI G tc 30 (pF [10] (upd tcf bo 30) (bo + 1))]) (rest := []) (st' := [.int (x * 5 + nb)]) 8 (c_X6_plainShakes_5 l G x o rw fr kp tr ik tp tm mso bg en wd va gd rs mu rm ss msz msh mho mhn mhz nb tn tc (bo + 1) (upd tcf bo 30) (by first | omega | assumption)) [0, 1] 0 rfl rfl rfl [[o], [tc]] rfl rfl rfl rfl rfl rfl (Nat.le_of_ble_eq_true rfl) rfl dX6_advocateShakes_8 ?_
  refine J_iconst (v := 4) 11 dX6_advocateShakes_11 rfl ?_
  refine J_isub 12 dX6_advocateShakes_12 ?_
  exact J_iret 13 dX6_advocateShakes_13 rfl (cg2 (fun (x0_ : Nat) (x1_ : Nat → Int32) => (wF [wMo o rw fr kp tr ik tp tm mso bg en wd va gd rs mu rm ss msz msh mho mhn mhz 5 nb tn tc x0_ 0, wI G tc 30 x1_])) ((bo + 1) + 1) (bo + 2) (pF [10] (upd tcf bo 30) (bo + 1)) (pF [30, 10] tcf bo) rfl rfl)
set_option maxRecDepth 100000 in
set_option maxHeartbeats 4000000 in
theorem c_X6_shakesIt_5 (l : Launch) (G : Gd) (x : Int32) (o : Nat) (rw : Nat) (fr : Nat) (kp : Nat) (tr : Nat) (ik : Int32) (tp : Nat) (tm : Nat) (mso : Int32) (bg : Nat) (en : Nat) (wd : Int64) (va : Int32) (gd : Int32) (rs : Nat) (mu : Nat) (rm : Nat) (ss : Nat) (msz : Nat) (msh : Nat) (mho : Nat) (mhn : Nat) (mhz : Nat) (nb : Int32) (tn : Int32) (tc : Nat) (bo : Nat) (tcf : Nat → Int32) (hb : bo + 1 ≤ 30) : Ct l G yX6_shakesIt cX6_shakesIt 2 (some (FieldType.int)) 3 [.ref o, .int x] (wF [wMo o rw fr kp tr ik tp tm mso bg en wd va gd rs mu rm ss msz msh mho mhn mhz 5 nb tn tc bo 0, wI G tc 30 tcf]) (some (.int (x * 5 + nb))) (wF [wMo o rw fr kp tr ik tp tm mso bg en wd va gd rs mu rm ss msz msh mho mhn mhz 5 nb tn tc (bo + 1) 0, wI G tc 30 (pF [10] tcf bo)]) := by
  refine Ct.of "GooseArmsModel" [some (.ref o), some (.int x)] (by decide +kernel) rfl (Nat.le_of_ble_eq_true rfl) rfl ?_
  refine J_aload_n 0 0 dX6_shakesIt_0 rfl rfl ?_
  refine g_811 (v := .int 5) 1 0 rfl rfl dX6_shakesIt_1 ?_
  refine J_tableOut (tgt := 68) 4 dX6_shakesIt_4 (by decide +kernel) (by decide) ?_
  refine J_aload_n 68 0 dX6_shakesIt_68 rfl rfl ?_
  refine J_iload_n 69 1 dX6_shakesIt_69 rfl rfl ?_
  refine kb_RX6_305 (bs' := [wMo o rw fr kp tr ik tp tm mso bg en wd va gd rs mu rm ss msz msh mho mhn mhz 5 nb tn tc (bo + 1) 0, wI G tc 30 (pF [10] tcf bo)]) (rest := []) (st' := [.int (x * 5 + nb)]) 70 (c_X6_plainShakes_5 l G x o rw fr kp tr ik tp tm mso bg en wd va gd rs mu rm ss msz msh mho mhn mhz nb tn tc bo tcf (by first | omega | assumption)) [0, 1] 0 rfl rfl rfl [[o], [tc]] rfl rfl rfl rfl rfl rfl (Nat.le_of_ble_eq_true rfl) rfl dX6_shakesIt_70 ?_
  exact J_iret 73 dX6_shakesIt_73 rfl rfl
set_option maxRecDepth 100000 in
set_option maxHeartbeats 4000000 in
theorem c_X6_plainReads_5 (l : Launch) (G : Gd) (x : Int32) (o : Nat) (rw : Nat) (fr : Nat) (kp : Nat) (tr : Nat) (ik : Int32) (tp : Nat) (tm : Nat) (mso : Int32) (bg : Nat) (en : Nat) (wd : Int64) (va : Int32) (gd : Int32) (rs : Nat) (mu : Nat) (rm : Nat) (ss : Nat) (msz : Nat) (msh : Nat) (mho : Nat) (mhn : Nat) (mhz : Nat) (nb : Int32) (tn : Int32) (tc : Nat) (bo : Nat) (tcf : Nat → Int32) (hb : bo + 2 ≤ 30) : Ct l G yX6_plainReads cX6_plainReads 2 (some (FieldType.int)) 4 [.ref o, .int x] (wF [wMo o rw fr kp tr ik tp tm mso bg en wd va gd rs mu rm ss msz msh mho mhn mhz 5 nb tn tc bo 0, wI G tc 30 tcf]) (some (.int ((x * 5 + nb) - tn))) (wF [wMo o rw fr kp tr ik tp tm mso bg en wd va gd rs mu rm ss msz msh mho mhn mhz 5 nb tn tc (bo + 2) 0, wI G tc 30 (pF [11, 10] tcf bo)]) := by
  refine Ct.of "GooseArmsModel" [some (.ref o), some (.int x)] (by decide +kernel) rfl (Nat.le_of_ble_eq_true rfl) rfl ?_
  refine J_aload_n 0 0 dX6_plainReads_0 rfl rfl ?_
  refine J_bipush (v := 11) 1 dX6_plainReads_1 rfl ?_
  refine kb_RX6_299 (bs' := [wMo o rw fr kp tr ik tp tm mso bg en wd va gd rs mu rm ss msz msh mho mhn mhz 5 nb tn tc (bo + 1) 0, wI G tc 30 (upd tcf bo 11)]) (rest := []) (st' := []) 3 (c_X6_ran l G 11 o rw fr kp tr ik tp tm mso bg en wd va gd rs mu rm ss msz msh mho mhn mhz 5 nb tn tc bo 0 tcf (by first | omega | assumption)) [0, 1] 0 rfl rfl rfl [[o], [tc]] rfl rfl rfl rfl rfl rfl (Nat.le_of_ble_eq_true rfl) rfl dX6_plainReads_3 ?_
  refine J_aload_n 6 0 dX6_plainReads_6 rfl rfl ?_
  refine J_iload_n 7 1 dX6_plainReads_7 rfl rfl ?_
  refine kb_RX6_317 (bs' := [wMo o rw fr kp tr ik tp tm mso bg en wd va gd rs mu rm ss msz msh mho mhn mhz 5 nb tn tc ((bo + 1) + 1) 0, wI G tc 30 (pF [10] (upd tcf bo 11) (bo + 1))]) (rest := []) (st' := [.int (x * 5 + nb)]) 8 (c_X6_shakesIt_5 l G x o rw fr kp tr ik tp tm mso bg en wd va gd rs mu rm ss msz msh mho mhn mhz nb tn tc (bo + 1) (upd tcf bo 11) (by first | omega | assumption)) [0, 1] 0 rfl rfl rfl [[o], [tc]] rfl rfl rfl rfl rfl rfl (Nat.le_of_ble_eq_true rfl) rfl dX6_plainReads_8 ?_
  refine J_aload_n 11 0 dX6_plainReads_11 rfl rfl ?_
  refine g_813 (v := .int tn) 12 0 rfl rfl dX6_plainReads_12 ?_
  refine J_isub 15 dX6_plainReads_15 ?_
  exact J_iret 16 dX6_plainReads_16 rfl (cg2 (fun (x0_ : Nat) (x1_ : Nat → Int32) => (wF [wMo o rw fr kp tr ik tp tm mso bg en wd va gd rs mu rm ss msz msh mho mhn mhz 5 nb tn tc x0_ 0, wI G tc 30 x1_])) ((bo + 1) + 1) (bo + 2) (pF [10] (upd tcf bo 11) (bo + 1)) (pF [11, 10] tcf bo) rfl rfl)
set_option maxRecDepth 100000 in
set_option maxHeartbeats 4000000 in
theorem c_X6_readsIt_5 (l : Launch) (G : Gd) (x : Int32) (o : Nat) (rw : Nat) (fr : Nat) (kp : Nat) (tr : Nat) (ik : Int32) (tp : Nat) (tm : Nat) (mso : Int32) (bg : Nat) (en : Nat) (wd : Int64) (va : Int32) (gd : Int32) (rs : Nat) (mu : Nat) (rm : Nat) (ss : Nat) (msz : Nat) (msh : Nat) (mho : Nat) (mhn : Nat) (mhz : Nat) (nb : Int32) (tn : Int32) (tc : Nat) (bo : Nat) (tcf : Nat → Int32) (hb : bo + 2 ≤ 30) : Ct l G yX6_readsIt cX6_readsIt 3 (some (FieldType.int)) 5 [.ref o, .int x] (wF [wMo o rw fr kp tr ik tp tm mso bg en wd va gd rs mu rm ss msz msh mho mhn mhz 5 nb tn tc bo 0, wI G tc 30 tcf]) (some (.int ((x * 5 + nb) - tn))) (wF [wMo o rw fr kp tr ik tp tm mso bg en wd va gd rs mu rm ss msz msh mho mhn mhz 5 nb tn tc (bo + 2) 0, wI G tc 30 (pF [11, 10] tcf bo)]) := by
  refine Ct.of "GooseArmsModel" [some (.ref o), some (.int x), none] (by decide +kernel) rfl (Nat.le_of_ble_eq_true rfl) rfl ?_
  refine J_aload_n 0 0 dX6_readsIt_0 rfl rfl ?_
  refine g_811 (v := .int 5) 1 0 rfl rfl dX6_readsIt_1 ?_
  refine J_iconst (v := 1) 4 dX6_readsIt_4 rfl ?_
  refine J_icmp_eq (tgt := 16) 5 dX6_readsIt_5 (by decide) (fun c_1_ => absurd c_1_ (by decide)) (fun _ => ?_)
  refine J_aload_n 8 0 dX6_readsIt_8 rfl rfl ?_
  refine g_811 (v := .int 5) 9 0 rfl rfl dX6_readsIt_9 ?_
  refine J_iconst (v := 3) 12 dX6_readsIt_12 rfl ?_
  refine J_icmp_ne (tgt := 30) 13 dX6_readsIt_13 (by decide) (fun _ => ?_) (fun c_2_ => absurd c_2_ (by decide))
  refine J_aload_n 30 0 dX6_readsIt_30 rfl rfl ?_
  refine g_811 (v := .int 5) 31 0 rfl rfl dX6_readsIt_31 ?_
  refine J_iconst (v := 4) 34 dX6_readsIt_34 rfl ?_
  refine J_icmp_ne (tgt := 61) 35 dX6_readsIt_35 (by decide) (fun _ => ?_) (fun c_3_ => absurd c_3_ (by decide))
  refine J_aload_n 61 0 dX6_readsIt_61 rfl rfl ?_
  refine J_iload_n 62 1 dX6_readsIt_62 rfl rfl ?_
  refine kb_RX6_320 (bs' := [wMo o rw fr kp tr ik tp tm mso bg en wd va gd rs mu rm ss msz msh mho mhn mhz 5 nb tn tc (bo + 2) 0, wI G tc 30 (pF [11, 10] tcf bo)]) (rest := []) (st' := [.int ((x * 5 + nb) - tn)]) 63 (c_X6_plainReads_5 l G x o rw fr kp tr ik tp tm mso bg en wd va gd rs mu rm ss msz msh mho mhn mhz nb tn tc bo tcf (by first | omega | assumption)) [0, 1] 0 rfl rfl rfl [[o], [tc]] rfl rfl rfl rfl rfl rfl (Nat.le_of_ble_eq_true rfl) rfl dX6_readsIt_63 ?_
  exact J_iret 66 dX6_readsIt_66 rfl rfl
set_option maxRecDepth 100000 in
set_option maxHeartbeats 4000000 in
theorem c_X6_plainParts_5 (l : Launch) (G : Gd) (x : Int32) (o : Nat) (rw : Nat) (fr : Nat) (kp : Nat) (tr : Nat) (ik : Int32) (tp : Nat) (tm : Nat) (mso : Int32) (bg : Nat) (en : Nat) (wd : Int64) (va : Int32) (gd : Int32) (rs : Nat) (mu : Nat) (rm : Nat) (ss : Nat) (msz : Nat) (msh : Nat) (mho : Nat) (mhn : Nat) (mhz : Nat) (nb : Int32) (tn : Int32) (tc : Nat) (bo : Nat) (tcf : Nat → Int32) (hb : bo + 1 ≤ 30) (hz : ¬ tn = nb) : Ct l G yX6_plainParts cX6_plainParts 2 (some (FieldType.int)) 1 [.ref o, .int x] (wF [wMo o rw fr kp tr ik tp tm mso bg en wd va gd rs mu rm ss msz msh mho mhn mhz 5 nb tn tc bo 0, wI G tc 30 tcf]) (some (.int (x / (tn - nb)))) (wF [wMo o rw fr kp tr ik tp tm mso bg en wd va gd rs mu rm ss msz msh mho mhn mhz 5 nb tn tc (bo + 1) 0, wI G tc 30 (pF [12] tcf bo)]) := by
  refine Ct.of "GooseArmsModel" [some (.ref o), some (.int x)] (by decide +kernel) rfl (Nat.le_of_ble_eq_true rfl) rfl ?_
  refine J_aload_n 0 0 dX6_plainParts_0 rfl rfl ?_
  refine J_bipush (v := 12) 1 dX6_plainParts_1 rfl ?_
  refine kb_RX6_299 (bs' := [wMo o rw fr kp tr ik tp tm mso bg en wd va gd rs mu rm ss msz msh mho mhn mhz 5 nb tn tc (bo + 1) 0, wI G tc 30 (upd tcf bo 12)]) (rest := []) (st' := []) 3 (c_X6_ran l G 12 o rw fr kp tr ik tp tm mso bg en wd va gd rs mu rm ss msz msh mho mhn mhz 5 nb tn tc bo 0 tcf (by first | omega | assumption)) [0, 1] 0 rfl rfl rfl [[o], [tc]] rfl rfl rfl rfl rfl rfl (Nat.le_of_ble_eq_true rfl) rfl dX6_plainParts_3 ?_
  refine J_aload_n 6 0 dX6_plainParts_6 rfl rfl ?_
  refine g_813 (v := .int tn) 7 0 rfl rfl dX6_plainParts_7 ?_
  refine J_aload_n 10 0 dX6_plainParts_10 rfl rfl ?_
  refine g_812 (v := .int nb) 11 0 rfl rfl dX6_plainParts_11 ?_
  refine J_icmp_ne (tgt := 24) 14 dX6_plainParts_14 (by decide) (fun c_1_ => ?_) (fun c_1_ => ?_)
  · skip
    refine J_iload_n 24 1 dX6_plainParts_24 rfl rfl ?_
    refine J_aload_n 25 0 dX6_plainParts_25 rfl rfl ?_
    refine g_813 (v := .int tn) 26 0 rfl rfl dX6_plainParts_26 ?_
    refine J_aload_n 29 0 dX6_plainParts_29 rfl rfl ?_
    refine g_812 (v := .int nb) 30 0 rfl rfl dX6_plainParts_30 ?_
    refine J_isub 33 dX6_plainParts_33 ?_
    refine J_idiv 34 dX6_plainParts_34 (sub_ne0 hz) ?_
    exact J_iret 35 dX6_plainParts_35 rfl (cg1 (fun (x0_ : Nat → Int32) => (wF [wMo o rw fr kp tr ik tp tm mso bg en wd va gd rs mu rm ss msz msh mho mhn mhz 5 nb tn tc (bo + 1) 0, wI G tc 30 x0_])) (upd tcf bo 12) (pF [12] tcf bo) rfl)
  · skip
    exact absurd c_1_ hz
set_option maxRecDepth 100000 in
set_option maxHeartbeats 4000000 in
theorem c_X6_plainParts_5z (l : Launch) (G : Gd) (x : Int32) (o : Nat) (rw : Nat) (fr : Nat) (kp : Nat) (tr : Nat) (ik : Int32) (tp : Nat) (tm : Nat) (mso : Int32) (bg : Nat) (en : Nat) (wd : Int64) (va : Int32) (gd : Int32) (rs : Nat) (mu : Nat) (rm : Nat) (ss : Nat) (msz : Nat) (msh : Nat) (mho : Nat) (mhn : Nat) (mhz : Nat) (nb : Int32) (tn : Int32) (tc : Nat) (bo : Nat) (tcf : Nat → Int32) (hb : bo + 1 ≤ 30) (hz : tn = nb) : Ct l G yX6_plainParts cX6_plainParts 2 (some (FieldType.int)) 1 [.ref o, .int x] (wF [wMo o rw fr kp tr ik tp tm mso bg en wd va gd rs mu rm ss msz msh mho mhn mhz 5 nb tn tc bo 0, wI G tc 30 tcf]) (some (.int 0)) (wF [wMo o rw fr kp tr ik tp tm mso bg en wd va gd rs mu rm ss msz msh mho mhn mhz 5 nb tn tc (bo + 1) 1, wI G tc 30 (pF [12] tcf bo)]) := by
  refine Ct.of "GooseArmsModel" [some (.ref o), some (.int x)] (by decide +kernel) rfl (Nat.le_of_ble_eq_true rfl) rfl ?_
  refine J_aload_n 0 0 dX6_plainParts_0 rfl rfl ?_
  refine J_bipush (v := 12) 1 dX6_plainParts_1 rfl ?_
  refine kb_RX6_299 (bs' := [wMo o rw fr kp tr ik tp tm mso bg en wd va gd rs mu rm ss msz msh mho mhn mhz 5 nb tn tc (bo + 1) 0, wI G tc 30 (upd tcf bo 12)]) (rest := []) (st' := []) 3 (c_X6_ran l G 12 o rw fr kp tr ik tp tm mso bg en wd va gd rs mu rm ss msz msh mho mhn mhz 5 nb tn tc bo 0 tcf (by first | omega | assumption)) [0, 1] 0 rfl rfl rfl [[o], [tc]] rfl rfl rfl rfl rfl rfl (Nat.le_of_ble_eq_true rfl) rfl dX6_plainParts_3 ?_
  refine J_aload_n 6 0 dX6_plainParts_6 rfl rfl ?_
  refine g_813 (v := .int tn) 7 0 rfl rfl dX6_plainParts_7 ?_
  refine J_aload_n 10 0 dX6_plainParts_10 rfl rfl ?_
  refine g_812 (v := .int nb) 11 0 rfl rfl dX6_plainParts_11 ?_
  refine J_icmp_ne (tgt := 24) 14 dX6_plainParts_14 (by decide) (fun c_1_ => ?_) (fun c_1_ => ?_)
  · skip
    exact absurd hz c_1_
  · skip
    refine J_aload_n 17 0 dX6_plainParts_17 rfl rfl ?_
    refine J_iconst (v := 1) 18 dX6_plainParts_18 rfl ?_
    refine p_816 (ws' := (wF [wMo o rw fr kp tr ik tp tm mso bg en wd va gd rs mu rm ss msz msh mho mhn mhz 5 nb tn tc (bo + 1) 1, wI G tc 30 (upd tcf bo 12)])) 19 0 rfl rfl rfl (Nat.le_of_ble_eq_true rfl) rfl dX6_plainParts_19 ?_
    refine J_iconst (v := 0) 22 dX6_plainParts_22 rfl ?_
    exact J_iret 23 dX6_plainParts_23 rfl (cg1 (fun (x0_ : Nat → Int32) => (wF [wMo o rw fr kp tr ik tp tm mso bg en wd va gd rs mu rm ss msz msh mho mhn mhz 5 nb tn tc (bo + 1) 1, wI G tc 30 x0_])) (upd tcf bo 12) (pF [12] tcf bo) rfl)
set_option maxRecDepth 100000 in
set_option maxHeartbeats 4000000 in
theorem c_X6_partsIt_5 (l : Launch) (G : Gd) (x : Int32) (o : Nat) (rw : Nat) (fr : Nat) (kp : Nat) (tr : Nat) (ik : Int32) (tp : Nat) (tm : Nat) (mso : Int32) (bg : Nat) (en : Nat) (wd : Int64) (va : Int32) (gd : Int32) (rs : Nat) (mu : Nat) (rm : Nat) (ss : Nat) (msz : Nat) (msh : Nat) (mho : Nat) (mhn : Nat) (mhz : Nat) (nb : Int32) (tn : Int32) (tc : Nat) (bo : Nat) (tcf : Nat → Int32) (hb : bo + 3 ≤ 30) (hz : ¬ tn = nb) : Ct l G yX6_partsIt cX6_partsIt 3 (some (FieldType.int)) 4 [.ref o, .int x] (wF [wMo o rw fr kp tr ik tp tm mso bg en wd va gd rs mu rm ss msz msh mho mhn mhz 5 nb tn tc bo 0, wI G tc 30 tcf]) (some (.int ((x / (tn - nb)) - (nb * 5 + nb)))) (wF [wMo o rw fr kp tr ik tp tm mso bg en wd va gd rs mu rm ss msz msh mho mhn mhz 5 nb tn tc (bo + 3) 0, wI G tc 30 (pF [61, 12, 10] tcf bo)]) := by
  refine Ct.of "GooseArmsModel" [some (.ref o), some (.int x), none] (by decide +kernel) rfl (Nat.le_of_ble_eq_true rfl) rfl ?_
  refine J_aload_n 0 0 dX6_partsIt_0 rfl rfl ?_
  refine g_811 (v := .int 5) 1 0 rfl rfl dX6_partsIt_1 ?_
  refine J_iconst (v := 3) 4 dX6_partsIt_4 rfl ?_
  refine J_icmp_ne (tgt := 24) 5 dX6_partsIt_5 (by decide) (fun _ => ?_) (fun c_1_ => absurd c_1_ (by decide))
  refine J_aload_n 24 0 dX6_partsIt_24 rfl rfl ?_
  refine g_811 (v := .int 5) 25 0 rfl rfl dX6_partsIt_25 ?_
  refine J_iconst (v := 5) 28 dX6_partsIt_28 rfl ?_
  refine J_icmp_ne (tgt := 66) 29 dX6_partsIt_29 (by decide) (fun c_2_ => absurd c_2_ (by decide)) (fun _ => ?_)
  refine J_aload_n 32 0 dX6_partsIt_32 rfl rfl ?_
  refine J_bipush (v := 61) 33 dX6_partsIt_33 rfl ?_
  refine kb_RX6_299 (bs' := [wMo o rw fr kp tr ik tp tm mso bg en wd va gd rs mu rm ss msz msh mho mhn mhz 5 nb tn tc (bo + 1) 0, wI G tc 30 (upd tcf bo 61)]) (rest := []) (st' := []) 35 (c_X6_ran l G 61 o rw fr kp tr ik tp tm mso bg en wd va gd rs mu rm ss msz msh mho mhn mhz 5 nb tn tc bo 0 tcf (by first | omega | assumption)) [0, 1] 0 rfl rfl rfl [[o], [tc]] rfl rfl rfl rfl rfl rfl (Nat.le_of_ble_eq_true rfl) rfl dX6_partsIt_35 ?_
  refine J_aload_n 38 0 dX6_partsIt_38 rfl rfl ?_
  refine J_iload_n 39 1 dX6_partsIt_39 rfl rfl ?_
  refine kb_RX6_326 (bs' := [wMo o rw fr kp tr ik tp tm mso bg en wd va gd rs mu rm ss msz msh mho mhn mhz 5 nb tn tc ((bo + 1) + 1) 0, wI G tc 30 (pF [12] (upd tcf bo 61) (bo + 1))]) (rest := []) (st' := [.int (x / (tn - nb))]) 40 (c_X6_plainParts_5 l G x o rw fr kp tr ik tp tm mso bg en wd va gd rs mu rm ss msz msh mho mhn mhz nb tn tc (bo + 1) (upd tcf bo 61) (by first | omega | assumption) (by first | omega | assumption)) [0, 1] 0 rfl rfl rfl [[o], [tc]] rfl rfl rfl rfl rfl rfl (Nat.le_of_ble_eq_true rfl) rfl dX6_partsIt_40 ?_
  refine J_istore_n (lv' := [some (.ref o), some (.int x), some (.int (x / (tn - nb)))]) 43 2 dX6_partsIt_43 rfl (by decide) rfl ?_
  refine J_aload_n 44 0 dX6_partsIt_44 rfl rfl ?_
  refine g_816 (v := .int 0) 45 0 rfl rfl dX6_partsIt_45 ?_
  refine J_if_eq (tgt := 55) 48 dX6_partsIt_48 (by decide) (fun _ => ?_) (fun c_3_ => absurd c_3_ (by decide))
  refine J_iload_n 55 2 dX6_partsIt_55 rfl rfl ?_
  refine J_aload_n 56 0 dX6_partsIt_56 rfl rfl ?_
  refine J_aload_n 57 0 dX6_partsIt_57 rfl rfl ?_
  refine g_812 (v := .int nb) 58 0 rfl rfl dX6_partsIt_58 ?_
  refine kb_RX6_317 (bs' := [wMo o rw fr kp tr ik tp tm mso bg en wd va gd rs mu rm ss msz msh mho mhn mhz 5 nb tn tc (((bo + 1) + 1) + 1) 0, wI G tc 30 (pF [10] (pF [12] (upd tcf bo 61) (bo + 1)) ((bo + 1) + 1))]) (rest := [.int (x / (tn - nb))]) (st' := [.int (nb * 5 + nb), .int (x / (tn - nb))]) 61 (c_X6_shakesIt_5 l G nb o rw fr kp tr ik tp tm mso bg en wd va gd rs mu rm ss msz msh mho mhn mhz nb tn tc ((bo + 1) + 1) (pF [12] (upd tcf bo 61) (bo + 1)) (by first | omega | assumption)) [0, 1] 0 rfl rfl rfl [[o], [tc]] rfl rfl rfl rfl rfl rfl (Nat.le_of_ble_eq_true rfl) rfl dX6_partsIt_61 ?_
  refine J_isub 64 dX6_partsIt_64 ?_
  exact J_iret 65 dX6_partsIt_65 rfl (cg2 (fun (x0_ : Nat) (x1_ : Nat → Int32) => (wF [wMo o rw fr kp tr ik tp tm mso bg en wd va gd rs mu rm ss msz msh mho mhn mhz 5 nb tn tc x0_ 0, wI G tc 30 x1_])) (((bo + 1) + 1) + 1) (bo + 3) (pF [10] (pF [12] (upd tcf bo 61) (bo + 1)) ((bo + 1) + 1)) (pF [61, 12, 10] tcf bo) rfl rfl)
set_option maxRecDepth 100000 in
set_option maxHeartbeats 4000000 in
theorem c_X6_partsIt_5z (l : Launch) (G : Gd) (x : Int32) (o : Nat) (rw : Nat) (fr : Nat) (kp : Nat) (tr : Nat) (ik : Int32) (tp : Nat) (tm : Nat) (mso : Int32) (bg : Nat) (en : Nat) (wd : Int64) (va : Int32) (gd : Int32) (rs : Nat) (mu : Nat) (rm : Nat) (ss : Nat) (msz : Nat) (msh : Nat) (mho : Nat) (mhn : Nat) (mhz : Nat) (nb : Int32) (tn : Int32) (tc : Nat) (bo : Nat) (tcf : Nat → Int32) (hb : bo + 2 ≤ 30) (hz : tn = nb) : Ct l G yX6_partsIt cX6_partsIt 3 (some (FieldType.int)) 4 [.ref o, .int x] (wF [wMo o rw fr kp tr ik tp tm mso bg en wd va gd rs mu rm ss msz msh mho mhn mhz 5 nb tn tc bo 0, wI G tc 30 tcf]) (some (.int (0 - 0))) (wF [wMo o rw fr kp tr ik tp tm mso bg en wd va gd rs mu rm ss msz msh mho mhn mhz 5 nb tn tc (bo + 2) 1, wI G tc 30 (pF [61, 12] tcf bo)]) := by
  refine Ct.of "GooseArmsModel" [some (.ref o), some (.int x), none] (by decide +kernel) rfl (Nat.le_of_ble_eq_true rfl) rfl ?_
  refine J_aload_n 0 0 dX6_partsIt_0 rfl rfl ?_
  refine g_811 (v := .int 5) 1 0 rfl rfl dX6_partsIt_1 ?_
  refine J_iconst (v := 3) 4 dX6_partsIt_4 rfl ?_
  refine J_icmp_ne (tgt := 24) 5 dX6_partsIt_5 (by decide) (fun _ => ?_) (fun c_1_ => absurd c_1_ (by decide))
  refine J_aload_n 24 0 dX6_partsIt_24 rfl rfl ?_
  refine g_811 (v := .int 5) 25 0 rfl rfl dX6_partsIt_25 ?_
  refine J_iconst (v := 5) 28 dX6_partsIt_28 rfl ?_
  refine J_icmp_ne (tgt := 66) 29 dX6_partsIt_29 (by decide) (fun c_2_ => absurd c_2_ (by decide)) (fun _ => ?_)
  refine J_aload_n 32 0 dX6_partsIt_32 rfl rfl ?_
  refine J_bipush (v := 61) 33 dX6_partsIt_33 rfl ?_
  refine kb_RX6_299 (bs' := [wMo o rw fr kp tr ik tp tm mso bg en wd va gd rs mu rm ss msz msh mho mhn mhz 5 nb tn tc (bo + 1) 0, wI G tc 30 (upd tcf bo 61)]) (rest := []) (st' := []) 35 (c_X6_ran l G 61 o rw fr kp tr ik tp tm mso bg en wd va gd rs mu rm ss msz msh mho mhn mhz 5 nb tn tc bo 0 tcf (by first | omega | assumption)) [0, 1] 0 rfl rfl rfl [[o], [tc]] rfl rfl rfl rfl rfl rfl (Nat.le_of_ble_eq_true rfl) rfl dX6_partsIt_35 ?_
  refine J_aload_n 38 0 dX6_partsIt_38 rfl rfl ?_
  refine J_iload_n 39 1 dX6_partsIt_39 rfl rfl ?_
  refine kb_RX6_326 (bs' := [wMo o rw fr kp tr ik tp tm mso bg en wd va gd rs mu rm ss msz msh mho mhn mhz 5 nb tn tc ((bo + 1) + 1) 1, wI G tc 30 (pF [12] (upd tcf bo 61) (bo + 1))]) (rest := []) (st' := [.int 0]) 40 (c_X6_plainParts_5z l G x o rw fr kp tr ik tp tm mso bg en wd va gd rs mu rm ss msz msh mho mhn mhz nb tn tc (bo + 1) (upd tcf bo 61) (by first | omega | assumption) (by first | omega | assumption)) [0, 1] 0 rfl rfl rfl [[o], [tc]] rfl rfl rfl rfl rfl rfl (Nat.le_of_ble_eq_true rfl) rfl dX6_partsIt_40 ?_
  refine J_istore_n (lv' := [some (.ref o), some (.int x), some (.int 0)]) 43 2 dX6_partsIt_43 rfl (by decide) rfl ?_
  refine J_aload_n 44 0 dX6_partsIt_44 rfl rfl ?_
  refine g_816 (v := .int 1) 45 0 rfl rfl dX6_partsIt_45 ?_
  refine J_if_eq (tgt := 55) 48 dX6_partsIt_48 (by decide) (fun c_3_ => absurd c_3_ (by decide)) (fun _ => ?_)
  refine J_iconst (v := 0) 51 dX6_partsIt_51 rfl ?_
  refine J_goto (tgt := 65) 52 dX6_partsIt_52 (by decide) ?_
  exact J_iret 65 dX6_partsIt_65 (congrArg (fun x_ => some (Value.int x_)) (by first | rfl | grind)) (cg2 (fun (x0_ : Nat) (x1_ : Nat → Int32) => (wF [wMo o rw fr kp tr ik tp tm mso bg en wd va gd rs mu rm ss msz msh mho mhn mhz 5 nb tn tc x0_ 1, wI G tc 30 x1_])) ((bo + 1) + 1) (bo + 2) (pF [12] (upd tcf bo 61) (bo + 1)) (pF [61, 12] tcf bo) rfl rfl)
set_option maxRecDepth 100000 in
set_option maxHeartbeats 4000000 in
theorem c_X6_plainSwears_5 (l : Launch) (G : Gd) (x : Int32) (o : Nat) (rw : Nat) (fr : Nat) (kp : Nat) (tr : Nat) (ik : Int32) (tp : Nat) (tm : Nat) (mso : Int32) (bg : Nat) (en : Nat) (wd : Int64) (va : Int32) (gd : Int32) (rs : Nat) (mu : Nat) (rm : Nat) (ss : Nat) (msz : Nat) (msh : Nat) (mho : Nat) (mhn : Nat) (mhz : Nat) (nb : Int32) (tn : Int32) (tc : Nat) (bo : Nat) (tcf : Nat → Int32) (hb : bo + 3 ≤ 30) : Ct l G yX6_plainSwears cX6_plainSwears 2 (some (FieldType.int)) 6 [.ref o, .int x] (wF [wMo o rw fr kp tr ik tp tm mso bg en wd va gd rs mu rm ss msz msh mho mhn mhz 5 nb tn tc bo 0, wI G tc 30 tcf]) (some (.int (((x * 5 + nb) - tn) ^^^ 150))) (wF [wMo o rw fr kp tr ik tp tm mso bg en wd va gd rs mu rm ss msz msh mho mhn mhz 5 nb tn tc (bo + 3) 0, wI G tc 30 (pF [13, 11, 10] tcf bo)]) := by
  refine Ct.of "GooseArmsModel" [some (.ref o), some (.int x)] (by decide +kernel) rfl (Nat.le_of_ble_eq_true rfl) rfl ?_
  refine J_aload_n 0 0 dX6_plainSwears_0 rfl rfl ?_
  refine J_bipush (v := 13) 1 dX6_plainSwears_1 rfl ?_
  refine kb_RX6_299 (bs' := [wMo o rw fr kp tr ik tp tm mso bg en wd va gd rs mu rm ss msz msh mho mhn mhz 5 nb tn tc (bo + 1) 0, wI G tc 30 (upd tcf bo 13)]) (rest := []) (st' := []) 3 (c_X6_ran l G 13 o rw fr kp tr ik tp tm mso bg en wd va gd rs mu rm ss msz msh mho mhn mhz 5 nb tn tc bo 0 tcf (by first | omega | assumption)) [0, 1] 0 rfl rfl rfl [[o], [tc]] rfl rfl rfl rfl rfl rfl (Nat.le_of_ble_eq_true rfl) rfl dX6_plainSwears_3 ?_
  refine J_aload_n 6 0 dX6_plainSwears_6 rfl rfl ?_
  refine J_iload_n 7 1 dX6_plainSwears_7 rfl rfl ?_
  refine kb_RX6_329 (bs' := [wMo o rw fr kp tr ik tp tm mso bg en wd va gd rs mu rm ss msz msh mho mhn mhz 5 nb tn tc ((bo + 1) + 2) 0, wI G tc 30 (pF [11, 10] (upd tcf bo 13) (bo + 1))]) (rest := []) (st' := [.int ((x * 5 + nb) - tn)]) 8 (c_X6_readsIt_5 l G x o rw fr kp tr ik tp tm mso bg en wd va gd rs mu rm ss msz msh mho mhn mhz nb tn tc (bo + 1) (upd tcf bo 13) (by first | omega | assumption)) [0, 1] 0 rfl rfl rfl [[o], [tc]] rfl rfl rfl rfl rfl rfl (Nat.le_of_ble_eq_true rfl) rfl dX6_plainSwears_8 ?_
  refine J_sipush (v := 150) 11 dX6_plainSwears_11 rfl ?_
  refine J_ixor 14 dX6_plainSwears_14 ?_
  exact J_iret 15 dX6_plainSwears_15 rfl (cg2 (fun (x0_ : Nat) (x1_ : Nat → Int32) => (wF [wMo o rw fr kp tr ik tp tm mso bg en wd va gd rs mu rm ss msz msh mho mhn mhz 5 nb tn tc x0_ 0, wI G tc 30 x1_])) ((bo + 1) + 2) (bo + 3) (pF [11, 10] (upd tcf bo 13) (bo + 1)) (pF [13, 11, 10] tcf bo) rfl rfl)
set_option maxRecDepth 100000 in
set_option maxHeartbeats 4000000 in
theorem c_X6_swearsIt_5 (l : Launch) (G : Gd) (x : Int32) (o : Nat) (rw : Nat) (fr : Nat) (kp : Nat) (tr : Nat) (ik : Int32) (tp : Nat) (tm : Nat) (mso : Int32) (bg : Nat) (en : Nat) (wd : Int64) (va : Int32) (gd : Int32) (rs : Nat) (mu : Nat) (rm : Nat) (ss : Nat) (msz : Nat) (msh : Nat) (mho : Nat) (mhn : Nat) (mhz : Nat) (nb : Int32) (tn : Int32) (tc : Nat) (bo : Nat) (tcf : Nat → Int32) (hb : bo + 4 ≤ 30) : Ct l G yX6_swearsIt cX6_swearsIt 3 (some (FieldType.int)) 7 [.ref o, .int x] (wF [wMo o rw fr kp tr ik tp tm mso bg en wd va gd rs mu rm ss msz msh mho mhn mhz 5 nb tn tc bo 0, wI G tc 30 tcf]) (some (.int ((((x * 5 + nb) - tn) ^^^ 150) * 2))) (wF [wMo o rw fr kp tr ik tp tm mso bg en wd va gd rs mu rm ss msz msh mho mhn mhz 5 nb tn tc (bo + 4) 0, wI G tc 30 (pF [60, 13, 11, 10] tcf bo)]) := by
  refine Ct.of "GooseArmsModel" [some (.ref o), some (.int x), none] (by decide +kernel) rfl (Nat.le_of_ble_eq_true rfl) rfl ?_
  refine J_aload_n 0 0 dX6_swearsIt_0 rfl rfl ?_
  refine g_811 (v := .int 5) 1 0 rfl rfl dX6_swearsIt_1 ?_
  refine J_iconst (v := 2) 4 dX6_swearsIt_4 rfl ?_
  refine J_icmp_eq (tgt := 16) 5 dX6_swearsIt_5 (by decide) (fun c_1_ => absurd c_1_ (by decide)) (fun _ => ?_)
  refine J_aload_n 8 0 dX6_swearsIt_8 rfl rfl ?_
  refine g_811 (v := .int 5) 9 0 rfl rfl dX6_swearsIt_9 ?_
  refine J_iconst (v := 4) 12 dX6_swearsIt_12 rfl ?_
  refine J_icmp_ne (tgt := 39) 13 dX6_swearsIt_13 (by decide) (fun _ => ?_) (fun c_2_ => absurd c_2_ (by decide))
  refine J_aload_n 39 0 dX6_swearsIt_39 rfl rfl ?_
  refine g_811 (v := .int 5) 40 0 rfl rfl dX6_swearsIt_40 ?_
  refine J_iconst (v := 5) 43 dX6_swearsIt_43 rfl ?_
  refine J_icmp_ne (tgt := 61) 44 dX6_swearsIt_44 (by decide) (fun c_3_ => absurd c_3_ (by decide)) (fun _ => ?_)
  refine J_aload_n 47 0 dX6_swearsIt_47 rfl rfl ?_
  refine J_bipush (v := 60) 48 dX6_swearsIt_48 rfl ?_
  refine kb_RX6_299 (bs' := [wMo o rw fr kp tr ik tp tm mso bg en wd va gd rs mu rm ss msz msh mho mhn mhz 5 nb tn tc (bo + 1) 0, wI G tc 30 (upd tcf bo 60)]) (rest := []) (st' := []) 50 (c_X6_ran l G 60 o rw fr kp tr ik tp tm mso bg en wd va gd rs mu rm ss msz msh mho mhn mhz 5 nb tn tc bo 0 tcf (by first | omega | assumption)) [0, 1] 0 rfl rfl rfl [[o], [tc]] rfl rfl rfl rfl rfl rfl (Nat.le_of_ble_eq_true rfl) rfl dX6_swearsIt_50 ?_
  refine J_aload_n 53 0 dX6_swearsIt_53 rfl rfl ?_
  refine J_iload_n 54 1 dX6_swearsIt_54 rfl rfl ?_
  refine kb_RX6_332 (bs' := [wMo o rw fr kp tr ik tp tm mso bg en wd va gd rs mu rm ss msz msh mho mhn mhz 5 nb tn tc ((bo + 1) + 3) 0, wI G tc 30 (pF [13, 11, 10] (upd tcf bo 60) (bo + 1))]) (rest := []) (st' := [.int (((x * 5 + nb) - tn) ^^^ 150)]) 55 (c_X6_plainSwears_5 l G x o rw fr kp tr ik tp tm mso bg en wd va gd rs mu rm ss msz msh mho mhn mhz nb tn tc (bo + 1) (upd tcf bo 60) (by first | omega | assumption)) [0, 1] 0 rfl rfl rfl [[o], [tc]] rfl rfl rfl rfl rfl rfl (Nat.le_of_ble_eq_true rfl) rfl dX6_swearsIt_55 ?_
  refine J_iconst (v := 2) 58 dX6_swearsIt_58 rfl ?_
  refine J_imul 59 dX6_swearsIt_59 ?_
  exact J_iret 60 dX6_swearsIt_60 rfl (cg2 (fun (x0_ : Nat) (x1_ : Nat → Int32) => (wF [wMo o rw fr kp tr ik tp tm mso bg en wd va gd rs mu rm ss msz msh mho mhn mhz 5 nb tn tc x0_ 0, wI G tc 30 x1_])) ((bo + 1) + 3) (bo + 4) (pF [13, 11, 10] (upd tcf bo 60) (bo + 1)) (pF [60, 13, 11, 10] tcf bo) rfl rfl)
set_option maxRecDepth 100000 in
set_option maxHeartbeats 4000000 in
theorem c_X6_act_bads (l : Launch) (G : Gd) (s : Int32) (a : Int32) (x : Int32) (o : Nat) (rw : Nat) (fr : Nat) (kp : Nat) (tr : Nat) (ik : Int32) (tp : Nat) (tm : Nat) (mso : Int32) (bg : Nat) (en : Nat) (wd : Int64) (va : Int32) (gd : Int32) (rs : Nat) (mu : Nat) (rm : Nat) (ss : Nat) (msz : Nat) (msh : Nat) (mho : Nat) (mhn : Nat) (mhz : Nat) (kd : Int32) (nb : Int32) (tn : Int32) (tc : Nat) (bo : Nat) (ip : Int32) (hw : ¬ (0 ≤ s ∧ s ≤ 3)) : Ct l G yX6_act cX6_act 6 (some (FieldType.int)) 8 [.ref o, .int s, .int a, .int x] (wF [wMo o rw fr kp tr ik tp tm mso bg en wd va gd rs mu rm ss msz msh mho mhn mhz kd nb tn tc bo ip]) (some (.int 0)) (wF [wMo o rw fr kp tr ik tp tm mso bg en wd va gd rs mu rm ss msz msh mho mhn mhz kd nb tn tc 0 ip]) := by
  refine Ct.of "GooseArmsModel" [some (.ref o), some (.int s), some (.int a), some (.int x), none, none] (by decide +kernel) rfl (Nat.le_of_ble_eq_true rfl) rfl ?_
  refine J_aload_n 0 0 dX6_act_0 rfl rfl ?_
  refine J_iconst (v := 0) 1 dX6_act_1 rfl ?_
  refine p_815 (ws' := (wF [wMo o rw fr kp tr ik tp tm mso bg en wd va gd rs mu rm ss msz msh mho mhn mhz kd nb tn tc 0 ip])) 2 0 rfl rfl rfl (Nat.le_of_ble_eq_true rfl) rfl dX6_act_2 ?_
  refine J_iload_n 5 1 dX6_act_5 rfl rfl ?_
  refine kb_RX6_262 (bs' := [wMo o rw fr kp tr ik tp tm mso bg en wd va gd rs mu rm ss msz msh mho mhn mhz kd nb tn tc 0 ip]) (rest := []) (st' := [.int 0]) 6 (c_X6_isShelf_f l G s (by first | omega | assumption)) [] rfl rfl [] rfl rfl rfl rfl rfl rfl (Nat.le_of_ble_eq_true rfl) rfl dX6_act_6 ?_
  refine J_if_eq (tgt := 20) 9 dX6_act_9 (by decide) (fun _ => ?_) (fun c_1_ => absurd c_1_ (by decide))
  refine J_iconst (v := (-1)) 20 dX6_act_20 rfl ?_
  refine J_istore (lv' := [some (.ref o), some (.int s), some (.int a), some (.int x), some (.int (-1)), none]) 21 dX6_act_21 (by decide) rfl ?_
  refine J_iload_n 23 2 dX6_act_23 rfl rfl ?_
  refine J_iconst (v := 0) 24 dX6_act_24 rfl ?_
  refine J_iconst (v := 3) 25 dX6_act_25 rfl ?_
  refine kb_RX6_57 (bs' := [wMo o rw fr kp tr ik tp tm mso bg en wd va gd rs mu rm ss msz msh mho mhn mhz kd nb tn tc 0 ip]) (rest := []) (st' := [.int (bI (0 ≤ a ∧ a ≤ 3))]) 26 (c_X6_in l G a 0 3 ) [] rfl rfl [] rfl rfl rfl rfl rfl rfl (Nat.le_of_ble_eq_true rfl) rfl dX6_act_26 ?_
  refine J_ifB_eq (tgt := 42) 29 dX6_act_29 (by decide) (fun c_2_ => ?_) (fun c_2_ => ?_)
  · skip
    refine J_iconst (v := 0) 42 dX6_act_42 rfl ?_
    exact J_iret 43 dX6_act_43 rfl rfl
  · skip
    refine J_iload 32 dX6_act_32 rfl ?_
    refine J_iconst (v := 0) 34 dX6_act_34 rfl ?_
    refine J_iconst (v := 5) 35 dX6_act_35 rfl ?_
    refine kb_RX6_57 (bs' := [wMo o rw fr kp tr ik tp tm mso bg en wd va gd rs mu rm ss msz msh mho mhn mhz kd nb tn tc 0 ip]) (rest := []) (st' := [.int 0]) 36 (c_X6_in_f l G (-1) 0 5 (by decide)) [] rfl rfl [] rfl rfl rfl rfl rfl rfl (Nat.le_of_ble_eq_true rfl) rfl dX6_act_36 ?_
    refine J_if_ne (tgt := 44) 39 dX6_act_39 (by decide) (fun c_3_ => absurd c_3_ (by decide)) (fun _ => ?_)
    refine J_iconst (v := 0) 42 dX6_act_42 rfl ?_
    exact J_iret 43 dX6_act_43 rfl rfl
set_option maxRecDepth 100000 in
set_option maxHeartbeats 4000000 in
theorem c_X6_act_bada_e (l : Launch) (G : Gd) (s : Nat) (a : Int32) (x : Int32) (o : Nat) (rw : Nat) (fr : Nat) (kp : Nat) (tr : Nat) (ik : Int32) (tp : Nat) (tm : Nat) (mso : Int32) (bg : Nat) (en : Nat) (wd : Int64) (va : Int32) (gd : Int32) (rs : Nat) (mu : Nat) (rm : Nat) (ss : Nat) (msz : Nat) (msh : Nat) (mho : Nat) (mhn : Nat) (mhz : Nat) (kd : Int32) (nb : Int32) (tn : Int32) (tc : Nat) (bo : Nat) (ip : Int32) (hof : Nat → Int32) (hs : s ≤ 3) (hw : ¬ (0 ≤ a ∧ a ≤ 3)) (hho : hof s = -1) : Ct l G yX6_act cX6_act 6 (some (FieldType.int)) 8 [.ref o, .int (nI s), .int a, .int x] (wF [wMo o rw fr kp tr ik tp tm mso bg en wd va gd rs mu rm ss msz msh mho mhn mhz kd nb tn tc bo ip, wI G mho 4 hof]) (some (.int 0)) (wF [wMo o rw fr kp tr ik tp tm mso bg en wd va gd rs mu rm ss msz msh mho mhn mhz kd nb tn tc 0 ip, wI G mho 4 hof]) := by
  refine Ct.of "GooseArmsModel" [some (.ref o), some (.int (nI s)), some (.int a), some (.int x), none, none] (by decide +kernel) rfl (Nat.le_of_ble_eq_true rfl) rfl ?_
  refine J_aload_n 0 0 dX6_act_0 rfl rfl ?_
  refine J_iconst (v := 0) 1 dX6_act_1 rfl ?_
  refine p_815 (ws' := (wF [wMo o rw fr kp tr ik tp tm mso bg en wd va gd rs mu rm ss msz msh mho mhn mhz kd nb tn tc 0 ip, wI G mho 4 hof])) 2 0 rfl rfl rfl (Nat.le_of_ble_eq_true rfl) rfl dX6_act_2 ?_
  refine J_iload_n 5 1 dX6_act_5 rfl rfl ?_
  refine kb_RX6_262 (bs' := [wMo o rw fr kp tr ik tp tm mso bg en wd va gd rs mu rm ss msz msh mho mhn mhz kd nb tn tc 0 ip, wI G mho 4 hof]) (rest := []) (st' := [.int 1]) 6 (c_X6_isShelf_t l G s (by first | omega | assumption)) [] rfl rfl [] rfl rfl rfl rfl rfl rfl (Nat.le_of_ble_eq_true rfl) rfl dX6_act_6 ?_
  refine J_if_eq (tgt := 20) 9 dX6_act_9 (by decide) (fun c_1_ => absurd c_1_ (by decide)) (fun _ => ?_)
  refine J_aload_n 12 0 dX6_act_12 rfl rfl ?_
  refine J_iload_n 13 1 dX6_act_13 rfl rfl ?_
  refine kb_RX6_290 (bs' := [wMo o rw fr kp tr ik tp tm mso bg en wd va gd rs mu rm ss msz msh mho mhn mhz kd nb tn tc 0 ip, wI G mho 4 hof]) (rest := []) (st' := [.int (-1)]) 14 (c_X6_kindOn_e l G s o rw fr kp tr ik tp tm mso bg en wd va gd rs mu rm ss msz msh mho mhn mhz kd nb tn tc 0 ip hof (by first | omega | assumption) (by first | omega | assumption)) [0, 1] 0 rfl rfl rfl [[o], [mho]] rfl rfl rfl rfl rfl rfl (Nat.le_of_ble_eq_true rfl) rfl dX6_act_14 ?_
  refine J_goto (tgt := 21) 17 dX6_act_17 (by decide) ?_
  refine J_istore (lv' := [some (.ref o), some (.int (nI s)), some (.int a), some (.int x), some (.int (-1)), none]) 21 dX6_act_21 (by decide) rfl ?_
  refine J_iload_n 23 2 dX6_act_23 rfl rfl ?_
  refine J_iconst (v := 0) 24 dX6_act_24 rfl ?_
  refine J_iconst (v := 3) 25 dX6_act_25 rfl ?_
  refine kb_RX6_57 (bs' := [wMo o rw fr kp tr ik tp tm mso bg en wd va gd rs mu rm ss msz msh mho mhn mhz kd nb tn tc 0 ip, wI G mho 4 hof]) (rest := []) (st' := [.int 0]) 26 (c_X6_in_f l G a 0 3 hw) [] rfl rfl [] rfl rfl rfl rfl rfl rfl (Nat.le_of_ble_eq_true rfl) rfl dX6_act_26 ?_
  refine J_if_eq (tgt := 42) 29 dX6_act_29 (by decide) (fun _ => ?_) (fun c_2_ => absurd c_2_ (by decide))
  refine J_iconst (v := 0) 42 dX6_act_42 rfl ?_
  exact J_iret 43 dX6_act_43 rfl rfl
set_option maxRecDepth 100000 in
set_option maxHeartbeats 4000000 in
theorem c_X6_act_e (l : Launch) (G : Gd) (s : Nat) (a : Int32) (x : Int32) (o : Nat) (rw : Nat) (fr : Nat) (kp : Nat) (tr : Nat) (ik : Int32) (tp : Nat) (tm : Nat) (mso : Int32) (bg : Nat) (en : Nat) (wd : Int64) (va : Int32) (gd : Int32) (rs : Nat) (mu : Nat) (rm : Nat) (ss : Nat) (msz : Nat) (msh : Nat) (mho : Nat) (mhn : Nat) (mhz : Nat) (kd : Int32) (nb : Int32) (tn : Int32) (tc : Nat) (bo : Nat) (ip : Int32) (hof : Nat → Int32) (hs : s ≤ 3) (hv : 0 ≤ a ∧ a ≤ 3) (hho : hof s = -1) : Ct l G yX6_act cX6_act 6 (some (FieldType.int)) 8 [.ref o, .int (nI s), .int a, .int x] (wF [wMo o rw fr kp tr ik tp tm mso bg en wd va gd rs mu rm ss msz msh mho mhn mhz kd nb tn tc bo ip, wI G mho 4 hof]) (some (.int 0)) (wF [wMo o rw fr kp tr ik tp tm mso bg en wd va gd rs mu rm ss msz msh mho mhn mhz kd nb tn tc 0 ip, wI G mho 4 hof]) := by
  refine Ct.of "GooseArmsModel" [some (.ref o), some (.int (nI s)), some (.int a), some (.int x), none, none] (by decide +kernel) rfl (Nat.le_of_ble_eq_true rfl) rfl ?_
  refine J_aload_n 0 0 dX6_act_0 rfl rfl ?_
  refine J_iconst (v := 0) 1 dX6_act_1 rfl ?_
  refine p_815 (ws' := (wF [wMo o rw fr kp tr ik tp tm mso bg en wd va gd rs mu rm ss msz msh mho mhn mhz kd nb tn tc 0 ip, wI G mho 4 hof])) 2 0 rfl rfl rfl (Nat.le_of_ble_eq_true rfl) rfl dX6_act_2 ?_
  refine J_iload_n 5 1 dX6_act_5 rfl rfl ?_
  refine kb_RX6_262 (bs' := [wMo o rw fr kp tr ik tp tm mso bg en wd va gd rs mu rm ss msz msh mho mhn mhz kd nb tn tc 0 ip, wI G mho 4 hof]) (rest := []) (st' := [.int 1]) 6 (c_X6_isShelf_t l G s (by first | omega | assumption)) [] rfl rfl [] rfl rfl rfl rfl rfl rfl (Nat.le_of_ble_eq_true rfl) rfl dX6_act_6 ?_
  refine J_if_eq (tgt := 20) 9 dX6_act_9 (by decide) (fun c_1_ => absurd c_1_ (by decide)) (fun _ => ?_)
  refine J_aload_n 12 0 dX6_act_12 rfl rfl ?_
  refine J_iload_n 13 1 dX6_act_13 rfl rfl ?_
  refine kb_RX6_290 (bs' := [wMo o rw fr kp tr ik tp tm mso bg en wd va gd rs mu rm ss msz msh mho mhn mhz kd nb tn tc 0 ip, wI G mho 4 hof]) (rest := []) (st' := [.int (-1)]) 14 (c_X6_kindOn_e l G s o rw fr kp tr ik tp tm mso bg en wd va gd rs mu rm ss msz msh mho mhn mhz kd nb tn tc 0 ip hof (by first | omega | assumption) (by first | omega | assumption)) [0, 1] 0 rfl rfl rfl [[o], [mho]] rfl rfl rfl rfl rfl rfl (Nat.le_of_ble_eq_true rfl) rfl dX6_act_14 ?_
  refine J_goto (tgt := 21) 17 dX6_act_17 (by decide) ?_
  refine J_istore (lv' := [some (.ref o), some (.int (nI s)), some (.int a), some (.int x), some (.int (-1)), none]) 21 dX6_act_21 (by decide) rfl ?_
  refine J_iload_n 23 2 dX6_act_23 rfl rfl ?_
  refine J_iconst (v := 0) 24 dX6_act_24 rfl ?_
  refine J_iconst (v := 3) 25 dX6_act_25 rfl ?_
  refine kb_RX6_57 (bs' := [wMo o rw fr kp tr ik tp tm mso bg en wd va gd rs mu rm ss msz msh mho mhn mhz kd nb tn tc 0 ip, wI G mho 4 hof]) (rest := []) (st' := [.int 1]) 26 (c_X6_in_t l G a 0 3 hv) [] rfl rfl [] rfl rfl rfl rfl rfl rfl (Nat.le_of_ble_eq_true rfl) rfl dX6_act_26 ?_
  refine J_if_eq (tgt := 42) 29 dX6_act_29 (by decide) (fun c_2_ => absurd c_2_ (by decide)) (fun _ => ?_)
  refine J_iload 32 dX6_act_32 rfl ?_
  refine J_iconst (v := 0) 34 dX6_act_34 rfl ?_
  refine J_iconst (v := 5) 35 dX6_act_35 rfl ?_
  refine kb_RX6_57 (bs' := [wMo o rw fr kp tr ik tp tm mso bg en wd va gd rs mu rm ss msz msh mho mhn mhz kd nb tn tc 0 ip, wI G mho 4 hof]) (rest := []) (st' := [.int 0]) 36 (c_X6_in_f l G (-1) 0 5 (by decide)) [] rfl rfl [] rfl rfl rfl rfl rfl rfl (Nat.le_of_ble_eq_true rfl) rfl dX6_act_36 ?_
  refine J_if_ne (tgt := 44) 39 dX6_act_39 (by decide) (fun c_3_ => absurd c_3_ (by decide)) (fun _ => ?_)
  refine J_iconst (v := 0) 42 dX6_act_42 rfl ?_
  exact J_iret 43 dX6_act_43 rfl rfl
set_option maxRecDepth 100000 in
set_option maxHeartbeats 4000000 in
theorem c_X6_act_bada_r (l : Launch) (G : Gd) (s : Nat) (a : Int32) (x : Int32) (o : Nat) (rw : Nat) (fr : Nat) (kp : Nat) (tr : Nat) (ik : Int32) (tp : Nat) (tm : Nat) (mso : Int32) (bg : Nat) (en : Nat) (wd : Int64) (va : Int32) (gd : Int32) (rs : Nat) (mu : Nat) (rm : Nat) (ss : Nat) (msz : Nat) (msh : Nat) (mho : Nat) (mhn : Nat) (mhz : Nat) (kd : Int32) (nb : Int32) (tn : Int32) (tc : Nat) (bo : Nat) (ip : Int32) (hof : Nat → Int32) (hs : s ≤ 3) (hw : ¬ (0 ≤ a ∧ a ≤ 3)) (hho : hof s = 1) : Ct l G yX6_act cX6_act 6 (some (FieldType.int)) 8 [.ref o, .int (nI s), .int a, .int x] (wF [wMo o rw fr kp tr ik tp tm mso bg en wd va gd rs mu rm ss msz msh mho mhn mhz kd nb tn tc bo ip, wI G mho 4 hof]) (some (.int 0)) (wF [wMo o rw fr kp tr ik tp tm mso bg en wd va gd rs mu rm ss msz msh mho mhn mhz kd nb tn tc 0 ip, wI G mho 4 hof]) := by
  refine Ct.of "GooseArmsModel" [some (.ref o), some (.int (nI s)), some (.int a), some (.int x), none, none] (by decide +kernel) rfl (Nat.le_of_ble_eq_true rfl) rfl ?_
  refine J_aload_n 0 0 dX6_act_0 rfl rfl ?_
  refine J_iconst (v := 0) 1 dX6_act_1 rfl ?_
  refine p_815 (ws' := (wF [wMo o rw fr kp tr ik tp tm mso bg en wd va gd rs mu rm ss msz msh mho mhn mhz kd nb tn tc 0 ip, wI G mho 4 hof])) 2 0 rfl rfl rfl (Nat.le_of_ble_eq_true rfl) rfl dX6_act_2 ?_
  refine J_iload_n 5 1 dX6_act_5 rfl rfl ?_
  refine kb_RX6_262 (bs' := [wMo o rw fr kp tr ik tp tm mso bg en wd va gd rs mu rm ss msz msh mho mhn mhz kd nb tn tc 0 ip, wI G mho 4 hof]) (rest := []) (st' := [.int 1]) 6 (c_X6_isShelf_t l G s (by first | omega | assumption)) [] rfl rfl [] rfl rfl rfl rfl rfl rfl (Nat.le_of_ble_eq_true rfl) rfl dX6_act_6 ?_
  refine J_if_eq (tgt := 20) 9 dX6_act_9 (by decide) (fun c_1_ => absurd c_1_ (by decide)) (fun _ => ?_)
  refine J_aload_n 12 0 dX6_act_12 rfl rfl ?_
  refine J_iload_n 13 1 dX6_act_13 rfl rfl ?_
  refine kb_RX6_290 (bs' := [wMo o rw fr kp tr ik tp tm mso bg en wd va gd rs mu rm ss msz msh mho mhn mhz kd nb tn tc 0 ip, wI G mho 4 hof]) (rest := []) (st' := [.int 9]) 14 (c_X6_kindOn_r l G s o rw fr kp tr ik tp tm mso bg en wd va gd rs mu rm ss msz msh mho mhn mhz kd nb tn tc 0 ip hof (by first | omega | assumption) (by first | omega | assumption)) [0, 1] 0 rfl rfl rfl [[o], [mho]] rfl rfl rfl rfl rfl rfl (Nat.le_of_ble_eq_true rfl) rfl dX6_act_14 ?_
  refine J_goto (tgt := 21) 17 dX6_act_17 (by decide) ?_
  refine J_istore (lv' := [some (.ref o), some (.int (nI s)), some (.int a), some (.int x), some (.int 9), none]) 21 dX6_act_21 (by decide) rfl ?_
  refine J_iload_n 23 2 dX6_act_23 rfl rfl ?_
  refine J_iconst (v := 0) 24 dX6_act_24 rfl ?_
  refine J_iconst (v := 3) 25 dX6_act_25 rfl ?_
  refine kb_RX6_57 (bs' := [wMo o rw fr kp tr ik tp tm mso bg en wd va gd rs mu rm ss msz msh mho mhn mhz kd nb tn tc 0 ip, wI G mho 4 hof]) (rest := []) (st' := [.int 0]) 26 (c_X6_in_f l G a 0 3 hw) [] rfl rfl [] rfl rfl rfl rfl rfl rfl (Nat.le_of_ble_eq_true rfl) rfl dX6_act_26 ?_
  refine J_if_eq (tgt := 42) 29 dX6_act_29 (by decide) (fun _ => ?_) (fun c_2_ => absurd c_2_ (by decide))
  refine J_iconst (v := 0) 42 dX6_act_42 rfl ?_
  exact J_iret 43 dX6_act_43 rfl rfl
set_option maxRecDepth 100000 in
set_option maxHeartbeats 4000000 in
theorem c_X6_act_r (l : Launch) (G : Gd) (s : Nat) (a : Int32) (x : Int32) (o : Nat) (rw : Nat) (fr : Nat) (kp : Nat) (tr : Nat) (ik : Int32) (tp : Nat) (tm : Nat) (mso : Int32) (bg : Nat) (en : Nat) (wd : Int64) (va : Int32) (gd : Int32) (rs : Nat) (mu : Nat) (rm : Nat) (ss : Nat) (msz : Nat) (msh : Nat) (mho : Nat) (mhn : Nat) (mhz : Nat) (kd : Int32) (nb : Int32) (tn : Int32) (tc : Nat) (bo : Nat) (ip : Int32) (hof : Nat → Int32) (hs : s ≤ 3) (hv : 0 ≤ a ∧ a ≤ 3) (hho : hof s = 1) : Ct l G yX6_act cX6_act 6 (some (FieldType.int)) 8 [.ref o, .int (nI s), .int a, .int x] (wF [wMo o rw fr kp tr ik tp tm mso bg en wd va gd rs mu rm ss msz msh mho mhn mhz kd nb tn tc bo ip, wI G mho 4 hof]) (some (.int 0)) (wF [wMo o rw fr kp tr ik tp tm mso bg en wd va gd rs mu rm ss msz msh mho mhn mhz kd nb tn tc 0 ip, wI G mho 4 hof]) := by
  refine Ct.of "GooseArmsModel" [some (.ref o), some (.int (nI s)), some (.int a), some (.int x), none, none] (by decide +kernel) rfl (Nat.le_of_ble_eq_true rfl) rfl ?_
  refine J_aload_n 0 0 dX6_act_0 rfl rfl ?_
  refine J_iconst (v := 0) 1 dX6_act_1 rfl ?_
  refine p_815 (ws' := (wF [wMo o rw fr kp tr ik tp tm mso bg en wd va gd rs mu rm ss msz msh mho mhn mhz kd nb tn tc 0 ip, wI G mho 4 hof])) 2 0 rfl rfl rfl (Nat.le_of_ble_eq_true rfl) rfl dX6_act_2 ?_
  refine J_iload_n 5 1 dX6_act_5 rfl rfl ?_
  refine kb_RX6_262 (bs' := [wMo o rw fr kp tr ik tp tm mso bg en wd va gd rs mu rm ss msz msh mho mhn mhz kd nb tn tc 0 ip, wI G mho 4 hof]) (rest := []) (st' := [.int 1]) 6 (c_X6_isShelf_t l G s (by first | omega | assumption)) [] rfl rfl [] rfl rfl rfl rfl rfl rfl (Nat.le_of_ble_eq_true rfl) rfl dX6_act_6 ?_
  refine J_if_eq (tgt := 20) 9 dX6_act_9 (by decide) (fun c_1_ => absurd c_1_ (by decide)) (fun _ => ?_)
  refine J_aload_n 12 0 dX6_act_12 rfl rfl ?_
  refine J_iload_n 13 1 dX6_act_13 rfl rfl ?_
  refine kb_RX6_290 (bs' := [wMo o rw fr kp tr ik tp tm mso bg en wd va gd rs mu rm ss msz msh mho mhn mhz kd nb tn tc 0 ip, wI G mho 4 hof]) (rest := []) (st' := [.int 9]) 14 (c_X6_kindOn_r l G s o rw fr kp tr ik tp tm mso bg en wd va gd rs mu rm ss msz msh mho mhn mhz kd nb tn tc 0 ip hof (by first | omega | assumption) (by first | omega | assumption)) [0, 1] 0 rfl rfl rfl [[o], [mho]] rfl rfl rfl rfl rfl rfl (Nat.le_of_ble_eq_true rfl) rfl dX6_act_14 ?_
  refine J_goto (tgt := 21) 17 dX6_act_17 (by decide) ?_
  refine J_istore (lv' := [some (.ref o), some (.int (nI s)), some (.int a), some (.int x), some (.int 9), none]) 21 dX6_act_21 (by decide) rfl ?_
  refine J_iload_n 23 2 dX6_act_23 rfl rfl ?_
  refine J_iconst (v := 0) 24 dX6_act_24 rfl ?_
  refine J_iconst (v := 3) 25 dX6_act_25 rfl ?_
  refine kb_RX6_57 (bs' := [wMo o rw fr kp tr ik tp tm mso bg en wd va gd rs mu rm ss msz msh mho mhn mhz kd nb tn tc 0 ip, wI G mho 4 hof]) (rest := []) (st' := [.int 1]) 26 (c_X6_in_t l G a 0 3 hv) [] rfl rfl [] rfl rfl rfl rfl rfl rfl (Nat.le_of_ble_eq_true rfl) rfl dX6_act_26 ?_
  refine J_if_eq (tgt := 42) 29 dX6_act_29 (by decide) (fun c_2_ => absurd c_2_ (by decide)) (fun _ => ?_)
  refine J_iload 32 dX6_act_32 rfl ?_
  refine J_iconst (v := 0) 34 dX6_act_34 rfl ?_
  refine J_iconst (v := 5) 35 dX6_act_35 rfl ?_
  refine kb_RX6_57 (bs' := [wMo o rw fr kp tr ik tp tm mso bg en wd va gd rs mu rm ss msz msh mho mhn mhz kd nb tn tc 0 ip, wI G mho 4 hof]) (rest := []) (st' := [.int 0]) 36 (c_X6_in_f l G 9 0 5 (by decide)) [] rfl rfl [] rfl rfl rfl rfl rfl rfl (Nat.le_of_ble_eq_true rfl) rfl dX6_act_36 ?_
  refine J_if_ne (tgt := 44) 39 dX6_act_39 (by decide) (fun c_3_ => absurd c_3_ (by decide)) (fun _ => ?_)
  refine J_iconst (v := 0) 42 dX6_act_42 rfl ?_
  exact J_iret 43 dX6_act_43 rfl rfl
set_option maxRecDepth 100000 in
set_option maxHeartbeats 4000000 in
theorem c_X6_act_bada_f (l : Launch) (G : Gd) (s : Nat) (a : Int32) (x : Int32) (o : Nat) (rw : Nat) (fr : Nat) (kp : Nat) (tr : Nat) (ik : Int32) (tp : Nat) (tm : Nat) (mso : Int32) (bg : Nat) (en : Nat) (wd : Int64) (va : Int32) (gd : Int32) (rs : Nat) (mu : Nat) (rm : Nat) (ss : Nat) (msz : Nat) (msh : Nat) (mho : Nat) (mhn : Nat) (mhz : Nat) (kd : Int32) (nb : Int32) (tn : Int32) (tc : Nat) (bo : Nat) (ip : Int32) (la : Nat → Int32) (ns : Nat) (sd : Nat) (to : Nat → Int32) (he : Nat → Int32) (sw : Nat → Int32) (nh : Nat) (ki : Nat → Int32) (te : Nat → Int32) (mi : Nat → Int32) (ar : Nat → Int32) (z : Int32) (hof : Nat → Int32) (hnf : Nat → Int32) (hs : s ≤ 3) (hw : ¬ (0 ≤ a ∧ a ≤ 3)) (hho : hof s = 0) (hhn : ¬ (0 ≤ hnf s ∧ hnf s ≤ nI nh - 1)) : Ct l G yX6_act cX6_act 6 (some (FieldType.int)) 8 [.ref o, .int (nI s), .int a, .int x] (wF [wMo o rw fr kp tr ik tp tm mso bg en wd va gd rs mu rm ss msz msh mho mhn mhz kd nb tn tc bo ip, wMr G rw la ns sd to he sw nh ki te mi ar z, wI G mho 4 hof, wI G mhn 4 hnf]) (some (.int 0)) (wF [wMo o rw fr kp tr ik tp tm mso bg en wd va gd rs mu rm ss msz msh mho mhn mhz kd nb tn tc 0 ip, wMr G rw la ns sd to he sw nh ki te mi ar z, wI G mho 4 hof, wI G mhn 4 hnf]) := by
  refine Ct.of "GooseArmsModel" [some (.ref o), some (.int (nI s)), some (.int a), some (.int x), none, none] (by decide +kernel) rfl (Nat.le_of_ble_eq_true rfl) rfl ?_
  refine J_aload_n 0 0 dX6_act_0 rfl rfl ?_
  refine J_iconst (v := 0) 1 dX6_act_1 rfl ?_
  refine p_815 (ws' := (wF [wMo o rw fr kp tr ik tp tm mso bg en wd va gd rs mu rm ss msz msh mho mhn mhz kd nb tn tc 0 ip, wMr G rw la ns sd to he sw nh ki te mi ar z, wI G mho 4 hof, wI G mhn 4 hnf])) 2 0 rfl rfl rfl (Nat.le_of_ble_eq_true rfl) rfl dX6_act_2 ?_
  refine J_iload_n 5 1 dX6_act_5 rfl rfl ?_
  refine kb_RX6_262 (bs' := [wMo o rw fr kp tr ik tp tm mso bg en wd va gd rs mu rm ss msz msh mho mhn mhz kd nb tn tc 0 ip, wMr G rw la ns sd to he sw nh ki te mi ar z, wI G mho 4 hof, wI G mhn 4 hnf]) (rest := []) (st' := [.int 1]) 6 (c_X6_isShelf_t l G s (by first | omega | assumption)) [] rfl rfl [] rfl rfl rfl rfl rfl rfl (Nat.le_of_ble_eq_true rfl) rfl dX6_act_6 ?_
  refine J_if_eq (tgt := 20) 9 dX6_act_9 (by decide) (fun c_1_ => absurd c_1_ (by decide)) (fun _ => ?_)
  refine J_aload_n 12 0 dX6_act_12 rfl rfl ?_
  refine J_iload_n 13 1 dX6_act_13 rfl rfl ?_
  refine kb_RX6_290 (bs' := [wMo o rw fr kp tr ik tp tm mso bg en wd va gd rs mu rm ss msz msh mho mhn mhz kd nb tn tc 0 ip, wMr G rw la ns sd to he sw nh ki te mi ar z, wI G mho 4 hof, wI G mhn 4 hnf]) (rest := []) (st' := [.int (-1)]) 14 (c_X6_kindOn_f l G s o rw fr kp tr ik tp tm mso bg en wd va gd rs mu rm ss msz msh mho mhn mhz kd nb tn tc 0 ip la ns sd to he sw nh ki te mi ar z hof hnf (by first | omega | assumption) (by first | omega | assumption) (by first | omega | assumption)) [0, 1, 2, 3] 0 rfl rfl rfl [[o], [rw], [mho], [mhn]] rfl rfl rfl rfl rfl rfl (Nat.le_of_ble_eq_true rfl) rfl dX6_act_14 ?_
  refine J_goto (tgt := 21) 17 dX6_act_17 (by decide) ?_
  refine J_istore (lv' := [some (.ref o), some (.int (nI s)), some (.int a), some (.int x), some (.int (-1)), none]) 21 dX6_act_21 (by decide) rfl ?_
  refine J_iload_n 23 2 dX6_act_23 rfl rfl ?_
  refine J_iconst (v := 0) 24 dX6_act_24 rfl ?_
  refine J_iconst (v := 3) 25 dX6_act_25 rfl ?_
  refine kb_RX6_57 (bs' := [wMo o rw fr kp tr ik tp tm mso bg en wd va gd rs mu rm ss msz msh mho mhn mhz kd nb tn tc 0 ip, wMr G rw la ns sd to he sw nh ki te mi ar z, wI G mho 4 hof, wI G mhn 4 hnf]) (rest := []) (st' := [.int 0]) 26 (c_X6_in_f l G a 0 3 hw) [] rfl rfl [] rfl rfl rfl rfl rfl rfl (Nat.le_of_ble_eq_true rfl) rfl dX6_act_26 ?_
  refine J_if_eq (tgt := 42) 29 dX6_act_29 (by decide) (fun _ => ?_) (fun c_2_ => absurd c_2_ (by decide))
  refine J_iconst (v := 0) 42 dX6_act_42 rfl ?_
  exact J_iret 43 dX6_act_43 rfl rfl
set_option maxRecDepth 100000 in
set_option maxHeartbeats 4000000 in
theorem c_X6_act_f (l : Launch) (G : Gd) (s : Nat) (a : Int32) (x : Int32) (o : Nat) (rw : Nat) (fr : Nat) (kp : Nat) (tr : Nat) (ik : Int32) (tp : Nat) (tm : Nat) (mso : Int32) (bg : Nat) (en : Nat) (wd : Int64) (va : Int32) (gd : Int32) (rs : Nat) (mu : Nat) (rm : Nat) (ss : Nat) (msz : Nat) (msh : Nat) (mho : Nat) (mhn : Nat) (mhz : Nat) (kd : Int32) (nb : Int32) (tn : Int32) (tc : Nat) (bo : Nat) (ip : Int32) (la : Nat → Int32) (ns : Nat) (sd : Nat) (to : Nat → Int32) (he : Nat → Int32) (sw : Nat → Int32) (nh : Nat) (ki : Nat → Int32) (te : Nat → Int32) (mi : Nat → Int32) (ar : Nat → Int32) (z : Int32) (hof : Nat → Int32) (hnf : Nat → Int32) (hs : s ≤ 3) (hv : 0 ≤ a ∧ a ≤ 3) (hho : hof s = 0) (hhn : ¬ (0 ≤ hnf s ∧ hnf s ≤ nI nh - 1)) : Ct l G yX6_act cX6_act 6 (some (FieldType.int)) 8 [.ref o, .int (nI s), .int a, .int x] (wF [wMo o rw fr kp tr ik tp tm mso bg en wd va gd rs mu rm ss msz msh mho mhn mhz kd nb tn tc bo ip, wMr G rw la ns sd to he sw nh ki te mi ar z, wI G mho 4 hof, wI G mhn 4 hnf]) (some (.int 0)) (wF [wMo o rw fr kp tr ik tp tm mso bg en wd va gd rs mu rm ss msz msh mho mhn mhz kd nb tn tc 0 ip, wMr G rw la ns sd to he sw nh ki te mi ar z, wI G mho 4 hof, wI G mhn 4 hnf]) := by
  refine Ct.of "GooseArmsModel" [some (.ref o), some (.int (nI s)), some (.int a), some (.int x), none, none] (by decide +kernel) rfl (Nat.le_of_ble_eq_true rfl) rfl ?_
  refine J_aload_n 0 0 dX6_act_0 rfl rfl ?_
  refine J_iconst (v := 0) 1 dX6_act_1 rfl ?_
  refine p_815 (ws' := (wF [wMo o rw fr kp tr ik tp tm mso bg en wd va gd rs mu rm ss msz msh mho mhn mhz kd nb tn tc 0 ip, wMr G rw la ns sd to he sw nh ki te mi ar z, wI G mho 4 hof, wI G mhn 4 hnf])) 2 0 rfl rfl rfl (Nat.le_of_ble_eq_true rfl) rfl dX6_act_2 ?_
  refine J_iload_n 5 1 dX6_act_5 rfl rfl ?_
  refine kb_RX6_262 (bs' := [wMo o rw fr kp tr ik tp tm mso bg en wd va gd rs mu rm ss msz msh mho mhn mhz kd nb tn tc 0 ip, wMr G rw la ns sd to he sw nh ki te mi ar z, wI G mho 4 hof, wI G mhn 4 hnf]) (rest := []) (st' := [.int 1]) 6 (c_X6_isShelf_t l G s (by first | omega | assumption)) [] rfl rfl [] rfl rfl rfl rfl rfl rfl (Nat.le_of_ble_eq_true rfl) rfl dX6_act_6 ?_
  refine J_if_eq (tgt := 20) 9 dX6_act_9 (by decide) (fun c_1_ => absurd c_1_ (by decide)) (fun _ => ?_)
  refine J_aload_n 12 0 dX6_act_12 rfl rfl ?_
  refine J_iload_n 13 1 dX6_act_13 rfl rfl ?_
  refine kb_RX6_290 (bs' := [wMo o rw fr kp tr ik tp tm mso bg en wd va gd rs mu rm ss msz msh mho mhn mhz kd nb tn tc 0 ip, wMr G rw la ns sd to he sw nh ki te mi ar z, wI G mho 4 hof, wI G mhn 4 hnf]) (rest := []) (st' := [.int (-1)]) 14 (c_X6_kindOn_f l G s o rw fr kp tr ik tp tm mso bg en wd va gd rs mu rm ss msz msh mho mhn mhz kd nb tn tc 0 ip la ns sd to he sw nh ki te mi ar z hof hnf (by first | omega | assumption) (by first | omega | assumption) (by first | omega | assumption)) [0, 1, 2, 3] 0 rfl rfl rfl [[o], [rw], [mho], [mhn]] rfl rfl rfl rfl rfl rfl (Nat.le_of_ble_eq_true rfl) rfl dX6_act_14 ?_
  refine J_goto (tgt := 21) 17 dX6_act_17 (by decide) ?_
  refine J_istore (lv' := [some (.ref o), some (.int (nI s)), some (.int a), some (.int x), some (.int (-1)), none]) 21 dX6_act_21 (by decide) rfl ?_
  refine J_iload_n 23 2 dX6_act_23 rfl rfl ?_
  refine J_iconst (v := 0) 24 dX6_act_24 rfl ?_
  refine J_iconst (v := 3) 25 dX6_act_25 rfl ?_
  refine kb_RX6_57 (bs' := [wMo o rw fr kp tr ik tp tm mso bg en wd va gd rs mu rm ss msz msh mho mhn mhz kd nb tn tc 0 ip, wMr G rw la ns sd to he sw nh ki te mi ar z, wI G mho 4 hof, wI G mhn 4 hnf]) (rest := []) (st' := [.int 1]) 26 (c_X6_in_t l G a 0 3 hv) [] rfl rfl [] rfl rfl rfl rfl rfl rfl (Nat.le_of_ble_eq_true rfl) rfl dX6_act_26 ?_
  refine J_if_eq (tgt := 42) 29 dX6_act_29 (by decide) (fun c_2_ => absurd c_2_ (by decide)) (fun _ => ?_)
  refine J_iload 32 dX6_act_32 rfl ?_
  refine J_iconst (v := 0) 34 dX6_act_34 rfl ?_
  refine J_iconst (v := 5) 35 dX6_act_35 rfl ?_
  refine kb_RX6_57 (bs' := [wMo o rw fr kp tr ik tp tm mso bg en wd va gd rs mu rm ss msz msh mho mhn mhz kd nb tn tc 0 ip, wMr G rw la ns sd to he sw nh ki te mi ar z, wI G mho 4 hof, wI G mhn 4 hnf]) (rest := []) (st' := [.int 0]) 36 (c_X6_in_f l G (-1) 0 5 (by decide)) [] rfl rfl [] rfl rfl rfl rfl rfl rfl (Nat.le_of_ble_eq_true rfl) rfl dX6_act_36 ?_
  refine J_if_ne (tgt := 44) 39 dX6_act_39 (by decide) (fun c_3_ => absurd c_3_ (by decide)) (fun _ => ?_)
  refine J_iconst (v := 0) 42 dX6_act_42 rfl ?_
  exact J_iret 43 dX6_act_43 rfl rfl
set_option maxRecDepth 100000 in
set_option maxHeartbeats 4000000 in
theorem c_X6_act_bada_h (l : Launch) (G : Gd) (s : Nat) (a : Int32) (x : Int32) (j : Nat) (o : Nat) (rw : Nat) (fr : Nat) (kp : Nat) (tr : Nat) (ik : Int32) (tp : Nat) (tm : Nat) (mso : Int32) (bg : Nat) (en : Nat) (wd : Int64) (va : Int32) (gd : Int32) (rs : Nat) (mu : Nat) (rm : Nat) (ss : Nat) (msz : Nat) (msh : Nat) (mho : Nat) (mhn : Nat) (mhz : Nat) (kd : Int32) (nb : Int32) (tn : Int32) (tc : Nat) (bo : Nat) (ip : Int32) (la : Nat → Int32) (ns : Nat) (sd : Nat) (to : Nat → Int32) (he : Nat → Int32) (sw : Nat → Int32) (nh : Nat) (ki : Nat → Int32) (te : Nat → Int32) (mi : Nat → Int32) (ar : Nat → Int32) (z : Int32) (hof : Nat → Int32) (hnf : Nat → Int32) (hs : s ≤ 3) (hw : ¬ (0 ≤ a ∧ a ≤ 3)) (hho : hof s = 0) (hhn : hnf s = nI j) (hj : j < nh) (hnh : nh ≤ 8) : Ct l G yX6_act cX6_act 6 (some (FieldType.int)) 8 [.ref o, .int (nI s), .int a, .int x] (wF [wMo o rw fr kp tr ik tp tm mso bg en wd va gd rs mu rm ss msz msh mho mhn mhz kd nb tn tc bo ip, wMr G rw la ns sd to he sw nh ki te mi ar z, wI G mho 4 hof, wI G mhn 4 hnf]) (some (.int 0)) (wF [wMo o rw fr kp tr ik tp tm mso bg en wd va gd rs mu rm ss msz msh mho mhn mhz kd nb tn tc 0 ip, wMr G rw la ns sd to he sw nh ki te mi ar z, wI G mho 4 hof, wI G mhn 4 hnf]) := by
  refine Ct.of "GooseArmsModel" [some (.ref o), some (.int (nI s)), some (.int a), some (.int x), none, none] (by decide +kernel) rfl (Nat.le_of_ble_eq_true rfl) rfl ?_
  refine J_aload_n 0 0 dX6_act_0 rfl rfl ?_
  refine J_iconst (v := 0) 1 dX6_act_1 rfl ?_
  refine p_815 (ws' := (wF [wMo o rw fr kp tr ik tp tm mso bg en wd va gd rs mu rm ss msz msh mho mhn mhz kd nb tn tc 0 ip, wMr G rw la ns sd to he sw nh ki te mi ar z, wI G mho 4 hof, wI G mhn 4 hnf])) 2 0 rfl rfl rfl (Nat.le_of_ble_eq_true rfl) rfl dX6_act_2 ?_
  refine J_iload_n 5 1 dX6_act_5 rfl rfl ?_
  refine kb_RX6_262 (bs' := [wMo o rw fr kp tr ik tp tm mso bg en wd va gd rs mu rm ss msz msh mho mhn mhz kd nb tn tc 0 ip, wMr G rw la ns sd to he sw nh ki te mi ar z, wI G mho 4 hof, wI G mhn 4 hnf]) (rest := []) (st' := [.int 1]) 6 (c_X6_isShelf_t l G s (by first | omega | assumption)) [] rfl rfl [] rfl rfl rfl rfl rfl rfl (Nat.le_of_ble_eq_true rfl) rfl dX6_act_6 ?_
  refine J_if_eq (tgt := 20) 9 dX6_act_9 (by decide) (fun c_1_ => absurd c_1_ (by decide)) (fun _ => ?_)
  refine J_aload_n 12 0 dX6_act_12 rfl rfl ?_
  refine J_iload_n 13 1 dX6_act_13 rfl rfl ?_
  refine kb_RX6_290 (bs' := [wMo o rw fr kp tr ik tp tm mso bg en wd va gd rs mu rm ss msz msh mho mhn mhz kd nb tn tc 0 ip, wMr G rw la ns sd to he sw nh ki te mi ar z, wI G mho 4 hof, wI G mhn 4 hnf]) (rest := []) (st' := [.int (ki j)]) 14 (c_X6_kindOn_h l G s j o rw fr kp tr ik tp tm mso bg en wd va gd rs mu rm ss msz msh mho mhn mhz kd nb tn tc 0 ip la ns sd to he sw nh ki te mi ar z hof hnf (by first | omega | assumption) (by first | omega | assumption) (by first | omega | assumption) (by first | omega | assumption) (by first | omega | assumption)) [0, 1, 2, 3] 0 rfl rfl rfl [[o], [rw], [mho], [mhn]] rfl rfl rfl rfl rfl rfl (Nat.le_of_ble_eq_true rfl) rfl dX6_act_14 ?_
  refine J_goto (tgt := 21) 17 dX6_act_17 (by decide) ?_
  refine J_istore (lv' := [some (.ref o), some (.int (nI s)), some (.int a), some (.int x), some (.int (ki j)), none]) 21 dX6_act_21 (by decide) rfl ?_
  refine J_iload_n 23 2 dX6_act_23 rfl rfl ?_
  refine J_iconst (v := 0) 24 dX6_act_24 rfl ?_
  refine J_iconst (v := 3) 25 dX6_act_25 rfl ?_
  refine kb_RX6_57 (bs' := [wMo o rw fr kp tr ik tp tm mso bg en wd va gd rs mu rm ss msz msh mho mhn mhz kd nb tn tc 0 ip, wMr G rw la ns sd to he sw nh ki te mi ar z, wI G mho 4 hof, wI G mhn 4 hnf]) (rest := []) (st' := [.int 0]) 26 (c_X6_in_f l G a 0 3 hw) [] rfl rfl [] rfl rfl rfl rfl rfl rfl (Nat.le_of_ble_eq_true rfl) rfl dX6_act_26 ?_
  refine J_if_eq (tgt := 42) 29 dX6_act_29 (by decide) (fun _ => ?_) (fun c_2_ => absurd c_2_ (by decide))
  refine J_iconst (v := 0) 42 dX6_act_42 rfl ?_
  exact J_iret 43 dX6_act_43 rfl rfl
set_option maxRecDepth 100000 in
set_option maxHeartbeats 4000000 in
theorem c_X6_act_0_0 (l : Launch) (G : Gd) (s : Nat) (x : Int32) (j : Nat) (o : Nat) (rw : Nat) (fr : Nat) (kp : Nat) (tr : Nat) (ik : Int32) (tp : Nat) (tm : Nat) (mso : Int32) (bg : Nat) (en : Nat) (wd : Int64) (va : Int32) (gd : Int32) (rs : Nat) (mu : Nat) (rm : Nat) (ss : Nat) (msz : Nat) (msh : Nat) (mho : Nat) (mhn : Nat) (mhz : Nat) (kd : Int32) (nb : Int32) (tn : Int32) (tc : Nat) (bo : Nat) (ip : Int32) (la : Nat → Int32) (ns : Nat) (sd : Nat) (to : Nat → Int32) (he : Nat → Int32) (sw : Nat → Int32) (nh : Nat) (ki : Nat → Int32) (te : Nat → Int32) (mi : Nat → Int32) (ar : Nat → Int32) (z : Int32) (hof : Nat → Int32) (hnf : Nat → Int32) (tcf : Nat → Int32) (hs : s ≤ 3) (hho : hof s = 0) (hhn : hnf s = nI j) (hj : j < nh) (hnh : nh ≤ 8) (hk : ki j = 0) : Ct l G yX6_act cX6_act 6 (some (FieldType.int)) 8 [.ref o, .int (nI s), .int 0, .int x] (wF [wMo o rw fr kp tr ik tp tm mso bg en wd va gd rs mu rm ss msz msh mho mhn mhz kd nb tn tc bo ip, wMr G rw la ns sd to he sw nh ki te mi ar z, wI G mho 4 hof, wI G mhn 4 hnf, wI G tc 30 tcf]) (some (.int (x * 5 + (nI j)))) (wF [wMo o rw fr kp tr ik tp tm mso bg en wd va gd rs mu rm ss msz msh mho mhn mhz 0 (nI j) (te j) tc 1 0, wMr G rw la ns sd to he sw nh ki te mi ar z, wI G mho 4 hof, wI G mhn 4 hnf, wI G tc 30 (pF [10] tcf 0)]) := by
  refine Ct.of "GooseArmsModel" [some (.ref o), some (.int (nI s)), some (.int 0), some (.int x), none, none] (by decide +kernel) rfl (Nat.le_of_ble_eq_true rfl) rfl ?_
  refine J_aload_n 0 0 dX6_act_0 rfl rfl ?_
  refine J_iconst (v := 0) 1 dX6_act_1 rfl ?_
  refine p_815 (ws' := (wF [wMo o rw fr kp tr ik tp tm mso bg en wd va gd rs mu rm ss msz msh mho mhn mhz kd nb tn tc 0 ip, wMr G rw la ns sd to he sw nh ki te mi ar z, wI G mho 4 hof, wI G mhn 4 hnf, wI G tc 30 tcf])) 2 0 rfl rfl rfl (Nat.le_of_ble_eq_true rfl) rfl dX6_act_2 ?_
  refine J_iload_n 5 1 dX6_act_5 rfl rfl ?_
  refine kb_RX6_262 (bs' := [wMo o rw fr kp tr ik tp tm mso bg en wd va gd rs mu rm ss msz msh mho mhn mhz kd nb tn tc 0 ip, wMr G rw la ns sd to he sw nh ki te mi ar z, wI G mho 4 hof, wI G mhn 4 hnf, wI G tc 30 tcf]) (rest := []) (st' := [.int 1]) 6 (c_X6_isShelf_t l G s (by first | omega | assumption)) [] rfl rfl [] rfl rfl rfl rfl rfl rfl (Nat.le_of_ble_eq_true rfl) rfl dX6_act_6 ?_
  refine J_if_eq (tgt := 20) 9 dX6_act_9 (by decide) (fun c_1_ => absurd c_1_ (by decide)) (fun _ => ?_)
  refine J_aload_n 12 0 dX6_act_12 rfl rfl ?_
  refine J_iload_n 13 1 dX6_act_13 rfl rfl ?_
  refine kb_RX6_290 (bs' := [wMo o rw fr kp tr ik tp tm mso bg en wd va gd rs mu rm ss msz msh mho mhn mhz kd nb tn tc 0 ip, wMr G rw la ns sd to he sw nh ki te mi ar z, wI G mho 4 hof, wI G mhn 4 hnf, wI G tc 30 tcf]) (rest := []) (st' := [.int (ki j)]) 14 (c_X6_kindOn_h l G s j o rw fr kp tr ik tp tm mso bg en wd va gd rs mu rm ss msz msh mho mhn mhz kd nb tn tc 0 ip la ns sd to he sw nh ki te mi ar z hof hnf (by first | omega | assumption) (by first | omega | assumption) (by first | omega | assumption) (by first | omega | assumption) (by first | omega | assumption)) [0, 1, 2, 3] 0 rfl rfl rfl [[o], [rw], [mho], [mhn]] rfl rfl rfl rfl rfl rfl (Nat.le_of_ble_eq_true rfl) rfl dX6_act_14 ?_
  refine J_topi (y := 0) 17 hk ?_
  refine J_goto (tgt := 21) 17 dX6_act_17 (by decide) ?_
  refine J_istore (lv' := [some (.ref o), some (.int (nI s)), some (.int 0), some (.int x), some (.int 0), none]) 21 dX6_act_21 (by decide) rfl ?_
  refine J_iload_n 23 2 dX6_act_23 rfl rfl ?_
  refine J_iconst (v := 0) 24 dX6_act_24 rfl ?_
  refine J_iconst (v := 3) 25 dX6_act_25 rfl ?_
  refine kb_RX6_57 (bs' := [wMo o rw fr kp tr ik tp tm mso bg en wd va gd rs mu rm ss msz msh mho mhn mhz kd nb tn tc 0 ip, wMr G rw la ns sd to he sw nh ki te mi ar z, wI G mho 4 hof, wI G mhn 4 hnf, wI G tc 30 tcf]) (rest := []) (st' := [.int 1]) 26 (c_X6_in_t l G 0 0 3 (by decide)) [] rfl rfl [] rfl rfl rfl rfl rfl rfl (Nat.le_of_ble_eq_true rfl) rfl dX6_act_26 ?_
  refine J_if_eq (tgt := 42) 29 dX6_act_29 (by decide) (fun c_2_ => absurd c_2_ (by decide)) (fun _ => ?_)
  refine J_iload 32 dX6_act_32 rfl ?_
  refine J_iconst (v := 0) 34 dX6_act_34 rfl ?_
  refine J_iconst (v := 5) 35 dX6_act_35 rfl ?_
  refine kb_RX6_57 (bs' := [wMo o rw fr kp tr ik tp tm mso bg en wd va gd rs mu rm ss msz msh mho mhn mhz kd nb tn tc 0 ip, wMr G rw la ns sd to he sw nh ki te mi ar z, wI G mho 4 hof, wI G mhn 4 hnf, wI G tc 30 tcf]) (rest := []) (st' := [.int 1]) 36 (c_X6_in_t l G 0 0 5 (by decide)) [] rfl rfl [] rfl rfl rfl rfl rfl rfl (Nat.le_of_ble_eq_true rfl) rfl dX6_act_36 ?_
  refine J_if_ne (tgt := 44) 39 dX6_act_39 (by decide) (fun _ => ?_) (fun c_3_ => absurd c_3_ (by decide))
  refine J_aload_n 44 0 dX6_act_44 rfl rfl ?_
  refine J_iload 45 dX6_act_45 rfl ?_
  refine p_811 (ws' := (wF [wMo o rw fr kp tr ik tp tm mso bg en wd va gd rs mu rm ss msz msh mho mhn mhz 0 nb tn tc 0 ip, wMr G rw la ns sd to he sw nh ki te mi ar z, wI G mho 4 hof, wI G mhn 4 hnf, wI G tc 30 tcf])) 47 0 rfl rfl rfl (Nat.le_of_ble_eq_true rfl) rfl dX6_act_47 ?_
  refine J_aload_n 50 0 dX6_act_50 rfl rfl ?_
  refine J_aload_n 51 0 dX6_act_51 rfl rfl ?_
  refine g_809 (v := .ref mhn) 52 0 rfl rfl dX6_act_52 ?_
  refine J_iload_n 55 1 dX6_act_55 rfl rfl ?_
  refine J_iald 56 3 s rfl rfl (by omega) (by decide) dX6_act_56 ?_
  refine J_topi (y := nI j) 57 hhn ?_
  refine p_812 (ws' := (wF [wMo o rw fr kp tr ik tp tm mso bg en wd va gd rs mu rm ss msz msh mho mhn mhz 0 (nI j) tn tc 0 ip, wMr G rw la ns sd to he sw nh ki te mi ar z, wI G mho 4 hof, wI G mhn 4 hnf, wI G tc 30 tcf])) 57 0 rfl rfl rfl (Nat.le_of_ble_eq_true rfl) rfl dX6_act_57 ?_
  refine J_aload_n 60 0 dX6_act_60 rfl rfl ?_
  refine J_aload_n 61 0 dX6_act_61 rfl rfl ?_
  refine J_aload_n 62 0 dX6_act_62 rfl rfl ?_
  refine g_812 (v := .int (nI j)) 63 0 rfl rfl dX6_act_63 ?_
  refine J_iconst (v := 1) 66 dX6_act_66 rfl ?_
  refine kb_RX6_187 (bs' := [wMo o rw fr kp tr ik tp tm mso bg en wd va gd rs mu rm ss msz msh mho mhn mhz 0 (nI j) tn tc 0 ip, wMr G rw la ns sd to he sw nh ki te mi ar z, wI G mho 4 hof, wI G mhn 4 hnf, wI G tc 30 tcf]) (rest := [.ref o]) (st' := [.int (te j), .ref o]) 67 (c_X6_its_1 l G j o rw fr kp tr ik tp tm mso bg en wd va gd rs mu rm ss msz msh mho mhn mhz 0 (nI j) tn tc 0 ip la ns sd to he sw nh ki te mi ar z (by first | omega | assumption)) [0, 1] 0 rfl rfl rfl [[o], [rw]] rfl rfl rfl rfl rfl rfl (Nat.le_of_ble_eq_true rfl) rfl dX6_act_67 ?_
  refine p_813 (ws' := (wF [wMo o rw fr kp tr ik tp tm mso bg en wd va gd rs mu rm ss msz msh mho mhn mhz 0 (nI j) (te j) tc 0 ip, wMr G rw la ns sd to he sw nh ki te mi ar z, wI G mho 4 hof, wI G mhn 4 hnf, wI G tc 30 tcf])) 70 0 rfl rfl rfl (Nat.le_of_ble_eq_true rfl) rfl dX6_act_70 ?_
  refine J_aload_n 73 0 dX6_act_73 rfl rfl ?_
  refine J_iconst (v := 0) 74 dX6_act_74 rfl ?_
  refine p_816 (ws' := (wF [wMo o rw fr kp tr ik tp tm mso bg en wd va gd rs mu rm ss msz msh mho mhn mhz 0 (nI j) (te j) tc 0 0, wMr G rw la ns sd to he sw nh ki te mi ar z, wI G mho 4 hof, wI G mhn 4 hnf, wI G tc 30 tcf])) 75 0 rfl rfl rfl (Nat.le_of_ble_eq_true rfl) rfl dX6_act_75 ?_
  refine J_iload_n 78 2 dX6_act_78 rfl rfl ?_
  refine J_if_ne (tgt := 90) 79 dX6_act_79 (by decide) (fun c_4_ => absurd c_4_ (by decide)) (fun _ => ?_)
  refine J_aload_n 82 0 dX6_act_82 rfl rfl ?_
  refine J_iload_n 83 3 dX6_act_83 rfl rfl ?_
  refine kb_RX6_317 (bs' := [wMo o rw fr kp tr ik tp tm mso bg en wd va gd rs mu rm ss msz msh mho mhn mhz 0 (nI j) (te j) tc (0 + 1) 0, wMr G rw la ns sd to he sw nh ki te mi ar z, wI G mho 4 hof, wI G mhn 4 hnf, wI G tc 30 (pF [10] tcf 0)]) (rest := []) (st' := [.int (x * 5 + (nI j))]) 84 (c_X6_shakesIt_0 l G x o rw fr kp tr ik tp tm mso bg en wd va gd rs mu rm ss msz msh mho mhn mhz (nI j) (te j) tc 0 tcf (by decide)) [0, 4] 0 rfl rfl rfl [[o], [tc]] rfl rfl rfl rfl rfl rfl (Nat.le_of_ble_eq_true rfl) rfl dX6_act_84 ?_
  refine J_goto (tgt := 121) 87 dX6_act_87 (by decide) ?_
  refine J_istore (lv' := [some (.ref o), some (.int (nI s)), some (.int 0), some (.int x), some (.int 0), some (.int (x * 5 + (nI j)))]) 121 dX6_act_121 (by decide) rfl ?_
  refine J_aload_n 123 0 dX6_act_123 rfl rfl ?_
  refine g_816 (v := .int 0) 124 0 rfl rfl dX6_act_124 ?_
  refine J_if_eq (tgt := 135) 127 dX6_act_127 (by decide) (fun _ => ?_) (fun c_5_ => absurd c_5_ (by decide))
  refine J_iload 135 dX6_act_135 rfl ?_
  exact J_iret 137 dX6_act_137 rfl (cg1 (fun (x0_ : Nat) => (wF [wMo o rw fr kp tr ik tp tm mso bg en wd va gd rs mu rm ss msz msh mho mhn mhz 0 (nI j) (te j) tc x0_ 0, wMr G rw la ns sd to he sw nh ki te mi ar z, wI G mho 4 hof, wI G mhn 4 hnf, wI G tc 30 (pF [10] tcf 0)])) (0 + 1) 1 rfl)
set_option maxRecDepth 100000 in
set_option maxHeartbeats 4000000 in
theorem c_X6_act_0_1 (l : Launch) (G : Gd) (s : Nat) (x : Int32) (j : Nat) (o : Nat) (rw : Nat) (fr : Nat) (kp : Nat) (tr : Nat) (ik : Int32) (tp : Nat) (tm : Nat) (mso : Int32) (bg : Nat) (en : Nat) (wd : Int64) (va : Int32) (gd : Int32) (rs : Nat) (mu : Nat) (rm : Nat) (ss : Nat) (msz : Nat) (msh : Nat) (mho : Nat) (mhn : Nat) (mhz : Nat) (kd : Int32) (nb : Int32) (tn : Int32) (tc : Nat) (bo : Nat) (ip : Int32) (la : Nat → Int32) (ns : Nat) (sd : Nat) (to : Nat → Int32) (he : Nat → Int32) (sw : Nat → Int32) (nh : Nat) (ki : Nat → Int32) (te : Nat → Int32) (mi : Nat → Int32) (ar : Nat → Int32) (z : Int32) (hof : Nat → Int32) (hnf : Nat → Int32) (tcf : Nat → Int32) (hs : s ≤ 3) (hho : hof s = 0) (hhn : hnf s = nI j) (hj : j < nh) (hnh : nh ≤ 8) (hk : ki j = 0) : Ct l G yX6_act cX6_act 6 (some (FieldType.int)) 8 [.ref o, .int (nI s), .int 1, .int x] (wF [wMo o rw fr kp tr ik tp tm mso bg en wd va gd rs mu rm ss msz msh mho mhn mhz kd nb tn tc bo ip, wMr G rw la ns sd to he sw nh ki te mi ar z, wI G mho 4 hof, wI G mhn 4 hnf, wI G tc 30 tcf]) (some (.int ((x * 5 + (nI j)) - (te j)))) (wF [wMo o rw fr kp tr ik tp tm mso bg en wd va gd rs mu rm ss msz msh mho mhn mhz 0 (nI j) (te j) tc 2 0, wMr G rw la ns sd to he sw nh ki te mi ar z, wI G mho 4 hof, wI G mhn 4 hnf, wI G tc 30 (pF [11, 10] tcf 0)]) := by
  refine Ct.of "GooseArmsModel" [some (.ref o), some (.int (nI s)), some (.int 1), some (.int x), none, none] (by decide +kernel) rfl (Nat.le_of_ble_eq_true rfl) rfl ?_
  refine J_aload_n 0 0 dX6_act_0 rfl rfl ?_
  refine J_iconst (v := 0) 1 dX6_act_1 rfl ?_
  refine p_815 (ws' := (wF [wMo o rw fr kp tr ik tp tm mso bg en wd va gd rs mu rm ss msz msh mho mhn mhz kd nb tn tc 0 ip, wMr G rw la ns sd to he sw nh ki te mi ar z, wI G mho 4 hof, wI G mhn 4 hnf, wI G tc 30 tcf])) 2 0 rfl rfl rfl (Nat.le_of_ble_eq_true rfl) rfl dX6_act_2 ?_
  refine J_iload_n 5 1 dX6_act_5 rfl rfl ?_
  refine kb_RX6_262 (bs' := [wMo o rw fr kp tr ik tp tm mso bg en wd va gd rs mu rm ss msz msh mho mhn mhz kd nb tn tc 0 ip, wMr G rw la ns sd to he sw nh ki te mi ar z, wI G mho 4 hof, wI G mhn 4 hnf, wI G tc 30 tcf]) (rest := []) (st' := [.int 1]) 6 (c_X6_isShelf_t l G s (by first | omega | assumption)) [] rfl rfl [] rfl rfl rfl rfl rfl rfl (Nat.le_of_ble_eq_true rfl) rfl dX6_act_6 ?_
  refine J_if_eq (tgt := 20) 9 dX6_act_9 (by decide) (fun c_1_ => absurd c_1_ (by decide)) (fun _ => ?_)
  refine J_aload_n 12 0 dX6_act_12 rfl rfl ?_
  refine J_iload_n 13 1 dX6_act_13 rfl rfl ?_
  refine kb_RX6_290 (bs' := [wMo o rw fr kp tr ik tp tm mso bg en wd va gd rs mu rm ss msz msh mho mhn mhz kd nb tn tc 0 ip, wMr G rw la ns sd to he sw nh ki te mi ar z, wI G mho 4 hof, wI G mhn 4 hnf, wI G tc 30 tcf]) (rest := []) (st' := [.int (ki j)]) 14 (c_X6_kindOn_h l G s j o rw fr kp tr ik tp tm mso bg en wd va gd rs mu rm ss msz msh mho mhn mhz kd nb tn tc 0 ip la ns sd to he sw nh ki te mi ar z hof hnf (by first | omega | assumption) (by first | omega | assumption) (by first | omega | assumption) (by first | omega | assumption) (by first | omega | assumption)) [0, 1, 2, 3] 0 rfl rfl rfl [[o], [rw], [mho], [mhn]] rfl rfl rfl rfl rfl rfl (Nat.le_of_ble_eq_true rfl) rfl dX6_act_14 ?_
  refine J_topi (y := 0) 17 hk ?_
  refine J_goto (tgt := 21) 17 dX6_act_17 (by decide) ?_
  refine J_istore (lv' := [some (.ref o), some (.int (nI s)), some (.int 1), some (.int x), some (.int 0), none]) 21 dX6_act_21 (by decide) rfl ?_
  refine J_iload_n 23 2 dX6_act_23 rfl rfl ?_
  refine J_iconst (v := 0) 24 dX6_act_24 rfl ?_
  refine J_iconst (v := 3) 25 dX6_act_25 rfl ?_
  refine kb_RX6_57 (bs' := [wMo o rw fr kp tr ik tp tm mso bg en wd va gd rs mu rm ss msz msh mho mhn mhz kd nb tn tc 0 ip, wMr G rw la ns sd to he sw nh ki te mi ar z, wI G mho 4 hof, wI G mhn 4 hnf, wI G tc 30 tcf]) (rest := []) (st' := [.int 1]) 26 (c_X6_in_t l G 1 0 3 (by decide)) [] rfl rfl [] rfl rfl rfl rfl rfl rfl (Nat.le_of_ble_eq_true rfl) rfl dX6_act_26 ?_
  refine J_if_eq (tgt := 42) 29 dX6_act_29 (by decide) (fun c_2_ => absurd c_2_ (by decide)) (fun _ => ?_)
  refine J_iload 32 dX6_act_32 rfl ?_
  refine J_iconst (v := 0) 34 dX6_act_34 rfl ?_
  refine J_iconst (v := 5) 35 dX6_act_35 rfl ?_
  refine kb_RX6_57 (bs' := [wMo o rw fr kp tr ik tp tm mso bg en wd va gd rs mu rm ss msz msh mho mhn mhz kd nb tn tc 0 ip, wMr G rw la ns sd to he sw nh ki te mi ar z, wI G mho 4 hof, wI G mhn 4 hnf, wI G tc 30 tcf]) (rest := []) (st' := [.int 1]) 36 (c_X6_in_t l G 0 0 5 (by decide)) [] rfl rfl [] rfl rfl rfl rfl rfl rfl (Nat.le_of_ble_eq_true rfl) rfl dX6_act_36 ?_
  refine J_if_ne (tgt := 44) 39 dX6_act_39 (by decide) (fun _ => ?_) (fun c_3_ => absurd c_3_ (by decide))
  refine J_aload_n 44 0 dX6_act_44 rfl rfl ?_
  refine J_iload 45 dX6_act_45 rfl ?_
  refine p_811 (ws' := (wF [wMo o rw fr kp tr ik tp tm mso bg en wd va gd rs mu rm ss msz msh mho mhn mhz 0 nb tn tc 0 ip, wMr G rw la ns sd to he sw nh ki te mi ar z, wI G mho 4 hof, wI G mhn 4 hnf, wI G tc 30 tcf])) 47 0 rfl rfl rfl (Nat.le_of_ble_eq_true rfl) rfl dX6_act_47 ?_
  refine J_aload_n 50 0 dX6_act_50 rfl rfl ?_
  refine J_aload_n 51 0 dX6_act_51 rfl rfl ?_
  refine g_809 (v := .ref mhn) 52 0 rfl rfl dX6_act_52 ?_
  refine J_iload_n 55 1 dX6_act_55 rfl rfl ?_
  refine J_iald 56 3 s rfl rfl (by omega) (by decide) dX6_act_56 ?_
  refine J_topi (y := nI j) 57 hhn ?_
  refine p_812 (ws' := (wF [wMo o rw fr kp tr ik tp tm mso bg en wd va gd rs mu rm ss msz msh mho mhn mhz 0 (nI j) tn tc 0 ip, wMr G rw la ns sd to he sw nh ki te mi ar z, wI G mho 4 hof, wI G mhn 4 hnf, wI G tc 30 tcf])) 57 0 rfl rfl rfl (Nat.le_of_ble_eq_true rfl) rfl dX6_act_57 ?_
  refine J_aload_n 60 0 dX6_act_60 rfl rfl ?_
  refine J_aload_n 61 0 dX6_act_61 rfl rfl ?_
  refine J_aload_n 62 0 dX6_act_62 rfl rfl ?_
  refine g_812 (v := .int (nI j)) 63 0 rfl rfl dX6_act_63 ?_
  refine J_iconst (v := 1) 66 dX6_act_66 rfl ?_
  refine kb_RX6_187 (bs' := [wMo o rw fr kp tr ik tp tm mso bg en wd va gd rs mu rm ss msz msh mho mhn mhz 0 (nI j) tn tc 0 ip, wMr G rw la ns sd to he sw nh ki te mi ar z, wI G mho 4 hof, wI G mhn 4 hnf, wI G tc 30 tcf]) (rest := [.ref o]) (st' := [.int (te j), .ref o]) 67 (c_X6_its_1 l G j o rw fr kp tr ik tp tm mso bg en wd va gd rs mu rm ss msz msh mho mhn mhz 0 (nI j) tn tc 0 ip la ns sd to he sw nh ki te mi ar z (by first | omega | assumption)) [0, 1] 0 rfl rfl rfl [[o], [rw]] rfl rfl rfl rfl rfl rfl (Nat.le_of_ble_eq_true rfl) rfl dX6_act_67 ?_
  refine p_813 (ws' := (wF [wMo o rw fr kp tr ik tp tm mso bg en wd va gd rs mu rm ss msz msh mho mhn mhz 0 (nI j) (te j) tc 0 ip, wMr G rw la ns sd to he sw nh ki te mi ar z, wI G mho 4 hof, wI G mhn 4 hnf, wI G tc 30 tcf])) 70 0 rfl rfl rfl (Nat.le_of_ble_eq_true rfl) rfl dX6_act_70 ?_
  refine J_aload_n 73 0 dX6_act_73 rfl rfl ?_
  refine J_iconst (v := 0) 74 dX6_act_74 rfl ?_
  refine p_816 (ws' := (wF [wMo o rw fr kp tr ik tp tm mso bg en wd va gd rs mu rm ss msz msh mho mhn mhz 0 (nI j) (te j) tc 0 0, wMr G rw la ns sd to he sw nh ki te mi ar z, wI G mho 4 hof, wI G mhn 4 hnf, wI G tc 30 tcf])) 75 0 rfl rfl rfl (Nat.le_of_ble_eq_true rfl) rfl dX6_act_75 ?_
  refine J_iload_n 78 2 dX6_act_78 rfl rfl ?_
  refine J_if_ne (tgt := 90) 79 dX6_act_79 (by decide) (fun _ => ?_) (fun c_4_ => absurd c_4_ (by decide))
  refine J_iload_n 90 2 dX6_act_90 rfl rfl ?_
  refine J_iconst (v := 1) 91 dX6_act_91 rfl ?_
  refine J_icmp_ne (tgt := 103) 92 dX6_act_92 (by decide) (fun c_5_ => absurd c_5_ (by decide)) (fun _ => ?_)
  refine J_aload_n 95 0 dX6_act_95 rfl rfl ?_
  refine J_iload_n 96 3 dX6_act_96 rfl rfl ?_
  refine kb_RX6_329 (bs' := [wMo o rw fr kp tr ik tp tm mso bg en wd va gd rs mu rm ss msz msh mho mhn mhz 0 (nI j) (te j) tc (0 + 2) 0, wMr G rw la ns sd to he sw nh ki te mi ar z, wI G mho 4 hof, wI G mhn 4 hnf, wI G tc 30 (pF [11, 10] tcf 0)]) (rest := []) (st' := [.int ((x * 5 + (nI j)) - (te j))]) 97 (c_X6_readsIt_0 l G x o rw fr kp tr ik tp tm mso bg en wd va gd rs mu rm ss msz msh mho mhn mhz (nI j) (te j) tc 0 tcf (by decide)) [0, 4] 0 rfl rfl rfl [[o], [tc]] rfl rfl rfl rfl rfl rfl (Nat.le_of_ble_eq_true rfl) rfl dX6_act_97 ?_
  refine J_goto (tgt := 121) 100 dX6_act_100 (by decide) ?_
  refine J_istore (lv' := [some (.ref o), some (.int (nI s)), some (.int 1), some (.int x), some (.int 0), some (.int ((x * 5 + (nI j)) - (te j)))]) 121 dX6_act_121 (by decide) rfl ?_
  refine J_aload_n 123 0 dX6_act_123 rfl rfl ?_
  refine g_816 (v := .int 0) 124 0 rfl rfl dX6_act_124 ?_
  refine J_if_eq (tgt := 135) 127 dX6_act_127 (by decide) (fun _ => ?_) (fun c_6_ => absurd c_6_ (by decide))
  refine J_iload 135 dX6_act_135 rfl ?_
  exact J_iret 137 dX6_act_137 rfl (cg1 (fun (x0_ : Nat) => (wF [wMo o rw fr kp tr ik tp tm mso bg en wd va gd rs mu rm ss msz msh mho mhn mhz 0 (nI j) (te j) tc x0_ 0, wMr G rw la ns sd to he sw nh ki te mi ar z, wI G mho 4 hof, wI G mhn 4 hnf, wI G tc 30 (pF [11, 10] tcf 0)])) (0 + 2) 2 rfl)
set_option maxRecDepth 100000 in
set_option maxHeartbeats 4000000 in
theorem c_X6_act_0_2 (l : Launch) (G : Gd) (s : Nat) (x : Int32) (j : Nat) (o : Nat) (rw : Nat) (fr : Nat) (kp : Nat) (tr : Nat) (ik : Int32) (tp : Nat) (tm : Nat) (mso : Int32) (bg : Nat) (en : Nat) (wd : Int64) (va : Int32) (gd : Int32) (rs : Nat) (mu : Nat) (rm : Nat) (ss : Nat) (msz : Nat) (msh : Nat) (mho : Nat) (mhn : Nat) (mhz : Nat) (kd : Int32) (nb : Int32) (tn : Int32) (tc : Nat) (bo : Nat) (ip : Int32) (la : Nat → Int32) (ns : Nat) (sd : Nat) (to : Nat → Int32) (he : Nat → Int32) (sw : Nat → Int32) (nh : Nat) (ki : Nat → Int32) (te : Nat → Int32) (mi : Nat → Int32) (ar : Nat → Int32) (z : Int32) (hof : Nat → Int32) (hnf : Nat → Int32) (tcf : Nat → Int32) (hs : s ≤ 3) (hho : hof s = 0) (hhn : hnf s = nI j) (hj : j < nh) (hnh : nh ≤ 8) (hk : ki j = 0) (hz : ¬ te j = nI j) : Ct l G yX6_act cX6_act 6 (some (FieldType.int)) 8 [.ref o, .int (nI s), .int 2, .int x] (wF [wMo o rw fr kp tr ik tp tm mso bg en wd va gd rs mu rm ss msz msh mho mhn mhz kd nb tn tc bo ip, wMr G rw la ns sd to he sw nh ki te mi ar z, wI G mho 4 hof, wI G mhn 4 hnf, wI G tc 30 tcf]) (some (.int (x / ((te j) - (nI j))))) (wF [wMo o rw fr kp tr ik tp tm mso bg en wd va gd rs mu rm ss msz msh mho mhn mhz 0 (nI j) (te j) tc 1 0, wMr G rw la ns sd to he sw nh ki te mi ar z, wI G mho 4 hof, wI G mhn 4 hnf, wI G tc 30 (pF [12] tcf 0)]) := by
  refine Ct.of "GooseArmsModel" [some (.ref o), some (.int (nI s)), some (.int 2), some (.int x), none, none] (by decide +kernel) rfl (Nat.le_of_ble_eq_true rfl) rfl ?_
  refine J_aload_n 0 0 dX6_act_0 rfl rfl ?_
  refine J_iconst (v := 0) 1 dX6_act_1 rfl ?_
  refine p_815 (ws' := (wF [wMo o rw fr kp tr ik tp tm mso bg en wd va gd rs mu rm ss msz msh mho mhn mhz kd nb tn tc 0 ip, wMr G rw la ns sd to he sw nh ki te mi ar z, wI G mho 4 hof, wI G mhn 4 hnf, wI G tc 30 tcf])) 2 0 rfl rfl rfl (Nat.le_of_ble_eq_true rfl) rfl dX6_act_2 ?_
  refine J_iload_n 5 1 dX6_act_5 rfl rfl ?_
  refine kb_RX6_262 (bs' := [wMo o rw fr kp tr ik tp tm mso bg en wd va gd rs mu rm ss msz msh mho mhn mhz kd nb tn tc 0 ip, wMr G rw la ns sd to he sw nh ki te mi ar z, wI G mho 4 hof, wI G mhn 4 hnf, wI G tc 30 tcf]) (rest := []) (st' := [.int 1]) 6 (c_X6_isShelf_t l G s (by first | omega | assumption)) [] rfl rfl [] rfl rfl rfl rfl rfl rfl (Nat.le_of_ble_eq_true rfl) rfl dX6_act_6 ?_
  refine J_if_eq (tgt := 20) 9 dX6_act_9 (by decide) (fun c_1_ => absurd c_1_ (by decide)) (fun _ => ?_)
  refine J_aload_n 12 0 dX6_act_12 rfl rfl ?_
  refine J_iload_n 13 1 dX6_act_13 rfl rfl ?_
  refine kb_RX6_290 (bs' := [wMo o rw fr kp tr ik tp tm mso bg en wd va gd rs mu rm ss msz msh mho mhn mhz kd nb tn tc 0 ip, wMr G rw la ns sd to he sw nh ki te mi ar z, wI G mho 4 hof, wI G mhn 4 hnf, wI G tc 30 tcf]) (rest := []) (st' := [.int (ki j)]) 14 (c_X6_kindOn_h l G s j o rw fr kp tr ik tp tm mso bg en wd va gd rs mu rm ss msz msh mho mhn mhz kd nb tn tc 0 ip la ns sd to he sw nh ki te mi ar z hof hnf (by first | omega | assumption) (by first | omega | assumption) (by first | omega | assumption) (by first | omega | assumption) (by first | omega | assumption)) [0, 1, 2, 3] 0 rfl rfl rfl [[o], [rw], [mho], [mhn]] rfl rfl rfl rfl rfl rfl (Nat.le_of_ble_eq_true rfl) rfl dX6_act_14 ?_
  refine J_topi (y := 0) 17 hk ?_
  refine J_goto (tgt := 21) 17 dX6_act_17 (by decide) ?_
  refine J_istore (lv' := [some (.ref o), some (.int (nI s)), some (.int 2), some (.int x), some (.int 0), none]) 21 dX6_act_21 (by decide) rfl ?_
  refine J_iload_n 23 2 dX6_act_23 rfl rfl ?_
  refine J_iconst (v := 0) 24 dX6_act_24 rfl ?_
  refine J_iconst (v := 3) 25 dX6_act_25 rfl ?_
  refine kb_RX6_57 (bs' := [wMo o rw fr kp tr ik tp tm mso bg en wd va gd rs mu rm ss msz msh mho mhn mhz kd nb tn tc 0 ip, wMr G rw la ns sd to he sw nh ki te mi ar z, wI G mho 4 hof, wI G mhn 4 hnf, wI G tc 30 tcf]) (rest := []) (st' := [.int 1]) 26 (c_X6_in_t l G 2 0 3 (by decide)) [] rfl rfl [] rfl rfl rfl rfl rfl rfl (Nat.le_of_ble_eq_true rfl) rfl dX6_act_26 ?_
  refine J_if_eq (tgt := 42) 29 dX6_act_29 (by decide) (fun c_2_ => absurd c_2_ (by decide)) (fun _ => ?_)
  refine J_iload 32 dX6_act_32 rfl ?_
  refine J_iconst (v := 0) 34 dX6_act_34 rfl ?_
  refine J_iconst (v := 5) 35 dX6_act_35 rfl ?_
  refine kb_RX6_57 (bs' := [wMo o rw fr kp tr ik tp tm mso bg en wd va gd rs mu rm ss msz msh mho mhn mhz kd nb tn tc 0 ip, wMr G rw la ns sd to he sw nh ki te mi ar z, wI G mho 4 hof, wI G mhn 4 hnf, wI G tc 30 tcf]) (rest := []) (st' := [.int 1]) 36 (c_X6_in_t l G 0 0 5 (by decide)) [] rfl rfl [] rfl rfl rfl rfl rfl rfl (Nat.le_of_ble_eq_true rfl) rfl dX6_act_36 ?_
  refine J_if_ne (tgt := 44) 39 dX6_act_39 (by decide) (fun _ => ?_) (fun c_3_ => absurd c_3_ (by decide))
  refine J_aload_n 44 0 dX6_act_44 rfl rfl ?_
  refine J_iload 45 dX6_act_45 rfl ?_
  refine p_811 (ws' := (wF [wMo o rw fr kp tr ik tp tm mso bg en wd va gd rs mu rm ss msz msh mho mhn mhz 0 nb tn tc 0 ip, wMr G rw la ns sd to he sw nh ki te mi ar z, wI G mho 4 hof, wI G mhn 4 hnf, wI G tc 30 tcf])) 47 0 rfl rfl rfl (Nat.le_of_ble_eq_true rfl) rfl dX6_act_47 ?_
  refine J_aload_n 50 0 dX6_act_50 rfl rfl ?_
  refine J_aload_n 51 0 dX6_act_51 rfl rfl ?_
  refine g_809 (v := .ref mhn) 52 0 rfl rfl dX6_act_52 ?_
  refine J_iload_n 55 1 dX6_act_55 rfl rfl ?_
  refine J_iald 56 3 s rfl rfl (by omega) (by decide) dX6_act_56 ?_
  refine J_topi (y := nI j) 57 hhn ?_
  refine p_812 (ws' := (wF [wMo o rw fr kp tr ik tp tm mso bg en wd va gd rs mu rm ss msz msh mho mhn mhz 0 (nI j) tn tc 0 ip, wMr G rw la ns sd to he sw nh ki te mi ar z, wI G mho 4 hof, wI G mhn 4 hnf, wI G tc 30 tcf])) 57 0 rfl rfl rfl (Nat.le_of_ble_eq_true rfl) rfl dX6_act_57 ?_
  refine J_aload_n 60 0 dX6_act_60 rfl rfl ?_
  refine J_aload_n 61 0 dX6_act_61 rfl rfl ?_
  refine J_aload_n 62 0 dX6_act_62 rfl rfl ?_
  refine g_812 (v := .int (nI j)) 63 0 rfl rfl dX6_act_63 ?_
  refine J_iconst (v := 1) 66 dX6_act_66 rfl ?_
  refine kb_RX6_187 (bs' := [wMo o rw fr kp tr ik tp tm mso bg en wd va gd rs mu rm ss msz msh mho mhn mhz 0 (nI j) tn tc 0 ip, wMr G rw la ns sd to he sw nh ki te mi ar z, wI G mho 4 hof, wI G mhn 4 hnf, wI G tc 30 tcf]) (rest := [.ref o]) (st' := [.int (te j), .ref o]) 67 (c_X6_its_1 l G j o rw fr kp tr ik tp tm mso bg en wd va gd rs mu rm ss msz msh mho mhn mhz 0 (nI j) tn tc 0 ip la ns sd to he sw nh ki te mi ar z (by first | omega | assumption)) [0, 1] 0 rfl rfl rfl [[o], [rw]] rfl rfl rfl rfl rfl rfl (Nat.le_of_ble_eq_true rfl) rfl dX6_act_67 ?_
  refine p_813 (ws' := (wF [wMo o rw fr kp tr ik tp tm mso bg en wd va gd rs mu rm ss msz msh mho mhn mhz 0 (nI j) (te j) tc 0 ip, wMr G rw la ns sd to he sw nh ki te mi ar z, wI G mho 4 hof, wI G mhn 4 hnf, wI G tc 30 tcf])) 70 0 rfl rfl rfl (Nat.le_of_ble_eq_true rfl) rfl dX6_act_70 ?_
  refine J_aload_n 73 0 dX6_act_73 rfl rfl ?_
  refine J_iconst (v := 0) 74 dX6_act_74 rfl ?_
  refine p_816 (ws' := (wF [wMo o rw fr kp tr ik tp tm mso bg en wd va gd rs mu rm ss msz msh mho mhn mhz 0 (nI j) (te j) tc 0 0, wMr G rw la ns sd to he sw nh ki te mi ar z, wI G mho 4 hof, wI G mhn 4 hnf, wI G tc 30 tcf])) 75 0 rfl rfl rfl (Nat.le_of_ble_eq_true rfl) rfl dX6_act_75 ?_
  refine J_iload_n 78 2 dX6_act_78 rfl rfl ?_
  refine J_if_ne (tgt := 90) 79 dX6_act_79 (by decide) (fun _ => ?_) (fun c_4_ => absurd c_4_ (by decide))
  refine J_iload_n 90 2 dX6_act_90 rfl rfl ?_
  refine J_iconst (v := 1) 91 dX6_act_91 rfl ?_
  refine J_icmp_ne (tgt := 103) 92 dX6_act_92 (by decide) (fun _ => ?_) (fun c_5_ => absurd c_5_ (by decide))
  refine J_iload_n 103 2 dX6_act_103 rfl rfl ?_
  refine J_iconst (v := 2) 104 dX6_act_104 rfl ?_
  refine J_icmp_ne (tgt := 116) 105 dX6_act_105 (by decide) (fun c_6_ => absurd c_6_ (by decide)) (fun _ => ?_)
  refine J_aload_n 108 0 dX6_act_108 rfl rfl ?_
  refine J_iload_n 109 3 dX6_act_109 rfl rfl ?_
  refine kb_RX6_335 (bs' := [wMo o rw fr kp tr ik tp tm mso bg en wd va gd rs mu rm ss msz msh mho mhn mhz 0 (nI j) (te j) tc (0 + 1) 0, wMr G rw la ns sd to he sw nh ki te mi ar z, wI G mho 4 hof, wI G mhn 4 hnf, wI G tc 30 (pF [12] tcf 0)]) (rest := []) (st' := [.int (x / ((te j) - (nI j)))]) 110 (c_X6_partsIt_0 l G x o rw fr kp tr ik tp tm mso bg en wd va gd rs mu rm ss msz msh mho mhn mhz (nI j) (te j) tc 0 tcf (by decide) hz) [0, 4] 0 rfl rfl rfl [[o], [tc]] rfl rfl rfl rfl rfl rfl (Nat.le_of_ble_eq_true rfl) rfl dX6_act_110 ?_
  refine J_goto (tgt := 121) 113 dX6_act_113 (by decide) ?_
  refine J_istore (lv' := [some (.ref o), some (.int (nI s)), some (.int 2), some (.int x), some (.int 0), some (.int (x / ((te j) - (nI j))))]) 121 dX6_act_121 (by decide) rfl ?_
  refine J_aload_n 123 0 dX6_act_123 rfl rfl ?_
  refine g_816 (v := .int 0) 124 0 rfl rfl dX6_act_124 ?_
  refine J_if_eq (tgt := 135) 127 dX6_act_127 (by decide) (fun _ => ?_) (fun c_7_ => absurd c_7_ (by decide))
  refine J_iload 135 dX6_act_135 rfl ?_
  exact J_iret 137 dX6_act_137 rfl (cg1 (fun (x0_ : Nat) => (wF [wMo o rw fr kp tr ik tp tm mso bg en wd va gd rs mu rm ss msz msh mho mhn mhz 0 (nI j) (te j) tc x0_ 0, wMr G rw la ns sd to he sw nh ki te mi ar z, wI G mho 4 hof, wI G mhn 4 hnf, wI G tc 30 (pF [12] tcf 0)])) (0 + 1) 1 rfl)
set_option maxRecDepth 100000 in
set_option maxHeartbeats 4000000 in
theorem c_X6_act_0_2z (l : Launch) (G : Gd) (s : Nat) (x : Int32) (j : Nat) (o : Nat) (rw : Nat) (fr : Nat) (kp : Nat) (tr : Nat) (ik : Int32) (tp : Nat) (tm : Nat) (mso : Int32) (bg : Nat) (en : Nat) (wd : Int64) (va : Int32) (gd : Int32) (rs : Nat) (mu : Nat) (rm : Nat) (ss : Nat) (msz : Nat) (msh : Nat) (mho : Nat) (mhn : Nat) (mhz : Nat) (kd : Int32) (nb : Int32) (tn : Int32) (tc : Nat) (bo : Nat) (ip : Int32) (la : Nat → Int32) (ns : Nat) (sd : Nat) (to : Nat → Int32) (he : Nat → Int32) (sw : Nat → Int32) (nh : Nat) (ki : Nat → Int32) (te : Nat → Int32) (mi : Nat → Int32) (ar : Nat → Int32) (z : Int32) (hof : Nat → Int32) (hnf : Nat → Int32) (tcf : Nat → Int32) (hs : s ≤ 3) (hho : hof s = 0) (hhn : hnf s = nI j) (hj : j < nh) (hnh : nh ≤ 8) (hk : ki j = 0) (hz : te j = nI j) : Ct l G yX6_act cX6_act 6 (some (FieldType.int)) 8 [.ref o, .int (nI s), .int 2, .int x] (wF [wMo o rw fr kp tr ik tp tm mso bg en wd va gd rs mu rm ss msz msh mho mhn mhz kd nb tn tc bo ip, wMr G rw la ns sd to he sw nh ki te mi ar z, wI G mho 4 hof, wI G mhn 4 hnf, wI G tc 30 tcf]) (some (.int (-15))) (wF [wMo o rw fr kp tr ik tp tm mso bg en wd va gd rs mu rm ss msz msh mho mhn mhz 0 (nI j) (te j) tc 1 1, wMr G rw la ns sd to he sw nh ki te mi ar z, wI G mho 4 hof, wI G mhn 4 hnf, wI G tc 30 (pF [12] tcf 0)]) := by
  refine Ct.of "GooseArmsModel" [some (.ref o), some (.int (nI s)), some (.int 2), some (.int x), none, none] (by decide +kernel) rfl (Nat.le_of_ble_eq_true rfl) rfl ?_
  refine J_aload_n 0 0 dX6_act_0 rfl rfl ?_
  refine J_iconst (v := 0) 1 dX6_act_1 rfl ?_
  refine p_815 (ws' := (wF [wMo o rw fr kp tr ik tp tm mso bg en wd va gd rs mu rm ss msz msh mho mhn mhz kd nb tn tc 0 ip, wMr G rw la ns sd to he sw nh ki te mi ar z, wI G mho 4 hof, wI G mhn 4 hnf, wI G tc 30 tcf])) 2 0 rfl rfl rfl (Nat.le_of_ble_eq_true rfl) rfl dX6_act_2 ?_
  refine J_iload_n 5 1 dX6_act_5 rfl rfl ?_
  refine kb_RX6_262 (bs' := [wMo o rw fr kp tr ik tp tm mso bg en wd va gd rs mu rm ss msz msh mho mhn mhz kd nb tn tc 0 ip, wMr G rw la ns sd to he sw nh ki te mi ar z, wI G mho 4 hof, wI G mhn 4 hnf, wI G tc 30 tcf]) (rest := []) (st' := [.int 1]) 6 (c_X6_isShelf_t l G s (by first | omega | assumption)) [] rfl rfl [] rfl rfl rfl rfl rfl rfl (Nat.le_of_ble_eq_true rfl) rfl dX6_act_6 ?_
  refine J_if_eq (tgt := 20) 9 dX6_act_9 (by decide) (fun c_1_ => absurd c_1_ (by decide)) (fun _ => ?_)
  refine J_aload_n 12 0 dX6_act_12 rfl rfl ?_
  refine J_iload_n 13 1 dX6_act_13 rfl rfl ?_
  refine kb_RX6_290 (bs' := [wMo o rw fr kp tr ik tp tm mso bg en wd va gd rs mu rm ss msz msh mho mhn mhz kd nb tn tc 0 ip, wMr G rw la ns sd to he sw nh ki te mi ar z, wI G mho 4 hof, wI G mhn 4 hnf, wI G tc 30 tcf]) (rest := []) (st' := [.int (ki j)]) 14 (c_X6_kindOn_h l G s j o rw fr kp tr ik tp tm mso bg en wd va gd rs mu rm ss msz msh mho mhn mhz kd nb tn tc 0 ip la ns sd to he sw nh ki te mi ar z hof hnf (by first | omega | assumption) (by first | omega | assumption) (by first | omega | assumption) (by first | omega | assumption) (by first | omega | assumption)) [0, 1, 2, 3] 0 rfl rfl rfl [[o], [rw], [mho], [mhn]] rfl rfl rfl rfl rfl rfl (Nat.le_of_ble_eq_true rfl) rfl dX6_act_14 ?_
  refine J_topi (y := 0) 17 hk ?_
  refine J_goto (tgt := 21) 17 dX6_act_17 (by decide) ?_
  refine J_istore (lv' := [some (.ref o), some (.int (nI s)), some (.int 2), some (.int x), some (.int 0), none]) 21 dX6_act_21 (by decide) rfl ?_
  refine J_iload_n 23 2 dX6_act_23 rfl rfl ?_
  refine J_iconst (v := 0) 24 dX6_act_24 rfl ?_
  refine J_iconst (v := 3) 25 dX6_act_25 rfl ?_
  refine kb_RX6_57 (bs' := [wMo o rw fr kp tr ik tp tm mso bg en wd va gd rs mu rm ss msz msh mho mhn mhz kd nb tn tc 0 ip, wMr G rw la ns sd to he sw nh ki te mi ar z, wI G mho 4 hof, wI G mhn 4 hnf, wI G tc 30 tcf]) (rest := []) (st' := [.int 1]) 26 (c_X6_in_t l G 2 0 3 (by decide)) [] rfl rfl [] rfl rfl rfl rfl rfl rfl (Nat.le_of_ble_eq_true rfl) rfl dX6_act_26 ?_
  refine J_if_eq (tgt := 42) 29 dX6_act_29 (by decide) (fun c_2_ => absurd c_2_ (by decide)) (fun _ => ?_)
  refine J_iload 32 dX6_act_32 rfl ?_
  refine J_iconst (v := 0) 34 dX6_act_34 rfl ?_
  refine J_iconst (v := 5) 35 dX6_act_35 rfl ?_
  refine kb_RX6_57 (bs' := [wMo o rw fr kp tr ik tp tm mso bg en wd va gd rs mu rm ss msz msh mho mhn mhz kd nb tn tc 0 ip, wMr G rw la ns sd to he sw nh ki te mi ar z, wI G mho 4 hof, wI G mhn 4 hnf, wI G tc 30 tcf]) (rest := []) (st' := [.int 1]) 36 (c_X6_in_t l G 0 0 5 (by decide)) [] rfl rfl [] rfl rfl rfl rfl rfl rfl (Nat.le_of_ble_eq_true rfl) rfl dX6_act_36 ?_
  refine J_if_ne (tgt := 44) 39 dX6_act_39 (by decide) (fun _ => ?_) (fun c_3_ => absurd c_3_ (by decide))
  refine J_aload_n 44 0 dX6_act_44 rfl rfl ?_
  refine J_iload 45 dX6_act_45 rfl ?_
  refine p_811 (ws' := (wF [wMo o rw fr kp tr ik tp tm mso bg en wd va gd rs mu rm ss msz msh mho mhn mhz 0 nb tn tc 0 ip, wMr G rw la ns sd to he sw nh ki te mi ar z, wI G mho 4 hof, wI G mhn 4 hnf, wI G tc 30 tcf])) 47 0 rfl rfl rfl (Nat.le_of_ble_eq_true rfl) rfl dX6_act_47 ?_
  refine J_aload_n 50 0 dX6_act_50 rfl rfl ?_
  refine J_aload_n 51 0 dX6_act_51 rfl rfl ?_
  refine g_809 (v := .ref mhn) 52 0 rfl rfl dX6_act_52 ?_
  refine J_iload_n 55 1 dX6_act_55 rfl rfl ?_
  refine J_iald 56 3 s rfl rfl (by omega) (by decide) dX6_act_56 ?_
  refine J_topi (y := nI j) 57 hhn ?_
  refine p_812 (ws' := (wF [wMo o rw fr kp tr ik tp tm mso bg en wd va gd rs mu rm ss msz msh mho mhn mhz 0 (nI j) tn tc 0 ip, wMr G rw la ns sd to he sw nh ki te mi ar z, wI G mho 4 hof, wI G mhn 4 hnf, wI G tc 30 tcf])) 57 0 rfl rfl rfl (Nat.le_of_ble_eq_true rfl) rfl dX6_act_57 ?_
  refine J_aload_n 60 0 dX6_act_60 rfl rfl ?_
  refine J_aload_n 61 0 dX6_act_61 rfl rfl ?_
  refine J_aload_n 62 0 dX6_act_62 rfl rfl ?_
  refine g_812 (v := .int (nI j)) 63 0 rfl rfl dX6_act_63 ?_
  refine J_iconst (v := 1) 66 dX6_act_66 rfl ?_
  refine kb_RX6_187 (bs' := [wMo o rw fr kp tr ik tp tm mso bg en wd va gd rs mu rm ss msz msh mho mhn mhz 0 (nI j) tn tc 0 ip, wMr G rw la ns sd to he sw nh ki te mi ar z, wI G mho 4 hof, wI G mhn 4 hnf, wI G tc 30 tcf]) (rest := [.ref o]) (st' := [.int (te j), .ref o]) 67 (c_X6_its_1 l G j o rw fr kp tr ik tp tm mso bg en wd va gd rs mu rm ss msz msh mho mhn mhz 0 (nI j) tn tc 0 ip la ns sd to he sw nh ki te mi ar z (by first | omega | assumption)) [0, 1] 0 rfl rfl rfl [[o], [rw]] rfl rfl rfl rfl rfl rfl (Nat.le_of_ble_eq_true rfl) rfl dX6_act_67 ?_
  refine p_813 (ws' := (wF [wMo o rw fr kp tr ik tp tm mso bg en wd va gd rs mu rm ss msz msh mho mhn mhz 0 (nI j) (te j) tc 0 ip, wMr G rw la ns sd to he sw nh ki te mi ar z, wI G mho 4 hof, wI G mhn 4 hnf, wI G tc 30 tcf])) 70 0 rfl rfl rfl (Nat.le_of_ble_eq_true rfl) rfl dX6_act_70 ?_
  refine J_aload_n 73 0 dX6_act_73 rfl rfl ?_
  refine J_iconst (v := 0) 74 dX6_act_74 rfl ?_
  refine p_816 (ws' := (wF [wMo o rw fr kp tr ik tp tm mso bg en wd va gd rs mu rm ss msz msh mho mhn mhz 0 (nI j) (te j) tc 0 0, wMr G rw la ns sd to he sw nh ki te mi ar z, wI G mho 4 hof, wI G mhn 4 hnf, wI G tc 30 tcf])) 75 0 rfl rfl rfl (Nat.le_of_ble_eq_true rfl) rfl dX6_act_75 ?_
  refine J_iload_n 78 2 dX6_act_78 rfl rfl ?_
  refine J_if_ne (tgt := 90) 79 dX6_act_79 (by decide) (fun _ => ?_) (fun c_4_ => absurd c_4_ (by decide))
  refine J_iload_n 90 2 dX6_act_90 rfl rfl ?_
  refine J_iconst (v := 1) 91 dX6_act_91 rfl ?_
  refine J_icmp_ne (tgt := 103) 92 dX6_act_92 (by decide) (fun _ => ?_) (fun c_5_ => absurd c_5_ (by decide))
  refine J_iload_n 103 2 dX6_act_103 rfl rfl ?_
  refine J_iconst (v := 2) 104 dX6_act_104 rfl ?_
  refine J_icmp_ne (tgt := 116) 105 dX6_act_105 (by decide) (fun c_6_ => absurd c_6_ (by decide)) (fun _ => ?_)
  refine J_aload_n 108 0 dX6_act_108 rfl rfl ?_
  refine J_iload_n 109 3 dX6_act_109 rfl rfl ?_
  refine kb_RX6_335 (bs' := [wMo o rw fr kp tr ik tp tm mso bg en wd va gd rs mu rm ss msz msh mho mhn mhz 0 (nI j) (te j) tc (0 + 1) 1, wMr G rw la ns sd to he sw nh ki te mi ar z, wI G mho 4 hof, wI G mhn 4 hnf, wI G tc 30 (pF [12] tcf 0)]) (rest := []) (st' := [.int 0]) 110 (c_X6_partsIt_0z l G x o rw fr kp tr ik tp tm mso bg en wd va gd rs mu rm ss msz msh mho mhn mhz (nI j) (te j) tc 0 tcf (by decide) hz) [0, 4] 0 rfl rfl rfl [[o], [tc]] rfl rfl rfl rfl rfl rfl (Nat.le_of_ble_eq_true rfl) rfl dX6_act_110 ?_
  refine J_goto (tgt := 121) 113 dX6_act_113 (by decide) ?_
  refine J_istore (lv' := [some (.ref o), some (.int (nI s)), some (.int 2), some (.int x), some (.int 0), some (.int 0)]) 121 dX6_act_121 (by decide) rfl ?_
  refine J_aload_n 123 0 dX6_act_123 rfl rfl ?_
  refine g_816 (v := .int 1) 124 0 rfl rfl dX6_act_124 ?_
  refine J_if_eq (tgt := 135) 127 dX6_act_127 (by decide) (fun c_7_ => absurd c_7_ (by decide)) (fun _ => ?_)
  refine J_bipush (v := (-15)) 130 dX6_act_130 rfl ?_
  refine J_goto (tgt := 137) 132 dX6_act_132 (by decide) ?_
  exact J_iret 137 dX6_act_137 rfl (cg1 (fun (x0_ : Nat) => (wF [wMo o rw fr kp tr ik tp tm mso bg en wd va gd rs mu rm ss msz msh mho mhn mhz 0 (nI j) (te j) tc x0_ 1, wMr G rw la ns sd to he sw nh ki te mi ar z, wI G mho 4 hof, wI G mhn 4 hnf, wI G tc 30 (pF [12] tcf 0)])) (0 + 1) 1 rfl)
set_option maxRecDepth 100000 in
set_option maxHeartbeats 4000000 in
theorem c_X6_act_0_3 (l : Launch) (G : Gd) (s : Nat) (x : Int32) (j : Nat) (o : Nat) (rw : Nat) (fr : Nat) (kp : Nat) (tr : Nat) (ik : Int32) (tp : Nat) (tm : Nat) (mso : Int32) (bg : Nat) (en : Nat) (wd : Int64) (va : Int32) (gd : Int32) (rs : Nat) (mu : Nat) (rm : Nat) (ss : Nat) (msz : Nat) (msh : Nat) (mho : Nat) (mhn : Nat) (mhz : Nat) (kd : Int32) (nb : Int32) (tn : Int32) (tc : Nat) (bo : Nat) (ip : Int32) (la : Nat → Int32) (ns : Nat) (sd : Nat) (to : Nat → Int32) (he : Nat → Int32) (sw : Nat → Int32) (nh : Nat) (ki : Nat → Int32) (te : Nat → Int32) (mi : Nat → Int32) (ar : Nat → Int32) (z : Int32) (hof : Nat → Int32) (hnf : Nat → Int32) (tcf : Nat → Int32) (hs : s ≤ 3) (hho : hof s = 0) (hhn : hnf s = nI j) (hj : j < nh) (hnh : nh ≤ 8) (hk : ki j = 0) : Ct l G yX6_act cX6_act 6 (some (FieldType.int)) 8 [.ref o, .int (nI s), .int 3, .int x] (wF [wMo o rw fr kp tr ik tp tm mso bg en wd va gd rs mu rm ss msz msh mho mhn mhz kd nb tn tc bo ip, wMr G rw la ns sd to he sw nh ki te mi ar z, wI G mho 4 hof, wI G mhn 4 hnf, wI G tc 30 tcf]) (some (.int (((x * 5 + (nI j)) - (te j)) ^^^ 150))) (wF [wMo o rw fr kp tr ik tp tm mso bg en wd va gd rs mu rm ss msz msh mho mhn mhz 0 (nI j) (te j) tc 3 0, wMr G rw la ns sd to he sw nh ki te mi ar z, wI G mho 4 hof, wI G mhn 4 hnf, wI G tc 30 (pF [13, 11, 10] tcf 0)]) := by
  refine Ct.of "GooseArmsModel" [some (.ref o), some (.int (nI s)), some (.int 3), some (.int x), none, none] (by decide +kernel) rfl (Nat.le_of_ble_eq_true rfl) rfl ?_
  refine J_aload_n 0 0 dX6_act_0 rfl rfl ?_
  refine J_iconst (v := 0) 1 dX6_act_1 rfl ?_
  refine p_815 (ws' := (wF [wMo o rw fr kp tr ik tp tm mso bg en wd va gd rs mu rm ss msz msh mho mhn mhz kd nb tn tc 0 ip, wMr G rw la ns sd to he sw nh ki te mi ar z, wI G mho 4 hof, wI G mhn 4 hnf, wI G tc 30 tcf])) 2 0 rfl rfl rfl (Nat.le_of_ble_eq_true rfl) rfl dX6_act_2 ?_
  refine J_iload_n 5 1 dX6_act_5 rfl rfl ?_
  refine kb_RX6_262 (bs' := [wMo o rw fr kp tr ik tp tm mso bg en wd va gd rs mu rm ss msz msh mho mhn mhz kd nb tn tc 0 ip, wMr G rw la ns sd to he sw nh ki te mi ar z, wI G mho 4 hof, wI G mhn 4 hnf, wI G tc 30 tcf]) (rest := []) (st' := [.int 1]) 6 (c_X6_isShelf_t l G s (by first | omega | assumption)) [] rfl rfl [] rfl rfl rfl rfl rfl rfl (Nat.le_of_ble_eq_true rfl) rfl dX6_act_6 ?_
  refine J_if_eq (tgt := 20) 9 dX6_act_9 (by decide) (fun c_1_ => absurd c_1_ (by decide)) (fun _ => ?_)
  refine J_aload_n 12 0 dX6_act_12 rfl rfl ?_
  refine J_iload_n 13 1 dX6_act_13 rfl rfl ?_
  refine kb_RX6_290 (bs' := [wMo o rw fr kp tr ik tp tm mso bg en wd va gd rs mu rm ss msz msh mho mhn mhz kd nb tn tc 0 ip, wMr G rw la ns sd to he sw nh ki te mi ar z, wI G mho 4 hof, wI G mhn 4 hnf, wI G tc 30 tcf]) (rest := []) (st' := [.int (ki j)]) 14 (c_X6_kindOn_h l G s j o rw fr kp tr ik tp tm mso bg en wd va gd rs mu rm ss msz msh mho mhn mhz kd nb tn tc 0 ip la ns sd to he sw nh ki te mi ar z hof hnf (by first | omega | assumption) (by first | omega | assumption) (by first | omega | assumption) (by first | omega | assumption) (by first | omega | assumption)) [0, 1, 2, 3] 0 rfl rfl rfl [[o], [rw], [mho], [mhn]] rfl rfl rfl rfl rfl rfl (Nat.le_of_ble_eq_true rfl) rfl dX6_act_14 ?_
  refine J_topi (y := 0) 17 hk ?_
  refine J_goto (tgt := 21) 17 dX6_act_17 (by decide) ?_
  refine J_istore (lv' := [some (.ref o), some (.int (nI s)), some (.int 3), some (.int x), some (.int 0), none]) 21 dX6_act_21 (by decide) rfl ?_
  refine J_iload_n 23 2 dX6_act_23 rfl rfl ?_
  refine J_iconst (v := 0) 24 dX6_act_24 rfl ?_
  refine J_iconst (v := 3) 25 dX6_act_25 rfl ?_
  refine kb_RX6_57 (bs' := [wMo o rw fr kp tr ik tp tm mso bg en wd va gd rs mu rm ss msz msh mho mhn mhz kd nb tn tc 0 ip, wMr G rw la ns sd to he sw nh ki te mi ar z, wI G mho 4 hof, wI G mhn 4 hnf, wI G tc 30 tcf]) (rest := []) (st' := [.int 1]) 26 (c_X6_in_t l G 3 0 3 (by decide)) [] rfl rfl [] rfl rfl rfl rfl rfl rfl (Nat.le_of_ble_eq_true rfl) rfl dX6_act_26 ?_
  refine J_if_eq (tgt := 42) 29 dX6_act_29 (by decide) (fun c_2_ => absurd c_2_ (by decide)) (fun _ => ?_)
  refine J_iload 32 dX6_act_32 rfl ?_
  refine J_iconst (v := 0) 34 dX6_act_34 rfl ?_
  refine J_iconst (v := 5) 35 dX6_act_35 rfl ?_
  refine kb_RX6_57 (bs' := [wMo o rw fr kp tr ik tp tm mso bg en wd va gd rs mu rm ss msz msh mho mhn mhz kd nb tn tc 0 ip, wMr G rw la ns sd to he sw nh ki te mi ar z, wI G mho 4 hof, wI G mhn 4 hnf, wI G tc 30 tcf]) (rest := []) (st' := [.int 1]) 36 (c_X6_in_t l G 0 0 5 (by decide)) [] rfl rfl [] rfl rfl rfl rfl rfl rfl (Nat.le_of_ble_eq_true rfl) rfl dX6_act_36 ?_
  refine J_if_ne (tgt := 44) 39 dX6_act_39 (by decide) (fun _ => ?_) (fun c_3_ => absurd c_3_ (by decide))
  refine J_aload_n 44 0 dX6_act_44 rfl rfl ?_
  refine J_iload 45 dX6_act_45 rfl ?_
  refine p_811 (ws' := (wF [wMo o rw fr kp tr ik tp tm mso bg en wd va gd rs mu rm ss msz msh mho mhn mhz 0 nb tn tc 0 ip, wMr G rw la ns sd to he sw nh ki te mi ar z, wI G mho 4 hof, wI G mhn 4 hnf, wI G tc 30 tcf])) 47 0 rfl rfl rfl (Nat.le_of_ble_eq_true rfl) rfl dX6_act_47 ?_
  refine J_aload_n 50 0 dX6_act_50 rfl rfl ?_
  refine J_aload_n 51 0 dX6_act_51 rfl rfl ?_
  refine g_809 (v := .ref mhn) 52 0 rfl rfl dX6_act_52 ?_
  refine J_iload_n 55 1 dX6_act_55 rfl rfl ?_
  refine J_iald 56 3 s rfl rfl (by omega) (by decide) dX6_act_56 ?_
  refine J_topi (y := nI j) 57 hhn ?_
  refine p_812 (ws' := (wF [wMo o rw fr kp tr ik tp tm mso bg en wd va gd rs mu rm ss msz msh mho mhn mhz 0 (nI j) tn tc 0 ip, wMr G rw la ns sd to he sw nh ki te mi ar z, wI G mho 4 hof, wI G mhn 4 hnf, wI G tc 30 tcf])) 57 0 rfl rfl rfl (Nat.le_of_ble_eq_true rfl) rfl dX6_act_57 ?_
  refine J_aload_n 60 0 dX6_act_60 rfl rfl ?_
  refine J_aload_n 61 0 dX6_act_61 rfl rfl ?_
  refine J_aload_n 62 0 dX6_act_62 rfl rfl ?_
  refine g_812 (v := .int (nI j)) 63 0 rfl rfl dX6_act_63 ?_
  refine J_iconst (v := 1) 66 dX6_act_66 rfl ?_
  refine kb_RX6_187 (bs' := [wMo o rw fr kp tr ik tp tm mso bg en wd va gd rs mu rm ss msz msh mho mhn mhz 0 (nI j) tn tc 0 ip, wMr G rw la ns sd to he sw nh ki te mi ar z, wI G mho 4 hof, wI G mhn 4 hnf, wI G tc 30 tcf]) (rest := [.ref o]) (st' := [.int (te j), .ref o]) 67 (c_X6_its_1 l G j o rw fr kp tr ik tp tm mso bg en wd va gd rs mu rm ss msz msh mho mhn mhz 0 (nI j) tn tc 0 ip la ns sd to he sw nh ki te mi ar z (by first | omega | assumption)) [0, 1] 0 rfl rfl rfl [[o], [rw]] rfl rfl rfl rfl rfl rfl (Nat.le_of_ble_eq_true rfl) rfl dX6_act_67 ?_
  refine p_813 (ws' := (wF [wMo o rw fr kp tr ik tp tm mso bg en wd va gd rs mu rm ss msz msh mho mhn mhz 0 (nI j) (te j) tc 0 ip, wMr G rw la ns sd to he sw nh ki te mi ar z, wI G mho 4 hof, wI G mhn 4 hnf, wI G tc 30 tcf])) 70 0 rfl rfl rfl (Nat.le_of_ble_eq_true rfl) rfl dX6_act_70 ?_
  refine J_aload_n 73 0 dX6_act_73 rfl rfl ?_
  refine J_iconst (v := 0) 74 dX6_act_74 rfl ?_
  refine p_816 (ws' := (wF [wMo o rw fr kp tr ik tp tm mso bg en wd va gd rs mu rm ss msz msh mho mhn mhz 0 (nI j) (te j) tc 0 0, wMr G rw la ns sd to he sw nh ki te mi ar z, wI G mho 4 hof, wI G mhn 4 hnf, wI G tc 30 tcf])) 75 0 rfl rfl rfl (Nat.le_of_ble_eq_true rfl) rfl dX6_act_75 ?_
  refine J_iload_n 78 2 dX6_act_78 rfl rfl ?_
  refine J_if_ne (tgt := 90) 79 dX6_act_79 (by decide) (fun _ => ?_) (fun c_4_ => absurd c_4_ (by decide))
  refine J_iload_n 90 2 dX6_act_90 rfl rfl ?_
  refine J_iconst (v := 1) 91 dX6_act_91 rfl ?_
  refine J_icmp_ne (tgt := 103) 92 dX6_act_92 (by decide) (fun _ => ?_) (fun c_5_ => absurd c_5_ (by decide))
  refine J_iload_n 103 2 dX6_act_103 rfl rfl ?_
  refine J_iconst (v := 2) 104 dX6_act_104 rfl ?_
  refine J_icmp_ne (tgt := 116) 105 dX6_act_105 (by decide) (fun _ => ?_) (fun c_6_ => absurd c_6_ (by decide))
  refine J_aload_n 116 0 dX6_act_116 rfl rfl ?_
  refine J_iload_n 117 3 dX6_act_117 rfl rfl ?_
  refine kb_RX6_338 (bs' := [wMo o rw fr kp tr ik tp tm mso bg en wd va gd rs mu rm ss msz msh mho mhn mhz 0 (nI j) (te j) tc (0 + 3) 0, wMr G rw la ns sd to he sw nh ki te mi ar z, wI G mho 4 hof, wI G mhn 4 hnf, wI G tc 30 (pF [13, 11, 10] tcf 0)]) (rest := []) (st' := [.int (((x * 5 + (nI j)) - (te j)) ^^^ 150)]) 118 (c_X6_swearsIt_0 l G x o rw fr kp tr ik tp tm mso bg en wd va gd rs mu rm ss msz msh mho mhn mhz (nI j) (te j) tc 0 tcf (by decide)) [0, 4] 0 rfl rfl rfl [[o], [tc]] rfl rfl rfl rfl rfl rfl (Nat.le_of_ble_eq_true rfl) rfl dX6_act_118 ?_
  refine J_istore (lv' := [some (.ref o), some (.int (nI s)), some (.int 3), some (.int x), some (.int 0), some (.int (((x * 5 + (nI j)) - (te j)) ^^^ 150))]) 121 dX6_act_121 (by decide) rfl ?_
  refine J_aload_n 123 0 dX6_act_123 rfl rfl ?_
  refine g_816 (v := .int 0) 124 0 rfl rfl dX6_act_124 ?_
  refine J_if_eq (tgt := 135) 127 dX6_act_127 (by decide) (fun _ => ?_) (fun c_7_ => absurd c_7_ (by decide))
  refine J_iload 135 dX6_act_135 rfl ?_
  exact J_iret 137 dX6_act_137 rfl (cg1 (fun (x0_ : Nat) => (wF [wMo o rw fr kp tr ik tp tm mso bg en wd va gd rs mu rm ss msz msh mho mhn mhz 0 (nI j) (te j) tc x0_ 0, wMr G rw la ns sd to he sw nh ki te mi ar z, wI G mho 4 hof, wI G mhn 4 hnf, wI G tc 30 (pF [13, 11, 10] tcf 0)])) (0 + 3) 3 rfl)
set_option maxRecDepth 100000 in
set_option maxHeartbeats 4000000 in
theorem c_X6_act_1_0 (l : Launch) (G : Gd) (s : Nat) (x : Int32) (j : Nat) (o : Nat) (rw : Nat) (fr : Nat) (kp : Nat) (tr : Nat) (ik : Int32) (tp : Nat) (tm : Nat) (mso : Int32) (bg : Nat) (en : Nat) (wd : Int64) (va : Int32) (gd : Int32) (rs : Nat) (mu : Nat) (rm : Nat) (ss : Nat) (msz : Nat) (msh : Nat) (mho : Nat) (mhn : Nat) (mhz : Nat) (kd : Int32) (nb : Int32) (tn : Int32) (tc : Nat) (bo : Nat) (ip : Int32) (la : Nat → Int32) (ns : Nat) (sd : Nat) (to : Nat → Int32) (he : Nat → Int32) (sw : Nat → Int32) (nh : Nat) (ki : Nat → Int32) (te : Nat → Int32) (mi : Nat → Int32) (ar : Nat → Int32) (z : Int32) (hof : Nat → Int32) (hnf : Nat → Int32) (tcf : Nat → Int32) (hs : s ≤ 3) (hho : hof s = 0) (hhn : hnf s = nI j) (hj : j < nh) (hnh : nh ≤ 8) (hk : ki j = 1) : Ct l G yX6_act cX6_act 6 (some (FieldType.int)) 8 [.ref o, .int (nI s), .int 0, .int x] (wF [wMo o rw fr kp tr ik tp tm mso bg en wd va gd rs mu rm ss msz msh mho mhn mhz kd nb tn tc bo ip, wMr G rw la ns sd to he sw nh ki te mi ar z, wI G mho 4 hof, wI G mhn 4 hnf, wI G tc 30 tcf]) (some (.int (x * 5 + (nI j)))) (wF [wMo o rw fr kp tr ik tp tm mso bg en wd va gd rs mu rm ss msz msh mho mhn mhz 1 (nI j) (te j) tc 1 0, wMr G rw la ns sd to he sw nh ki te mi ar z, wI G mho 4 hof, wI G mhn 4 hnf, wI G tc 30 (pF [10] tcf 0)]) := by
  refine Ct.of "GooseArmsModel" [some (.ref o), some (.int (nI s)), some (.int 0), some (.int x), none, none] (by decide +kernel) rfl (Nat.le_of_ble_eq_true rfl) rfl ?_
  refine J_aload_n 0 0 dX6_act_0 rfl rfl ?_
  refine J_iconst (v := 0) 1 dX6_act_1 rfl ?_
  refine p_815 (ws' := (wF [wMo o rw fr kp tr ik tp tm mso bg en wd va gd rs mu rm ss msz msh mho mhn mhz kd nb tn tc 0 ip, wMr G rw la ns sd to he sw nh ki te mi ar z, wI G mho 4 hof, wI G mhn 4 hnf, wI G tc 30 tcf])) 2 0 rfl rfl rfl (Nat.le_of_ble_eq_true rfl) rfl dX6_act_2 ?_
  refine J_iload_n 5 1 dX6_act_5 rfl rfl ?_
  refine kb_RX6_262 (bs' := [wMo o rw fr kp tr ik tp tm mso bg en wd va gd rs mu rm ss msz msh mho mhn mhz kd nb tn tc 0 ip, wMr G rw la ns sd to he sw nh ki te mi ar z, wI G mho 4 hof, wI G mhn 4 hnf, wI G tc 30 tcf]) (rest := []) (st' := [.int 1]) 6 (c_X6_isShelf_t l G s (by first | omega | assumption)) [] rfl rfl [] rfl rfl rfl rfl rfl rfl (Nat.le_of_ble_eq_true rfl) rfl dX6_act_6 ?_
  refine J_if_eq (tgt := 20) 9 dX6_act_9 (by decide) (fun c_1_ => absurd c_1_ (by decide)) (fun _ => ?_)
  refine J_aload_n 12 0 dX6_act_12 rfl rfl ?_
  refine J_iload_n 13 1 dX6_act_13 rfl rfl ?_
  refine kb_RX6_290 (bs' := [wMo o rw fr kp tr ik tp tm mso bg en wd va gd rs mu rm ss msz msh mho mhn mhz kd nb tn tc 0 ip, wMr G rw la ns sd to he sw nh ki te mi ar z, wI G mho 4 hof, wI G mhn 4 hnf, wI G tc 30 tcf]) (rest := []) (st' := [.int (ki j)]) 14 (c_X6_kindOn_h l G s j o rw fr kp tr ik tp tm mso bg en wd va gd rs mu rm ss msz msh mho mhn mhz kd nb tn tc 0 ip la ns sd to he sw nh ki te mi ar z hof hnf (by first | omega | assumption) (by first | omega | assumption) (by first | omega | assumption) (by first | omega | assumption) (by first | omega | assumption)) [0, 1, 2, 3] 0 rfl rfl rfl [[o], [rw], [mho], [mhn]] rfl rfl rfl rfl rfl rfl (Nat.le_of_ble_eq_true rfl) rfl dX6_act_14 ?_
  refine J_topi (y := 1) 17 hk ?_
  refine J_goto (tgt := 21) 17 dX6_act_17 (by decide) ?_
  refine J_istore (lv' := [some (.ref o), some (.int (nI s)), some (.int 0), some (.int x), some (.int 1), none]) 21 dX6_act_21 (by decide) rfl ?_
  refine J_iload_n 23 2 dX6_act_23 rfl rfl ?_
  refine J_iconst (v := 0) 24 dX6_act_24 rfl ?_
  refine J_iconst (v := 3) 25 dX6_act_25 rfl ?_
  refine kb_RX6_57 (bs' := [wMo o rw fr kp tr ik tp tm mso bg en wd va gd rs mu rm ss msz msh mho mhn mhz kd nb tn tc 0 ip, wMr G rw la ns sd to he sw nh ki te mi ar z, wI G mho 4 hof, wI G mhn 4 hnf, wI G tc 30 tcf]) (rest := []) (st' := [.int 1]) 26 (c_X6_in_t l G 0 0 3 (by decide)) [] rfl rfl [] rfl rfl rfl rfl rfl rfl (Nat.le_of_ble_eq_true rfl) rfl dX6_act_26 ?_
  refine J_if_eq (tgt := 42) 29 dX6_act_29 (by decide) (fun c_2_ => absurd c_2_ (by decide)) (fun _ => ?_)
  refine J_iload 32 dX6_act_32 rfl ?_
  refine J_iconst (v := 0) 34 dX6_act_34 rfl ?_
  refine J_iconst (v := 5) 35 dX6_act_35 rfl ?_
  refine kb_RX6_57 (bs' := [wMo o rw fr kp tr ik tp tm mso bg en wd va gd rs mu rm ss msz msh mho mhn mhz kd nb tn tc 0 ip, wMr G rw la ns sd to he sw nh ki te mi ar z, wI G mho 4 hof, wI G mhn 4 hnf, wI G tc 30 tcf]) (rest := []) (st' := [.int 1]) 36 (c_X6_in_t l G 1 0 5 (by decide)) [] rfl rfl [] rfl rfl rfl rfl rfl rfl (Nat.le_of_ble_eq_true rfl) rfl dX6_act_36 ?_
  refine J_if_ne (tgt := 44) 39 dX6_act_39 (by decide) (fun _ => ?_) (fun c_3_ => absurd c_3_ (by decide))
  refine J_aload_n 44 0 dX6_act_44 rfl rfl ?_
  refine J_iload 45 dX6_act_45 rfl ?_
  refine p_811 (ws' := (wF [wMo o rw fr kp tr ik tp tm mso bg en wd va gd rs mu rm ss msz msh mho mhn mhz 1 nb tn tc 0 ip, wMr G rw la ns sd to he sw nh ki te mi ar z, wI G mho 4 hof, wI G mhn 4 hnf, wI G tc 30 tcf])) 47 0 rfl rfl rfl (Nat.le_of_ble_eq_true rfl) rfl dX6_act_47 ?_
  refine J_aload_n 50 0 dX6_act_50 rfl rfl ?_
  refine J_aload_n 51 0 dX6_act_51 rfl rfl ?_
  refine g_809 (v := .ref mhn) 52 0 rfl rfl dX6_act_52 ?_
  refine J_iload_n 55 1 dX6_act_55 rfl rfl ?_
  refine J_iald 56 3 s rfl rfl (by omega) (by decide) dX6_act_56 ?_
  refine J_topi (y := nI j) 57 hhn ?_
  refine p_812 (ws' := (wF [wMo o rw fr kp tr ik tp tm mso bg en wd va gd rs mu rm ss msz msh mho mhn mhz 1 (nI j) tn tc 0 ip, wMr G rw la ns sd to he sw nh ki te mi ar z, wI G mho 4 hof, wI G mhn 4 hnf, wI G tc 30 tcf])) 57 0 rfl rfl rfl (Nat.le_of_ble_eq_true rfl) rfl dX6_act_57 ?_
  refine J_aload_n 60 0 dX6_act_60 rfl rfl ?_
  refine J_aload_n 61 0 dX6_act_61 rfl rfl ?_
  refine J_aload_n 62 0 dX6_act_62 rfl rfl ?_
  refine g_812 (v := .int (nI j)) 63 0 rfl rfl dX6_act_63 ?_
  refine J_iconst (v := 1) 66 dX6_act_66 rfl ?_
  refine kb_RX6_187 (bs' := [wMo o rw fr kp tr ik tp tm mso bg en wd va gd rs mu rm ss msz msh mho mhn mhz 1 (nI j) tn tc 0 ip, wMr G rw la ns sd to he sw nh ki te mi ar z, wI G mho 4 hof, wI G mhn 4 hnf, wI G tc 30 tcf]) (rest := [.ref o]) (st' := [.int (te j), .ref o]) 67 (c_X6_its_1 l G j o rw fr kp tr ik tp tm mso bg en wd va gd rs mu rm ss msz msh mho mhn mhz 1 (nI j) tn tc 0 ip la ns sd to he sw nh ki te mi ar z (by first | omega | assumption)) [0, 1] 0 rfl rfl rfl [[o], [rw]] rfl rfl rfl rfl rfl rfl (Nat.le_of_ble_eq_true rfl) rfl dX6_act_67 ?_
  refine p_813 (ws' := (wF [wMo o rw fr kp tr ik tp tm mso bg en wd va gd rs mu rm ss msz msh mho mhn mhz 1 (nI j) (te j) tc 0 ip, wMr G rw la ns sd to he sw nh ki te mi ar z, wI G mho 4 hof, wI G mhn 4 hnf, wI G tc 30 tcf])) 70 0 rfl rfl rfl (Nat.le_of_ble_eq_true rfl) rfl dX6_act_70 ?_
  refine J_aload_n 73 0 dX6_act_73 rfl rfl ?_
  refine J_iconst (v := 0) 74 dX6_act_74 rfl ?_
  refine p_816 (ws' := (wF [wMo o rw fr kp tr ik tp tm mso bg en wd va gd rs mu rm ss msz msh mho mhn mhz 1 (nI j) (te j) tc 0 0, wMr G rw la ns sd to he sw nh ki te mi ar z, wI G mho 4 hof, wI G mhn 4 hnf, wI G tc 30 tcf])) 75 0 rfl rfl rfl (Nat.le_of_ble_eq_true rfl) rfl dX6_act_75 ?_
  refine J_iload_n 78 2 dX6_act_78 rfl rfl ?_
  refine J_if_ne (tgt := 90) 79 dX6_act_79 (by decide) (fun c_4_ => absurd c_4_ (by decide)) (fun _ => ?_)
  refine J_aload_n 82 0 dX6_act_82 rfl rfl ?_
  refine J_iload_n 83 3 dX6_act_83 rfl rfl ?_
  refine kb_RX6_317 (bs' := [wMo o rw fr kp tr ik tp tm mso bg en wd va gd rs mu rm ss msz msh mho mhn mhz 1 (nI j) (te j) tc (0 + 1) 0, wMr G rw la ns sd to he sw nh ki te mi ar z, wI G mho 4 hof, wI G mhn 4 hnf, wI G tc 30 (pF [10] tcf 0)]) (rest := []) (st' := [.int (x * 5 + (nI j))]) 84 (c_X6_shakesIt_1 l G x o rw fr kp tr ik tp tm mso bg en wd va gd rs mu rm ss msz msh mho mhn mhz (nI j) (te j) tc 0 tcf (by decide)) [0, 4] 0 rfl rfl rfl [[o], [tc]] rfl rfl rfl rfl rfl rfl (Nat.le_of_ble_eq_true rfl) rfl dX6_act_84 ?_
  refine J_goto (tgt := 121) 87 dX6_act_87 (by decide) ?_
  refine J_istore (lv' := [some (.ref o), some (.int (nI s)), some (.int 0), some (.int x), some (.int 1), some (.int (x * 5 + (nI j)))]) 121 dX6_act_121 (by decide) rfl ?_
  refine J_aload_n 123 0 dX6_act_123 rfl rfl ?_
  refine g_816 (v := .int 0) 124 0 rfl rfl dX6_act_124 ?_
  refine J_if_eq (tgt := 135) 127 dX6_act_127 (by decide) (fun _ => ?_) (fun c_5_ => absurd c_5_ (by decide))
  refine J_iload 135 dX6_act_135 rfl ?_
  exact J_iret 137 dX6_act_137 rfl (cg1 (fun (x0_ : Nat) => (wF [wMo o rw fr kp tr ik tp tm mso bg en wd va gd rs mu rm ss msz msh mho mhn mhz 1 (nI j) (te j) tc x0_ 0, wMr G rw la ns sd to he sw nh ki te mi ar z, wI G mho 4 hof, wI G mhn 4 hnf, wI G tc 30 (pF [10] tcf 0)])) (0 + 1) 1 rfl)
set_option maxRecDepth 100000 in
set_option maxHeartbeats 4000000 in
theorem c_X6_act_1_1 (l : Launch) (G : Gd) (s : Nat) (x : Int32) (j : Nat) (o : Nat) (rw : Nat) (fr : Nat) (kp : Nat) (tr : Nat) (ik : Int32) (tp : Nat) (tm : Nat) (mso : Int32) (bg : Nat) (en : Nat) (wd : Int64) (va : Int32) (gd : Int32) (rs : Nat) (mu : Nat) (rm : Nat) (ss : Nat) (msz : Nat) (msh : Nat) (mho : Nat) (mhn : Nat) (mhz : Nat) (kd : Int32) (nb : Int32) (tn : Int32) (tc : Nat) (bo : Nat) (ip : Int32) (la : Nat → Int32) (ns : Nat) (sd : Nat) (to : Nat → Int32) (he : Nat → Int32) (sw : Nat → Int32) (nh : Nat) (ki : Nat → Int32) (te : Nat → Int32) (mi : Nat → Int32) (ar : Nat → Int32) (z : Int32) (hof : Nat → Int32) (hnf : Nat → Int32) (tcf : Nat → Int32) (hs : s ≤ 3) (hho : hof s = 0) (hhn : hnf s = nI j) (hj : j < nh) (hnh : nh ≤ 8) (hk : ki j = 1) : Ct l G yX6_act cX6_act 6 (some (FieldType.int)) 8 [.ref o, .int (nI s), .int 1, .int x] (wF [wMo o rw fr kp tr ik tp tm mso bg en wd va gd rs mu rm ss msz msh mho mhn mhz kd nb tn tc bo ip, wMr G rw la ns sd to he sw nh ki te mi ar z, wI G mho 4 hof, wI G mhn 4 hnf, wI G tc 30 tcf]) (some (.int (((x * 5 + (nI j)) - (te j)) * 2))) (wF [wMo o rw fr kp tr ik tp tm mso bg en wd va gd rs mu rm ss msz msh mho mhn mhz 1 (nI j) (te j) tc 3 0, wMr G rw la ns sd to he sw nh ki te mi ar z, wI G mho 4 hof, wI G mhn 4 hnf, wI G tc 30 (pF [20, 11, 10] tcf 0)]) := by
  refine Ct.of "GooseArmsModel" [some (.ref o), some (.int (nI s)), some (.int 1), some (.int x), none, none] (by decide +kernel) rfl (Nat.le_of_ble_eq_true rfl) rfl ?_
  refine J_aload_n 0 0 dX6_act_0 rfl rfl ?_
  refine J_iconst (v := 0) 1 dX6_act_1 rfl ?_
  refine p_815 (ws' := (wF [wMo o rw fr kp tr ik tp tm mso bg en wd va gd rs mu rm ss msz msh mho mhn mhz kd nb tn tc 0 ip, wMr G rw la ns sd to he sw nh ki te mi ar z, wI G mho 4 hof, wI G mhn 4 hnf, wI G tc 30 tcf])) 2 0 rfl rfl rfl (Nat.le_of_ble_eq_true rfl) rfl dX6_act_2 ?_
  refine J_iload_n 5 1 dX6_act_5 rfl rfl ?_
  refine kb_RX6_262 (bs' := [wMo o rw fr kp tr ik tp tm mso bg en wd va gd rs mu rm ss msz msh mho mhn mhz kd nb tn tc 0 ip, wMr G rw la ns sd to he sw nh ki te mi ar z, wI G mho 4 hof, wI G mhn 4 hnf, wI G tc 30 tcf]) (rest := []) (st' := [.int 1]) 6 (c_X6_isShelf_t l G s (by first | omega | assumption)) [] rfl rfl [] rfl rfl rfl rfl rfl rfl (Nat.le_of_ble_eq_true rfl) rfl dX6_act_6 ?_
  refine J_if_eq (tgt := 20) 9 dX6_act_9 (by decide) (fun c_1_ => absurd c_1_ (by decide)) (fun _ => ?_)
  refine J_aload_n 12 0 dX6_act_12 rfl rfl ?_
  refine J_iload_n 13 1 dX6_act_13 rfl rfl ?_
  refine kb_RX6_290 (bs' := [wMo o rw fr kp tr ik tp tm mso bg en wd va gd rs mu rm ss msz msh mho mhn mhz kd nb tn tc 0 ip, wMr G rw la ns sd to he sw nh ki te mi ar z, wI G mho 4 hof, wI G mhn 4 hnf, wI G tc 30 tcf]) (rest := []) (st' := [.int (ki j)]) 14 (c_X6_kindOn_h l G s j o rw fr kp tr ik tp tm mso bg en wd va gd rs mu rm ss msz msh mho mhn mhz kd nb tn tc 0 ip la ns sd to he sw nh ki te mi ar z hof hnf (by first | omega | assumption) (by first | omega | assumption) (by first | omega | assumption) (by first | omega | assumption) (by first | omega | assumption)) [0, 1, 2, 3] 0 rfl rfl rfl [[o], [rw], [mho], [mhn]] rfl rfl rfl rfl rfl rfl (Nat.le_of_ble_eq_true rfl) rfl dX6_act_14 ?_
  refine J_topi (y := 1) 17 hk ?_
  refine J_goto (tgt := 21) 17 dX6_act_17 (by decide) ?_
  refine J_istore (lv' := [some (.ref o), some (.int (nI s)), some (.int 1), some (.int x), some (.int 1), none]) 21 dX6_act_21 (by decide) rfl ?_
  refine J_iload_n 23 2 dX6_act_23 rfl rfl ?_
  refine J_iconst (v := 0) 24 dX6_act_24 rfl ?_
  refine J_iconst (v := 3) 25 dX6_act_25 rfl ?_
  refine kb_RX6_57 (bs' := [wMo o rw fr kp tr ik tp tm mso bg en wd va gd rs mu rm ss msz msh mho mhn mhz kd nb tn tc 0 ip, wMr G rw la ns sd to he sw nh ki te mi ar z, wI G mho 4 hof, wI G mhn 4 hnf, wI G tc 30 tcf]) (rest := []) (st' := [.int 1]) 26 (c_X6_in_t l G 1 0 3 (by decide)) [] rfl rfl [] rfl rfl rfl rfl rfl rfl (Nat.le_of_ble_eq_true rfl) rfl dX6_act_26 ?_
  refine J_if_eq (tgt := 42) 29 dX6_act_29 (by decide) (fun c_2_ => absurd c_2_ (by decide)) (fun _ => ?_)
  refine J_iload 32 dX6_act_32 rfl ?_
  refine J_iconst (v := 0) 34 dX6_act_34 rfl ?_
  refine J_iconst (v := 5) 35 dX6_act_35 rfl ?_
  refine kb_RX6_57 (bs' := [wMo o rw fr kp tr ik tp tm mso bg en wd va gd rs mu rm ss msz msh mho mhn mhz kd nb tn tc 0 ip, wMr G rw la ns sd to he sw nh ki te mi ar z, wI G mho 4 hof, wI G mhn 4 hnf, wI G tc 30 tcf]) (rest := []) (st' := [.int 1]) 36 (c_X6_in_t l G 1 0 5 (by decide)) [] rfl rfl [] rfl rfl rfl rfl rfl rfl (Nat.le_of_ble_eq_true rfl) rfl dX6_act_36 ?_
  refine J_if_ne (tgt := 44) 39 dX6_act_39 (by decide) (fun _ => ?_) (fun c_3_ => absurd c_3_ (by decide))
  refine J_aload_n 44 0 dX6_act_44 rfl rfl ?_
  refine J_iload 45 dX6_act_45 rfl ?_
  refine p_811 (ws' := (wF [wMo o rw fr kp tr ik tp tm mso bg en wd va gd rs mu rm ss msz msh mho mhn mhz 1 nb tn tc 0 ip, wMr G rw la ns sd to he sw nh ki te mi ar z, wI G mho 4 hof, wI G mhn 4 hnf, wI G tc 30 tcf])) 47 0 rfl rfl rfl (Nat.le_of_ble_eq_true rfl) rfl dX6_act_47 ?_
  refine J_aload_n 50 0 dX6_act_50 rfl rfl ?_
  refine J_aload_n 51 0 dX6_act_51 rfl rfl ?_
  refine g_809 (v := .ref mhn) 52 0 rfl rfl dX6_act_52 ?_
  refine J_iload_n 55 1 dX6_act_55 rfl rfl ?_
  refine J_iald 56 3 s rfl rfl (by omega) (by decide) dX6_act_56 ?_
  refine J_topi (y := nI j) 57 hhn ?_
  refine p_812 (ws' := (wF [wMo o rw fr kp tr ik tp tm mso bg en wd va gd rs mu rm ss msz msh mho mhn mhz 1 (nI j) tn tc 0 ip, wMr G rw la ns sd to he sw nh ki te mi ar z, wI G mho 4 hof, wI G mhn 4 hnf, wI G tc 30 tcf])) 57 0 rfl rfl rfl (Nat.le_of_ble_eq_true rfl) rfl dX6_act_57 ?_
  refine J_aload_n 60 0 dX6_act_60 rfl rfl ?_
  refine J_aload_n 61 0 dX6_act_61 rfl rfl ?_
  refine J_aload_n 62 0 dX6_act_62 rfl rfl ?_
  refine g_812 (v := .int (nI j)) 63 0 rfl rfl dX6_act_63 ?_
  refine J_iconst (v := 1) 66 dX6_act_66 rfl ?_
  refine kb_RX6_187 (bs' := [wMo o rw fr kp tr ik tp tm mso bg en wd va gd rs mu rm ss msz msh mho mhn mhz 1 (nI j) tn tc 0 ip, wMr G rw la ns sd to he sw nh ki te mi ar z, wI G mho 4 hof, wI G mhn 4 hnf, wI G tc 30 tcf]) (rest := [.ref o]) (st' := [.int (te j), .ref o]) 67 (c_X6_its_1 l G j o rw fr kp tr ik tp tm mso bg en wd va gd rs mu rm ss msz msh mho mhn mhz 1 (nI j) tn tc 0 ip la ns sd to he sw nh ki te mi ar z (by first | omega | assumption)) [0, 1] 0 rfl rfl rfl [[o], [rw]] rfl rfl rfl rfl rfl rfl (Nat.le_of_ble_eq_true rfl) rfl dX6_act_67 ?_
  refine p_813 (ws' := (wF [wMo o rw fr kp tr ik tp tm mso bg en wd va gd rs mu rm ss msz msh mho mhn mhz 1 (nI j) (te j) tc 0 ip, wMr G rw la ns sd to he sw nh ki te mi ar z, wI G mho 4 hof, wI G mhn 4 hnf, wI G tc 30 tcf])) 70 0 rfl rfl rfl (Nat.le_of_ble_eq_true rfl) rfl dX6_act_70 ?_
  refine J_aload_n 73 0 dX6_act_73 rfl rfl ?_
  refine J_iconst (v := 0) 74 dX6_act_74 rfl ?_
  refine p_816 (ws' := (wF [wMo o rw fr kp tr ik tp tm mso bg en wd va gd rs mu rm ss msz msh mho mhn mhz 1 (nI j) (te j) tc 0 0, wMr G rw la ns sd to he sw nh ki te mi ar z, wI G mho 4 hof, wI G mhn 4 hnf, wI G tc 30 tcf])) 75 0 rfl rfl rfl (Nat.le_of_ble_eq_true rfl) rfl dX6_act_75 ?_
  refine J_iload_n 78 2 dX6_act_78 rfl rfl ?_
  refine J_if_ne (tgt := 90) 79 dX6_act_79 (by decide) (fun _ => ?_) (fun c_4_ => absurd c_4_ (by decide))
  refine J_iload_n 90 2 dX6_act_90 rfl rfl ?_
  refine J_iconst (v := 1) 91 dX6_act_91 rfl ?_
  refine J_icmp_ne (tgt := 103) 92 dX6_act_92 (by decide) (fun c_5_ => absurd c_5_ (by decide)) (fun _ => ?_)
  refine J_aload_n 95 0 dX6_act_95 rfl rfl ?_
  refine J_iload_n 96 3 dX6_act_96 rfl rfl ?_
  refine kb_RX6_329 (bs' := [wMo o rw fr kp tr ik tp tm mso bg en wd va gd rs mu rm ss msz msh mho mhn mhz 1 (nI j) (te j) tc (0 + 3) 0, wMr G rw la ns sd to he sw nh ki te mi ar z, wI G mho 4 hof, wI G mhn 4 hnf, wI G tc 30 (pF [20, 11, 10] tcf 0)]) (rest := []) (st' := [.int (((x * 5 + (nI j)) - (te j)) * 2)]) 97 (c_X6_readsIt_1 l G x o rw fr kp tr ik tp tm mso bg en wd va gd rs mu rm ss msz msh mho mhn mhz (nI j) (te j) tc 0 tcf (by decide)) [0, 4] 0 rfl rfl rfl [[o], [tc]] rfl rfl rfl rfl rfl rfl (Nat.le_of_ble_eq_true rfl) rfl dX6_act_97 ?_
  refine J_goto (tgt := 121) 100 dX6_act_100 (by decide) ?_
  refine J_istore (lv' := [some (.ref o), some (.int (nI s)), some (.int 1), some (.int x), some (.int 1), some (.int (((x * 5 + (nI j)) - (te j)) * 2))]) 121 dX6_act_121 (by decide) rfl ?_
  refine J_aload_n 123 0 dX6_act_123 rfl rfl ?_
  refine g_816 (v := .int 0) 124 0 rfl rfl dX6_act_124 ?_
  refine J_if_eq (tgt := 135) 127 dX6_act_127 (by decide) (fun _ => ?_) (fun c_6_ => absurd c_6_ (by decide))
  refine J_iload 135 dX6_act_135 rfl ?_
  exact J_iret 137 dX6_act_137 rfl (cg1 (fun (x0_ : Nat) => (wF [wMo o rw fr kp tr ik tp tm mso bg en wd va gd rs mu rm ss msz msh mho mhn mhz 1 (nI j) (te j) tc x0_ 0, wMr G rw la ns sd to he sw nh ki te mi ar z, wI G mho 4 hof, wI G mhn 4 hnf, wI G tc 30 (pF [20, 11, 10] tcf 0)])) (0 + 3) 3 rfl)
set_option maxRecDepth 100000 in
set_option maxHeartbeats 4000000 in
theorem c_X6_act_1_2 (l : Launch) (G : Gd) (s : Nat) (x : Int32) (j : Nat) (o : Nat) (rw : Nat) (fr : Nat) (kp : Nat) (tr : Nat) (ik : Int32) (tp : Nat) (tm : Nat) (mso : Int32) (bg : Nat) (en : Nat) (wd : Int64) (va : Int32) (gd : Int32) (rs : Nat) (mu : Nat) (rm : Nat) (ss : Nat) (msz : Nat) (msh : Nat) (mho : Nat) (mhn : Nat) (mhz : Nat) (kd : Int32) (nb : Int32) (tn : Int32) (tc : Nat) (bo : Nat) (ip : Int32) (la : Nat → Int32) (ns : Nat) (sd : Nat) (to : Nat → Int32) (he : Nat → Int32) (sw : Nat → Int32) (nh : Nat) (ki : Nat → Int32) (te : Nat → Int32) (mi : Nat → Int32) (ar : Nat → Int32) (z : Int32) (hof : Nat → Int32) (hnf : Nat → Int32) (tcf : Nat → Int32) (hs : s ≤ 3) (hho : hof s = 0) (hhn : hnf s = nI j) (hj : j < nh) (hnh : nh ≤ 8) (hk : ki j = 1) (hz : ¬ te j = nI j) : Ct l G yX6_act cX6_act 6 (some (FieldType.int)) 8 [.ref o, .int (nI s), .int 2, .int x] (wF [wMo o rw fr kp tr ik tp tm mso bg en wd va gd rs mu rm ss msz msh mho mhn mhz kd nb tn tc bo ip, wMr G rw la ns sd to he sw nh ki te mi ar z, wI G mho 4 hof, wI G mhn 4 hnf, wI G tc 30 tcf]) (some (.int (x / ((te j) - (nI j))))) (wF [wMo o rw fr kp tr ik tp tm mso bg en wd va gd rs mu rm ss msz msh mho mhn mhz 1 (nI j) (te j) tc 1 0, wMr G rw la ns sd to he sw nh ki te mi ar z, wI G mho 4 hof, wI G mhn 4 hnf, wI G tc 30 (pF [12] tcf 0)]) := by
  refine Ct.of "GooseArmsModel" [some (.ref o), some (.int (nI s)), some (.int 2), some (.int x), none, none] (by decide +kernel) rfl (Nat.le_of_ble_eq_true rfl) rfl ?_
  refine J_aload_n 0 0 dX6_act_0 rfl rfl ?_
  refine J_iconst (v := 0) 1 dX6_act_1 rfl ?_
  refine p_815 (ws' := (wF [wMo o rw fr kp tr ik tp tm mso bg en wd va gd rs mu rm ss msz msh mho mhn mhz kd nb tn tc 0 ip, wMr G rw la ns sd to he sw nh ki te mi ar z, wI G mho 4 hof, wI G mhn 4 hnf, wI G tc 30 tcf])) 2 0 rfl rfl rfl (Nat.le_of_ble_eq_true rfl) rfl dX6_act_2 ?_
  refine J_iload_n 5 1 dX6_act_5 rfl rfl ?_
  refine kb_RX6_262 (bs' := [wMo o rw fr kp tr ik tp tm mso bg en wd va gd rs mu rm ss msz msh mho mhn mhz kd nb tn tc 0 ip, wMr G rw la ns sd to he sw nh ki te mi ar z, wI G mho 4 hof, wI G mhn 4 hnf, wI G tc 30 tcf]) (rest := []) (st' := [.int 1]) 6 (c_X6_isShelf_t l G s (by first | omega | assumption)) [] rfl rfl [] rfl rfl rfl rfl rfl rfl (Nat.le_of_ble_eq_true rfl) rfl dX6_act_6 ?_
  refine J_if_eq (tgt := 20) 9 dX6_act_9 (by decide) (fun c_1_ => absurd c_1_ (by decide)) (fun _ => ?_)
  refine J_aload_n 12 0 dX6_act_12 rfl rfl ?_
  refine J_iload_n 13 1 dX6_act_13 rfl rfl ?_
  refine kb_RX6_290 (bs' := [wMo o rw fr kp tr ik tp tm mso bg en wd va gd rs mu rm ss msz msh mho mhn mhz kd nb tn tc 0 ip, wMr G rw la ns sd to he sw nh ki te mi ar z, wI G mho 4 hof, wI G mhn 4 hnf, wI G tc 30 tcf]) (rest := []) (st' := [.int (ki j)]) 14 (c_X6_kindOn_h l G s j o rw fr kp tr ik tp tm mso bg en wd va gd rs mu rm ss msz msh mho mhn mhz kd nb tn tc 0 ip la ns sd to he sw nh ki te mi ar z hof hnf (by first | omega | assumption) (by first | omega | assumption) (by first | omega | assumption) (by first | omega | assumption) (by first | omega | assumption)) [0, 1, 2, 3] 0 rfl rfl rfl [[o], [rw], [mho], [mhn]] rfl rfl rfl rfl rfl rfl (Nat.le_of_ble_eq_true rfl) rfl dX6_act_14 ?_
  refine J_topi (y := 1) 17 hk ?_
  refine J_goto (tgt := 21) 17 dX6_act_17 (by decide) ?_
  refine J_istore (lv' := [some (.ref o), some (.int (nI s)), some (.int 2), some (.int x), some (.int 1), none]) 21 dX6_act_21 (by decide) rfl ?_
  refine J_iload_n 23 2 dX6_act_23 rfl rfl ?_
  refine J_iconst (v := 0) 24 dX6_act_24 rfl ?_
  refine J_iconst (v := 3) 25 dX6_act_25 rfl ?_
  refine kb_RX6_57 (bs' := [wMo o rw fr kp tr ik tp tm mso bg en wd va gd rs mu rm ss msz msh mho mhn mhz kd nb tn tc 0 ip, wMr G rw la ns sd to he sw nh ki te mi ar z, wI G mho 4 hof, wI G mhn 4 hnf, wI G tc 30 tcf]) (rest := []) (st' := [.int 1]) 26 (c_X6_in_t l G 2 0 3 (by decide)) [] rfl rfl [] rfl rfl rfl rfl rfl rfl (Nat.le_of_ble_eq_true rfl) rfl dX6_act_26 ?_
  refine J_if_eq (tgt := 42) 29 dX6_act_29 (by decide) (fun c_2_ => absurd c_2_ (by decide)) (fun _ => ?_)
  refine J_iload 32 dX6_act_32 rfl ?_
  refine J_iconst (v := 0) 34 dX6_act_34 rfl ?_
  refine J_iconst (v := 5) 35 dX6_act_35 rfl ?_
  refine kb_RX6_57 (bs' := [wMo o rw fr kp tr ik tp tm mso bg en wd va gd rs mu rm ss msz msh mho mhn mhz kd nb tn tc 0 ip, wMr G rw la ns sd to he sw nh ki te mi ar z, wI G mho 4 hof, wI G mhn 4 hnf, wI G tc 30 tcf]) (rest := []) (st' := [.int 1]) 36 (c_X6_in_t l G 1 0 5 (by decide)) [] rfl rfl [] rfl rfl rfl rfl rfl rfl (Nat.le_of_ble_eq_true rfl) rfl dX6_act_36 ?_
  refine J_if_ne (tgt := 44) 39 dX6_act_39 (by decide) (fun _ => ?_) (fun c_3_ => absurd c_3_ (by decide))
  refine J_aload_n 44 0 dX6_act_44 rfl rfl ?_
  refine J_iload 45 dX6_act_45 rfl ?_
  refine p_811 (ws' := (wF [wMo o rw fr kp tr ik tp tm mso bg en wd va gd rs mu rm ss msz msh mho mhn mhz 1 nb tn tc 0 ip, wMr G rw la ns sd to he sw nh ki te mi ar z, wI G mho 4 hof, wI G mhn 4 hnf, wI G tc 30 tcf])) 47 0 rfl rfl rfl (Nat.le_of_ble_eq_true rfl) rfl dX6_act_47 ?_
  refine J_aload_n 50 0 dX6_act_50 rfl rfl ?_
  refine J_aload_n 51 0 dX6_act_51 rfl rfl ?_
  refine g_809 (v := .ref mhn) 52 0 rfl rfl dX6_act_52 ?_
  refine J_iload_n 55 1 dX6_act_55 rfl rfl ?_
  refine J_iald 56 3 s rfl rfl (by omega) (by decide) dX6_act_56 ?_
  refine J_topi (y := nI j) 57 hhn ?_
  refine p_812 (ws' := (wF [wMo o rw fr kp tr ik tp tm mso bg en wd va gd rs mu rm ss msz msh mho mhn mhz 1 (nI j) tn tc 0 ip, wMr G rw la ns sd to he sw nh ki te mi ar z, wI G mho 4 hof, wI G mhn 4 hnf, wI G tc 30 tcf])) 57 0 rfl rfl rfl (Nat.le_of_ble_eq_true rfl) rfl dX6_act_57 ?_
  refine J_aload_n 60 0 dX6_act_60 rfl rfl ?_
  refine J_aload_n 61 0 dX6_act_61 rfl rfl ?_
  refine J_aload_n 62 0 dX6_act_62 rfl rfl ?_
  refine g_812 (v := .int (nI j)) 63 0 rfl rfl dX6_act_63 ?_
  refine J_iconst (v := 1) 66 dX6_act_66 rfl ?_
  refine kb_RX6_187 (bs' := [wMo o rw fr kp tr ik tp tm mso bg en wd va gd rs mu rm ss msz msh mho mhn mhz 1 (nI j) tn tc 0 ip, wMr G rw la ns sd to he sw nh ki te mi ar z, wI G mho 4 hof, wI G mhn 4 hnf, wI G tc 30 tcf]) (rest := [.ref o]) (st' := [.int (te j), .ref o]) 67 (c_X6_its_1 l G j o rw fr kp tr ik tp tm mso bg en wd va gd rs mu rm ss msz msh mho mhn mhz 1 (nI j) tn tc 0 ip la ns sd to he sw nh ki te mi ar z (by first | omega | assumption)) [0, 1] 0 rfl rfl rfl [[o], [rw]] rfl rfl rfl rfl rfl rfl (Nat.le_of_ble_eq_true rfl) rfl dX6_act_67 ?_
  refine p_813 (ws' := (wF [wMo o rw fr kp tr ik tp tm mso bg en wd va gd rs mu rm ss msz msh mho mhn mhz 1 (nI j) (te j) tc 0 ip, wMr G rw la ns sd to he sw nh ki te mi ar z, wI G mho 4 hof, wI G mhn 4 hnf, wI G tc 30 tcf])) 70 0 rfl rfl rfl (Nat.le_of_ble_eq_true rfl) rfl dX6_act_70 ?_
  refine J_aload_n 73 0 dX6_act_73 rfl rfl ?_
  refine J_iconst (v := 0) 74 dX6_act_74 rfl ?_
  refine p_816 (ws' := (wF [wMo o rw fr kp tr ik tp tm mso bg en wd va gd rs mu rm ss msz msh mho mhn mhz 1 (nI j) (te j) tc 0 0, wMr G rw la ns sd to he sw nh ki te mi ar z, wI G mho 4 hof, wI G mhn 4 hnf, wI G tc 30 tcf])) 75 0 rfl rfl rfl (Nat.le_of_ble_eq_true rfl) rfl dX6_act_75 ?_
  refine J_iload_n 78 2 dX6_act_78 rfl rfl ?_
  refine J_if_ne (tgt := 90) 79 dX6_act_79 (by decide) (fun _ => ?_) (fun c_4_ => absurd c_4_ (by decide))
  refine J_iload_n 90 2 dX6_act_90 rfl rfl ?_
  refine J_iconst (v := 1) 91 dX6_act_91 rfl ?_
  refine J_icmp_ne (tgt := 103) 92 dX6_act_92 (by decide) (fun _ => ?_) (fun c_5_ => absurd c_5_ (by decide))
  refine J_iload_n 103 2 dX6_act_103 rfl rfl ?_
  refine J_iconst (v := 2) 104 dX6_act_104 rfl ?_
  refine J_icmp_ne (tgt := 116) 105 dX6_act_105 (by decide) (fun c_6_ => absurd c_6_ (by decide)) (fun _ => ?_)
  refine J_aload_n 108 0 dX6_act_108 rfl rfl ?_
  refine J_iload_n 109 3 dX6_act_109 rfl rfl ?_
  refine kb_RX6_335 (bs' := [wMo o rw fr kp tr ik tp tm mso bg en wd va gd rs mu rm ss msz msh mho mhn mhz 1 (nI j) (te j) tc (0 + 1) 0, wMr G rw la ns sd to he sw nh ki te mi ar z, wI G mho 4 hof, wI G mhn 4 hnf, wI G tc 30 (pF [12] tcf 0)]) (rest := []) (st' := [.int (x / ((te j) - (nI j)))]) 110 (c_X6_partsIt_1 l G x o rw fr kp tr ik tp tm mso bg en wd va gd rs mu rm ss msz msh mho mhn mhz (nI j) (te j) tc 0 tcf (by decide) hz) [0, 4] 0 rfl rfl rfl [[o], [tc]] rfl rfl rfl rfl rfl rfl (Nat.le_of_ble_eq_true rfl) rfl dX6_act_110 ?_
  refine J_goto (tgt := 121) 113 dX6_act_113 (by decide) ?_
  refine J_istore (lv' := [some (.ref o), some (.int (nI s)), some (.int 2), some (.int x), some (.int 1), some (.int (x / ((te j) - (nI j))))]) 121 dX6_act_121 (by decide) rfl ?_
  refine J_aload_n 123 0 dX6_act_123 rfl rfl ?_
  refine g_816 (v := .int 0) 124 0 rfl rfl dX6_act_124 ?_
  refine J_if_eq (tgt := 135) 127 dX6_act_127 (by decide) (fun _ => ?_) (fun c_7_ => absurd c_7_ (by decide))
  refine J_iload 135 dX6_act_135 rfl ?_
  exact J_iret 137 dX6_act_137 rfl (cg1 (fun (x0_ : Nat) => (wF [wMo o rw fr kp tr ik tp tm mso bg en wd va gd rs mu rm ss msz msh mho mhn mhz 1 (nI j) (te j) tc x0_ 0, wMr G rw la ns sd to he sw nh ki te mi ar z, wI G mho 4 hof, wI G mhn 4 hnf, wI G tc 30 (pF [12] tcf 0)])) (0 + 1) 1 rfl)
set_option maxRecDepth 100000 in
set_option maxHeartbeats 4000000 in
theorem c_X6_act_1_2z (l : Launch) (G : Gd) (s : Nat) (x : Int32) (j : Nat) (o : Nat) (rw : Nat) (fr : Nat) (kp : Nat) (tr : Nat) (ik : Int32) (tp : Nat) (tm : Nat) (mso : Int32) (bg : Nat) (en : Nat) (wd : Int64) (va : Int32) (gd : Int32) (rs : Nat) (mu : Nat) (rm : Nat) (ss : Nat) (msz : Nat) (msh : Nat) (mho : Nat) (mhn : Nat) (mhz : Nat) (kd : Int32) (nb : Int32) (tn : Int32) (tc : Nat) (bo : Nat) (ip : Int32) (la : Nat → Int32) (ns : Nat) (sd : Nat) (to : Nat → Int32) (he : Nat → Int32) (sw : Nat → Int32) (nh : Nat) (ki : Nat → Int32) (te : Nat → Int32) (mi : Nat → Int32) (ar : Nat → Int32) (z : Int32) (hof : Nat → Int32) (hnf : Nat → Int32) (tcf : Nat → Int32) (hs : s ≤ 3) (hho : hof s = 0) (hhn : hnf s = nI j) (hj : j < nh) (hnh : nh ≤ 8) (hk : ki j = 1) (hz : te j = nI j) : Ct l G yX6_act cX6_act 6 (some (FieldType.int)) 8 [.ref o, .int (nI s), .int 2, .int x] (wF [wMo o rw fr kp tr ik tp tm mso bg en wd va gd rs mu rm ss msz msh mho mhn mhz kd nb tn tc bo ip, wMr G rw la ns sd to he sw nh ki te mi ar z, wI G mho 4 hof, wI G mhn 4 hnf, wI G tc 30 tcf]) (some (.int (-15))) (wF [wMo o rw fr kp tr ik tp tm mso bg en wd va gd rs mu rm ss msz msh mho mhn mhz 1 (nI j) (te j) tc 1 1, wMr G rw la ns sd to he sw nh ki te mi ar z, wI G mho 4 hof, wI G mhn 4 hnf, wI G tc 30 (pF [12] tcf 0)]) := by
  refine Ct.of "GooseArmsModel" [some (.ref o), some (.int (nI s)), some (.int 2), some (.int x), none, none] (by decide +kernel) rfl (Nat.le_of_ble_eq_true rfl) rfl ?_
  refine J_aload_n 0 0 dX6_act_0 rfl rfl ?_
  refine J_iconst (v := 0) 1 dX6_act_1 rfl ?_
  refine p_815 (ws' := (wF [wMo o rw fr kp tr ik tp tm mso bg en wd va gd rs mu rm ss msz msh mho mhn mhz kd nb tn tc 0 ip, wMr G rw la ns sd to he sw nh ki te mi ar z, wI G mho 4 hof, wI G mhn 4 hnf, wI G tc 30 tcf])) 2 0 rfl rfl rfl (Nat.le_of_ble_eq_true rfl) rfl dX6_act_2 ?_
  refine J_iload_n 5 1 dX6_act_5 rfl rfl ?_
  refine kb_RX6_262 (bs' := [wMo o rw fr kp tr ik tp tm mso bg en wd va gd rs mu rm ss msz msh mho mhn mhz kd nb tn tc 0 ip, wMr G rw la ns sd to he sw nh ki te mi ar z, wI G mho 4 hof, wI G mhn 4 hnf, wI G tc 30 tcf]) (rest := []) (st' := [.int 1]) 6 (c_X6_isShelf_t l G s (by first | omega | assumption)) [] rfl rfl [] rfl rfl rfl rfl rfl rfl (Nat.le_of_ble_eq_true rfl) rfl dX6_act_6 ?_
  refine J_if_eq (tgt := 20) 9 dX6_act_9 (by decide) (fun c_1_ => absurd c_1_ (by decide)) (fun _ => ?_)
  refine J_aload_n 12 0 dX6_act_12 rfl rfl ?_
  refine J_iload_n 13 1 dX6_act_13 rfl rfl ?_
  refine kb_RX6_290 (bs' := [wMo o rw fr kp tr ik tp tm mso bg en wd va gd rs mu rm ss msz msh mho mhn mhz kd nb tn tc 0 ip, wMr G rw la ns sd to he sw nh ki te mi ar z, wI G mho 4 hof, wI G mhn 4 hnf, wI G tc 30 tcf]) (rest := []) (st' := [.int (ki j)]) 14 (c_X6_kindOn_h l G s j o rw fr kp tr ik tp tm mso bg en wd va gd rs mu rm ss msz msh mho mhn mhz kd nb tn tc 0 ip la ns sd to he sw nh ki te mi ar z hof hnf (by first | omega | assumption) (by first | omega | assumption) (by first | omega | assumption) (by first | omega | assumption) (by first | omega | assumption)) [0, 1, 2, 3] 0 rfl rfl rfl [[o], [rw], [mho], [mhn]] rfl rfl rfl rfl rfl rfl (Nat.le_of_ble_eq_true rfl) rfl dX6_act_14 ?_
  refine J_topi (y := 1) 17 hk ?_
  refine J_goto (tgt := 21) 17 dX6_act_17 (by decide) ?_
  refine J_istore (lv' := [some (.ref o), some (.int (nI s)), some (.int 2), some (.int x), some (.int 1), none]) 21 dX6_act_21 (by decide) rfl ?_
  refine J_iload_n 23 2 dX6_act_23 rfl rfl ?_
  refine J_iconst (v := 0) 24 dX6_act_24 rfl ?_
  refine J_iconst (v := 3) 25 dX6_act_25 rfl ?_
  refine kb_RX6_57 (bs' := [wMo o rw fr kp tr ik tp tm mso bg en wd va gd rs mu rm ss msz msh mho mhn mhz kd nb tn tc 0 ip, wMr G rw la ns sd to he sw nh ki te mi ar z, wI G mho 4 hof, wI G mhn 4 hnf, wI G tc 30 tcf]) (rest := []) (st' := [.int 1]) 26 (c_X6_in_t l G 2 0 3 (by decide)) [] rfl rfl [] rfl rfl rfl rfl rfl rfl (Nat.le_of_ble_eq_true rfl) rfl dX6_act_26 ?_
  refine J_if_eq (tgt := 42) 29 dX6_act_29 (by decide) (fun c_2_ => absurd c_2_ (by decide)) (fun _ => ?_)
  refine J_iload 32 dX6_act_32 rfl ?_
  refine J_iconst (v := 0) 34 dX6_act_34 rfl ?_
  refine J_iconst (v := 5) 35 dX6_act_35 rfl ?_
  refine kb_RX6_57 (bs' := [wMo o rw fr kp tr ik tp tm mso bg en wd va gd rs mu rm ss msz msh mho mhn mhz kd nb tn tc 0 ip, wMr G rw la ns sd to he sw nh ki te mi ar z, wI G mho 4 hof, wI G mhn 4 hnf, wI G tc 30 tcf]) (rest := []) (st' := [.int 1]) 36 (c_X6_in_t l G 1 0 5 (by decide)) [] rfl rfl [] rfl rfl rfl rfl rfl rfl (Nat.le_of_ble_eq_true rfl) rfl dX6_act_36 ?_
  refine J_if_ne (tgt := 44) 39 dX6_act_39 (by decide) (fun _ => ?_) (fun c_3_ => absurd c_3_ (by decide))
  refine J_aload_n 44 0 dX6_act_44 rfl rfl ?_
  refine J_iload 45 dX6_act_45 rfl ?_
  refine p_811 (ws' := (wF [wMo o rw fr kp tr ik tp tm mso bg en wd va gd rs mu rm ss msz msh mho mhn mhz 1 nb tn tc 0 ip, wMr G rw la ns sd to he sw nh ki te mi ar z, wI G mho 4 hof, wI G mhn 4 hnf, wI G tc 30 tcf])) 47 0 rfl rfl rfl (Nat.le_of_ble_eq_true rfl) rfl dX6_act_47 ?_
  refine J_aload_n 50 0 dX6_act_50 rfl rfl ?_
  refine J_aload_n 51 0 dX6_act_51 rfl rfl ?_
  refine g_809 (v := .ref mhn) 52 0 rfl rfl dX6_act_52 ?_
  refine J_iload_n 55 1 dX6_act_55 rfl rfl ?_
  refine J_iald 56 3 s rfl rfl (by omega) (by decide) dX6_act_56 ?_
  refine J_topi (y := nI j) 57 hhn ?_
  refine p_812 (ws' := (wF [wMo o rw fr kp tr ik tp tm mso bg en wd va gd rs mu rm ss msz msh mho mhn mhz 1 (nI j) tn tc 0 ip, wMr G rw la ns sd to he sw nh ki te mi ar z, wI G mho 4 hof, wI G mhn 4 hnf, wI G tc 30 tcf])) 57 0 rfl rfl rfl (Nat.le_of_ble_eq_true rfl) rfl dX6_act_57 ?_
  refine J_aload_n 60 0 dX6_act_60 rfl rfl ?_
  refine J_aload_n 61 0 dX6_act_61 rfl rfl ?_
  refine J_aload_n 62 0 dX6_act_62 rfl rfl ?_
  refine g_812 (v := .int (nI j)) 63 0 rfl rfl dX6_act_63 ?_
  refine J_iconst (v := 1) 66 dX6_act_66 rfl ?_
  refine kb_RX6_187 (bs' := [wMo o rw fr kp tr ik tp tm mso bg en wd va gd rs mu rm ss msz msh mho mhn mhz 1 (nI j) tn tc 0 ip, wMr G rw la ns sd to he sw nh ki te mi ar z, wI G mho 4 hof, wI G mhn 4 hnf, wI G tc 30 tcf]) (rest := [.ref o]) (st' := [.int (te j), .ref o]) 67 (c_X6_its_1 l G j o rw fr kp tr ik tp tm mso bg en wd va gd rs mu rm ss msz msh mho mhn mhz 1 (nI j) tn tc 0 ip la ns sd to he sw nh ki te mi ar z (by first | omega | assumption)) [0, 1] 0 rfl rfl rfl [[o], [rw]] rfl rfl rfl rfl rfl rfl (Nat.le_of_ble_eq_true rfl) rfl dX6_act_67 ?_
  refine p_813 (ws' := (wF [wMo o rw fr kp tr ik tp tm mso bg en wd va gd rs mu rm ss msz msh mho mhn mhz 1 (nI j) (te j) tc 0 ip, wMr G rw la ns sd to he sw nh ki te mi ar z, wI G mho 4 hof, wI G mhn 4 hnf, wI G tc 30 tcf])) 70 0 rfl rfl rfl (Nat.le_of_ble_eq_true rfl) rfl dX6_act_70 ?_
  refine J_aload_n 73 0 dX6_act_73 rfl rfl ?_
  refine J_iconst (v := 0) 74 dX6_act_74 rfl ?_
  refine p_816 (ws' := (wF [wMo o rw fr kp tr ik tp tm mso bg en wd va gd rs mu rm ss msz msh mho mhn mhz 1 (nI j) (te j) tc 0 0, wMr G rw la ns sd to he sw nh ki te mi ar z, wI G mho 4 hof, wI G mhn 4 hnf, wI G tc 30 tcf])) 75 0 rfl rfl rfl (Nat.le_of_ble_eq_true rfl) rfl dX6_act_75 ?_
  refine J_iload_n 78 2 dX6_act_78 rfl rfl ?_
  refine J_if_ne (tgt := 90) 79 dX6_act_79 (by decide) (fun _ => ?_) (fun c_4_ => absurd c_4_ (by decide))
  refine J_iload_n 90 2 dX6_act_90 rfl rfl ?_
  refine J_iconst (v := 1) 91 dX6_act_91 rfl ?_
  refine J_icmp_ne (tgt := 103) 92 dX6_act_92 (by decide) (fun _ => ?_) (fun c_5_ => absurd c_5_ (by decide))
  refine J_iload_n 103 2 dX6_act_103 rfl rfl ?_
  refine J_iconst (v := 2) 104 dX6_act_104 rfl ?_
  refine J_icmp_ne (tgt := 116) 105 dX6_act_105 (by decide) (fun c_6_ => absurd c_6_ (by decide)) (fun _ => ?_)
  refine J_aload_n 108 0 dX6_act_108 rfl rfl ?_
  refine J_iload_n 109 3 dX6_act_109 rfl rfl ?_
  refine kb_RX6_335 (bs' := [wMo o rw fr kp tr ik tp tm mso bg en wd va gd rs mu rm ss msz msh mho mhn mhz 1 (nI j) (te j) tc (0 + 1) 1, wMr G rw la ns sd to he sw nh ki te mi ar z, wI G mho 4 hof, wI G mhn 4 hnf, wI G tc 30 (pF [12] tcf 0)]) (rest := []) (st' := [.int 0]) 110 (c_X6_partsIt_1z l G x o rw fr kp tr ik tp tm mso bg en wd va gd rs mu rm ss msz msh mho mhn mhz (nI j) (te j) tc 0 tcf (by decide) hz) [0, 4] 0 rfl rfl rfl [[o], [tc]] rfl rfl rfl rfl rfl rfl (Nat.le_of_ble_eq_true rfl) rfl dX6_act_110 ?_
  refine J_goto (tgt := 121) 113 dX6_act_113 (by decide) ?_
  refine J_istore (lv' := [some (.ref o), some (.int (nI s)), some (.int 2), some (.int x), some (.int 1), some (.int 0)]) 121 dX6_act_121 (by decide) rfl ?_
  refine J_aload_n 123 0 dX6_act_123 rfl rfl ?_
  refine g_816 (v := .int 1) 124 0 rfl rfl dX6_act_124 ?_
  refine J_if_eq (tgt := 135) 127 dX6_act_127 (by decide) (fun c_7_ => absurd c_7_ (by decide)) (fun _ => ?_)
  refine J_bipush (v := (-15)) 130 dX6_act_130 rfl ?_
  refine J_goto (tgt := 137) 132 dX6_act_132 (by decide) ?_
  exact J_iret 137 dX6_act_137 rfl (cg1 (fun (x0_ : Nat) => (wF [wMo o rw fr kp tr ik tp tm mso bg en wd va gd rs mu rm ss msz msh mho mhn mhz 1 (nI j) (te j) tc x0_ 1, wMr G rw la ns sd to he sw nh ki te mi ar z, wI G mho 4 hof, wI G mhn 4 hnf, wI G tc 30 (pF [12] tcf 0)])) (0 + 1) 1 rfl)
set_option maxRecDepth 100000 in
set_option maxHeartbeats 4000000 in
theorem c_X6_act_1_3 (l : Launch) (G : Gd) (s : Nat) (x : Int32) (j : Nat) (o : Nat) (rw : Nat) (fr : Nat) (kp : Nat) (tr : Nat) (ik : Int32) (tp : Nat) (tm : Nat) (mso : Int32) (bg : Nat) (en : Nat) (wd : Int64) (va : Int32) (gd : Int32) (rs : Nat) (mu : Nat) (rm : Nat) (ss : Nat) (msz : Nat) (msh : Nat) (mho : Nat) (mhn : Nat) (mhz : Nat) (kd : Int32) (nb : Int32) (tn : Int32) (tc : Nat) (bo : Nat) (ip : Int32) (la : Nat → Int32) (ns : Nat) (sd : Nat) (to : Nat → Int32) (he : Nat → Int32) (sw : Nat → Int32) (nh : Nat) (ki : Nat → Int32) (te : Nat → Int32) (mi : Nat → Int32) (ar : Nat → Int32) (z : Int32) (hof : Nat → Int32) (hnf : Nat → Int32) (tcf : Nat → Int32) (hs : s ≤ 3) (hho : hof s = 0) (hhn : hnf s = nI j) (hj : j < nh) (hnh : nh ≤ 8) (hk : ki j = 1) : Ct l G yX6_act cX6_act 6 (some (FieldType.int)) 8 [.ref o, .int (nI s), .int 3, .int x] (wF [wMo o rw fr kp tr ik tp tm mso bg en wd va gd rs mu rm ss msz msh mho mhn mhz kd nb tn tc bo ip, wMr G rw la ns sd to he sw nh ki te mi ar z, wI G mho 4 hof, wI G mhn 4 hnf, wI G tc 30 tcf]) (some (.int ((((x * 5 + (nI j)) - (te j)) * 2) ^^^ 150))) (wF [wMo o rw fr kp tr ik tp tm mso bg en wd va gd rs mu rm ss msz msh mho mhn mhz 1 (nI j) (te j) tc 4 0, wMr G rw la ns sd to he sw nh ki te mi ar z, wI G mho 4 hof, wI G mhn 4 hnf, wI G tc 30 (pF [13, 20, 11, 10] tcf 0)]) := by
  refine Ct.of "GooseArmsModel" [some (.ref o), some (.int (nI s)), some (.int 3), some (.int x), none, none] (by decide +kernel) rfl (Nat.le_of_ble_eq_true rfl) rfl ?_
  refine J_aload_n 0 0 dX6_act_0 rfl rfl ?_
  refine J_iconst (v := 0) 1 dX6_act_1 rfl ?_
  refine p_815 (ws' := (wF [wMo o rw fr kp tr ik tp tm mso bg en wd va gd rs mu rm ss msz msh mho mhn mhz kd nb tn tc 0 ip, wMr G rw la ns sd to he sw nh ki te mi ar z, wI G mho 4 hof, wI G mhn 4 hnf, wI G tc 30 tcf])) 2 0 rfl rfl rfl (Nat.le_of_ble_eq_true rfl) rfl dX6_act_2 ?_
  refine J_iload_n 5 1 dX6_act_5 rfl rfl ?_
  refine kb_RX6_262 (bs' := [wMo o rw fr kp tr ik tp tm mso bg en wd va gd rs mu rm ss msz msh mho mhn mhz kd nb tn tc 0 ip, wMr G rw la ns sd to he sw nh ki te mi ar z, wI G mho 4 hof, wI G mhn 4 hnf, wI G tc 30 tcf]) (rest := []) (st' := [.int 1]) 6 (c_X6_isShelf_t l G s (by first | omega | assumption)) [] rfl rfl [] rfl rfl rfl rfl rfl rfl (Nat.le_of_ble_eq_true rfl) rfl dX6_act_6 ?_
  refine J_if_eq (tgt := 20) 9 dX6_act_9 (by decide) (fun c_1_ => absurd c_1_ (by decide)) (fun _ => ?_)
  refine J_aload_n 12 0 dX6_act_12 rfl rfl ?_
  refine J_iload_n 13 1 dX6_act_13 rfl rfl ?_
  refine kb_RX6_290 (bs' := [wMo o rw fr kp tr ik tp tm mso bg en wd va gd rs mu rm ss msz msh mho mhn mhz kd nb tn tc 0 ip, wMr G rw la ns sd to he sw nh ki te mi ar z, wI G mho 4 hof, wI G mhn 4 hnf, wI G tc 30 tcf]) (rest := []) (st' := [.int (ki j)]) 14 (c_X6_kindOn_h l G s j o rw fr kp tr ik tp tm mso bg en wd va gd rs mu rm ss msz msh mho mhn mhz kd nb tn tc 0 ip la ns sd to he sw nh ki te mi ar z hof hnf (by first | omega | assumption) (by first | omega | assumption) (by first | omega | assumption) (by first | omega | assumption) (by first | omega | assumption)) [0, 1, 2, 3] 0 rfl rfl rfl [[o], [rw], [mho], [mhn]] rfl rfl rfl rfl rfl rfl (Nat.le_of_ble_eq_true rfl) rfl dX6_act_14 ?_
  refine J_topi (y := 1) 17 hk ?_
  refine J_goto (tgt := 21) 17 dX6_act_17 (by decide) ?_
  refine J_istore (lv' := [some (.ref o), some (.int (nI s)), some (.int 3), some (.int x), some (.int 1), none]) 21 dX6_act_21 (by decide) rfl ?_
  refine J_iload_n 23 2 dX6_act_23 rfl rfl ?_
  refine J_iconst (v := 0) 24 dX6_act_24 rfl ?_
  refine J_iconst (v := 3) 25 dX6_act_25 rfl ?_
  refine kb_RX6_57 (bs' := [wMo o rw fr kp tr ik tp tm mso bg en wd va gd rs mu rm ss msz msh mho mhn mhz kd nb tn tc 0 ip, wMr G rw la ns sd to he sw nh ki te mi ar z, wI G mho 4 hof, wI G mhn 4 hnf, wI G tc 30 tcf]) (rest := []) (st' := [.int 1]) 26 (c_X6_in_t l G 3 0 3 (by decide)) [] rfl rfl [] rfl rfl rfl rfl rfl rfl (Nat.le_of_ble_eq_true rfl) rfl dX6_act_26 ?_
  refine J_if_eq (tgt := 42) 29 dX6_act_29 (by decide) (fun c_2_ => absurd c_2_ (by decide)) (fun _ => ?_)
  refine J_iload 32 dX6_act_32 rfl ?_
  refine J_iconst (v := 0) 34 dX6_act_34 rfl ?_
  refine J_iconst (v := 5) 35 dX6_act_35 rfl ?_
  refine kb_RX6_57 (bs' := [wMo o rw fr kp tr ik tp tm mso bg en wd va gd rs mu rm ss msz msh mho mhn mhz kd nb tn tc 0 ip, wMr G rw la ns sd to he sw nh ki te mi ar z, wI G mho 4 hof, wI G mhn 4 hnf, wI G tc 30 tcf]) (rest := []) (st' := [.int 1]) 36 (c_X6_in_t l G 1 0 5 (by decide)) [] rfl rfl [] rfl rfl rfl rfl rfl rfl (Nat.le_of_ble_eq_true rfl) rfl dX6_act_36 ?_
  refine J_if_ne (tgt := 44) 39 dX6_act_39 (by decide) (fun _ => ?_) (fun c_3_ => absurd c_3_ (by decide))
  refine J_aload_n 44 0 dX6_act_44 rfl rfl ?_
  refine J_iload 45 dX6_act_45 rfl ?_
  refine p_811 (ws' := (wF [wMo o rw fr kp tr ik tp tm mso bg en wd va gd rs mu rm ss msz msh mho mhn mhz 1 nb tn tc 0 ip, wMr G rw la ns sd to he sw nh ki te mi ar z, wI G mho 4 hof, wI G mhn 4 hnf, wI G tc 30 tcf])) 47 0 rfl rfl rfl (Nat.le_of_ble_eq_true rfl) rfl dX6_act_47 ?_
  refine J_aload_n 50 0 dX6_act_50 rfl rfl ?_
  refine J_aload_n 51 0 dX6_act_51 rfl rfl ?_
  refine g_809 (v := .ref mhn) 52 0 rfl rfl dX6_act_52 ?_
  refine J_iload_n 55 1 dX6_act_55 rfl rfl ?_
  refine J_iald 56 3 s rfl rfl (by omega) (by decide) dX6_act_56 ?_
  refine J_topi (y := nI j) 57 hhn ?_
  refine p_812 (ws' := (wF [wMo o rw fr kp tr ik tp tm mso bg en wd va gd rs mu rm ss msz msh mho mhn mhz 1 (nI j) tn tc 0 ip, wMr G rw la ns sd to he sw nh ki te mi ar z, wI G mho 4 hof, wI G mhn 4 hnf, wI G tc 30 tcf])) 57 0 rfl rfl rfl (Nat.le_of_ble_eq_true rfl) rfl dX6_act_57 ?_
  refine J_aload_n 60 0 dX6_act_60 rfl rfl ?_
  refine J_aload_n 61 0 dX6_act_61 rfl rfl ?_
  refine J_aload_n 62 0 dX6_act_62 rfl rfl ?_
  refine g_812 (v := .int (nI j)) 63 0 rfl rfl dX6_act_63 ?_
  refine J_iconst (v := 1) 66 dX6_act_66 rfl ?_
  refine kb_RX6_187 (bs' := [wMo o rw fr kp tr ik tp tm mso bg en wd va gd rs mu rm ss msz msh mho mhn mhz 1 (nI j) tn tc 0 ip, wMr G rw la ns sd to he sw nh ki te mi ar z, wI G mho 4 hof, wI G mhn 4 hnf, wI G tc 30 tcf]) (rest := [.ref o]) (st' := [.int (te j), .ref o]) 67 (c_X6_its_1 l G j o rw fr kp tr ik tp tm mso bg en wd va gd rs mu rm ss msz msh mho mhn mhz 1 (nI j) tn tc 0 ip la ns sd to he sw nh ki te mi ar z (by first | omega | assumption)) [0, 1] 0 rfl rfl rfl [[o], [rw]] rfl rfl rfl rfl rfl rfl (Nat.le_of_ble_eq_true rfl) rfl dX6_act_67 ?_
  refine p_813 (ws' := (wF [wMo o rw fr kp tr ik tp tm mso bg en wd va gd rs mu rm ss msz msh mho mhn mhz 1 (nI j) (te j) tc 0 ip, wMr G rw la ns sd to he sw nh ki te mi ar z, wI G mho 4 hof, wI G mhn 4 hnf, wI G tc 30 tcf])) 70 0 rfl rfl rfl (Nat.le_of_ble_eq_true rfl) rfl dX6_act_70 ?_
  refine J_aload_n 73 0 dX6_act_73 rfl rfl ?_
  refine J_iconst (v := 0) 74 dX6_act_74 rfl ?_
  refine p_816 (ws' := (wF [wMo o rw fr kp tr ik tp tm mso bg en wd va gd rs mu rm ss msz msh mho mhn mhz 1 (nI j) (te j) tc 0 0, wMr G rw la ns sd to he sw nh ki te mi ar z, wI G mho 4 hof, wI G mhn 4 hnf, wI G tc 30 tcf])) 75 0 rfl rfl rfl (Nat.le_of_ble_eq_true rfl) rfl dX6_act_75 ?_
  refine J_iload_n 78 2 dX6_act_78 rfl rfl ?_
  refine J_if_ne (tgt := 90) 79 dX6_act_79 (by decide) (fun _ => ?_) (fun c_4_ => absurd c_4_ (by decide))
  refine J_iload_n 90 2 dX6_act_90 rfl rfl ?_
  refine J_iconst (v := 1) 91 dX6_act_91 rfl ?_
  refine J_icmp_ne (tgt := 103) 92 dX6_act_92 (by decide) (fun _ => ?_) (fun c_5_ => absurd c_5_ (by decide))
  refine J_iload_n 103 2 dX6_act_103 rfl rfl ?_
  refine J_iconst (v := 2) 104 dX6_act_104 rfl ?_
  refine J_icmp_ne (tgt := 116) 105 dX6_act_105 (by decide) (fun _ => ?_) (fun c_6_ => absurd c_6_ (by decide))
  refine J_aload_n 116 0 dX6_act_116 rfl rfl ?_
  refine J_iload_n 117 3 dX6_act_117 rfl rfl ?_
  refine kb_RX6_338 (bs' := [wMo o rw fr kp tr ik tp tm mso bg en wd va gd rs mu rm ss msz msh mho mhn mhz 1 (nI j) (te j) tc (0 + 4) 0, wMr G rw la ns sd to he sw nh ki te mi ar z, wI G mho 4 hof, wI G mhn 4 hnf, wI G tc 30 (pF [13, 20, 11, 10] tcf 0)]) (rest := []) (st' := [.int ((((x * 5 + (nI j)) - (te j)) * 2) ^^^ 150)]) 118 (c_X6_swearsIt_1 l G x o rw fr kp tr ik tp tm mso bg en wd va gd rs mu rm ss msz msh mho mhn mhz (nI j) (te j) tc 0 tcf (by decide)) [0, 4] 0 rfl rfl rfl [[o], [tc]] rfl rfl rfl rfl rfl rfl (Nat.le_of_ble_eq_true rfl) rfl dX6_act_118 ?_
  refine J_istore (lv' := [some (.ref o), some (.int (nI s)), some (.int 3), some (.int x), some (.int 1), some (.int ((((x * 5 + (nI j)) - (te j)) * 2) ^^^ 150))]) 121 dX6_act_121 (by decide) rfl ?_
  refine J_aload_n 123 0 dX6_act_123 rfl rfl ?_
  refine g_816 (v := .int 0) 124 0 rfl rfl dX6_act_124 ?_
  refine J_if_eq (tgt := 135) 127 dX6_act_127 (by decide) (fun _ => ?_) (fun c_7_ => absurd c_7_ (by decide))
  refine J_iload 135 dX6_act_135 rfl ?_
  exact J_iret 137 dX6_act_137 rfl (cg1 (fun (x0_ : Nat) => (wF [wMo o rw fr kp tr ik tp tm mso bg en wd va gd rs mu rm ss msz msh mho mhn mhz 1 (nI j) (te j) tc x0_ 0, wMr G rw la ns sd to he sw nh ki te mi ar z, wI G mho 4 hof, wI G mhn 4 hnf, wI G tc 30 (pF [13, 20, 11, 10] tcf 0)])) (0 + 4) 4 rfl)
set_option maxRecDepth 100000 in
set_option maxHeartbeats 4000000 in
theorem c_X6_act_2_0 (l : Launch) (G : Gd) (s : Nat) (x : Int32) (j : Nat) (o : Nat) (rw : Nat) (fr : Nat) (kp : Nat) (tr : Nat) (ik : Int32) (tp : Nat) (tm : Nat) (mso : Int32) (bg : Nat) (en : Nat) (wd : Int64) (va : Int32) (gd : Int32) (rs : Nat) (mu : Nat) (rm : Nat) (ss : Nat) (msz : Nat) (msh : Nat) (mho : Nat) (mhn : Nat) (mhz : Nat) (kd : Int32) (nb : Int32) (tn : Int32) (tc : Nat) (bo : Nat) (ip : Int32) (la : Nat → Int32) (ns : Nat) (sd : Nat) (to : Nat → Int32) (he : Nat → Int32) (sw : Nat → Int32) (nh : Nat) (ki : Nat → Int32) (te : Nat → Int32) (mi : Nat → Int32) (ar : Nat → Int32) (z : Int32) (hof : Nat → Int32) (hnf : Nat → Int32) (tcf : Nat → Int32) (hs : s ≤ 3) (hho : hof s = 0) (hhn : hnf s = nI j) (hj : j < nh) (hnh : nh ≤ 8) (hk : ki j = 2) : Ct l G yX6_act cX6_act 6 (some (FieldType.int)) 8 [.ref o, .int (nI s), .int 0, .int x] (wF [wMo o rw fr kp tr ik tp tm mso bg en wd va gd rs mu rm ss msz msh mho mhn mhz kd nb tn tc bo ip, wMr G rw la ns sd to he sw nh ki te mi ar z, wI G mho 4 hof, wI G mhn 4 hnf, wI G tc 30 tcf]) (some (.int ((x * 5 + (nI j)) - 4))) (wF [wMo o rw fr kp tr ik tp tm mso bg en wd va gd rs mu rm ss msz msh mho mhn mhz 2 (nI j) (te j) tc 2 0, wMr G rw la ns sd to he sw nh ki te mi ar z, wI G mho 4 hof, wI G mhn 4 hnf, wI G tc 30 (pF [30, 10] tcf 0)]) := by
  refine Ct.of "GooseArmsModel" [some (.ref o), some (.int (nI s)), some (.int 0), some (.int x), none, none] (by decide +kernel) rfl (Nat.le_of_ble_eq_true rfl) rfl ?_
  refine J_aload_n 0 0 dX6_act_0 rfl rfl ?_
  refine J_iconst (v := 0) 1 dX6_act_1 rfl ?_
  refine p_815 (ws' := (wF [wMo o rw fr kp tr ik tp tm mso bg en wd va gd rs mu rm ss msz msh mho mhn mhz kd nb tn tc 0 ip, wMr G rw la ns sd to he sw nh ki te mi ar z, wI G mho 4 hof, wI G mhn 4 hnf, wI G tc 30 tcf])) 2 0 rfl rfl rfl (Nat.le_of_ble_eq_true rfl) rfl dX6_act_2 ?_
  refine J_iload_n 5 1 dX6_act_5 rfl rfl ?_
  refine kb_RX6_262 (bs' := [wMo o rw fr kp tr ik tp tm mso bg en wd va gd rs mu rm ss msz msh mho mhn mhz kd nb tn tc 0 ip, wMr G rw la ns sd to he sw nh ki te mi ar z, wI G mho 4 hof, wI G mhn 4 hnf, wI G tc 30 tcf]) (rest := []) (st' := [.int 1]) 6 (c_X6_isShelf_t l G s (by first | omega | assumption)) [] rfl rfl [] rfl rfl rfl rfl rfl rfl (Nat.le_of_ble_eq_true rfl) rfl dX6_act_6 ?_
  refine J_if_eq (tgt := 20) 9 dX6_act_9 (by decide) (fun c_1_ => absurd c_1_ (by decide)) (fun _ => ?_)
  refine J_aload_n 12 0 dX6_act_12 rfl rfl ?_
  refine J_iload_n 13 1 dX6_act_13 rfl rfl ?_
  refine kb_RX6_290 (bs' := [wMo o rw fr kp tr ik tp tm mso bg en wd va gd rs mu rm ss msz msh mho mhn mhz kd nb tn tc 0 ip, wMr G rw la ns sd to he sw nh ki te mi ar z, wI G mho 4 hof, wI G mhn 4 hnf, wI G tc 30 tcf]) (rest := []) (st' := [.int (ki j)]) 14 (c_X6_kindOn_h l G s j o rw fr kp tr ik tp tm mso bg en wd va gd rs mu rm ss msz msh mho mhn mhz kd nb tn tc 0 ip la ns sd to he sw nh ki te mi ar z hof hnf (by first | omega | assumption) (by first | omega | assumption) (by first | omega | assumption) (by first | omega | assumption) (by first | omega | assumption)) [0, 1, 2, 3] 0 rfl rfl rfl [[o], [rw], [mho], [mhn]] rfl rfl rfl rfl rfl rfl (Nat.le_of_ble_eq_true rfl) rfl dX6_act_14 ?_
  refine J_topi (y := 2) 17 hk ?_
  refine J_goto (tgt := 21) 17 dX6_act_17 (by decide) ?_
  refine J_istore (lv' := [some (.ref o), some (.int (nI s)), some (.int 0), some (.int x), some (.int 2), none]) 21 dX6_act_21 (by decide) rfl ?_
  refine J_iload_n 23 2 dX6_act_23 rfl rfl ?_
  refine J_iconst (v := 0) 24 dX6_act_24 rfl ?_
  refine J_iconst (v := 3) 25 dX6_act_25 rfl ?_
  refine kb_RX6_57 (bs' := [wMo o rw fr kp tr ik tp tm mso bg en wd va gd rs mu rm ss msz msh mho mhn mhz kd nb tn tc 0 ip, wMr G rw la ns sd to he sw nh ki te mi ar z, wI G mho 4 hof, wI G mhn 4 hnf, wI G tc 30 tcf]) (rest := []) (st' := [.int 1]) 26 (c_X6_in_t l G 0 0 3 (by decide)) [] rfl rfl [] rfl rfl rfl rfl rfl rfl (Nat.le_of_ble_eq_true rfl) rfl dX6_act_26 ?_
  refine J_if_eq (tgt := 42) 29 dX6_act_29 (by decide) (fun c_2_ => absurd c_2_ (by decide)) (fun _ => ?_)
  refine J_iload 32 dX6_act_32 rfl ?_
  refine J_iconst (v := 0) 34 dX6_act_34 rfl ?_
  refine J_iconst (v := 5) 35 dX6_act_35 rfl ?_
  refine kb_RX6_57 (bs' := [wMo o rw fr kp tr ik tp tm mso bg en wd va gd rs mu rm ss msz msh mho mhn mhz kd nb tn tc 0 ip, wMr G rw la ns sd to he sw nh ki te mi ar z, wI G mho 4 hof, wI G mhn 4 hnf, wI G tc 30 tcf]) (rest := []) (st' := [.int 1]) 36 (c_X6_in_t l G 2 0 5 (by decide)) [] rfl rfl [] rfl rfl rfl rfl rfl rfl (Nat.le_of_ble_eq_true rfl) rfl dX6_act_36 ?_
  refine J_if_ne (tgt := 44) 39 dX6_act_39 (by decide) (fun _ => ?_) (fun c_3_ => absurd c_3_ (by decide))
  refine J_aload_n 44 0 dX6_act_44 rfl rfl ?_
  refine J_iload 45 dX6_act_45 rfl ?_
  refine p_811 (ws' := (wF [wMo o rw fr kp tr ik tp tm mso bg en wd va gd rs mu rm ss msz msh mho mhn mhz 2 nb tn tc 0 ip, wMr G rw la ns sd to he sw nh ki te mi ar z, wI G mho 4 hof, wI G mhn 4 hnf, wI G tc 30 tcf])) 47 0 rfl rfl rfl (Nat.le_of_ble_eq_true rfl) rfl dX6_act_47 ?_
  refine J_aload_n 50 0 dX6_act_50 rfl rfl ?_
  refine J_aload_n 51 0 dX6_act_51 rfl rfl ?_
  refine g_809 (v := .ref mhn) 52 0 rfl rfl dX6_act_52 ?_
  refine J_iload_n 55 1 dX6_act_55 rfl rfl ?_
  refine J_iald 56 3 s rfl rfl (by omega) (by decide) dX6_act_56 ?_
  refine J_topi (y := nI j) 57 hhn ?_
  refine p_812 (ws' := (wF [wMo o rw fr kp tr ik tp tm mso bg en wd va gd rs mu rm ss msz msh mho mhn mhz 2 (nI j) tn tc 0 ip, wMr G rw la ns sd to he sw nh ki te mi ar z, wI G mho 4 hof, wI G mhn 4 hnf, wI G tc 30 tcf])) 57 0 rfl rfl rfl (Nat.le_of_ble_eq_true rfl) rfl dX6_act_57 ?_
  refine J_aload_n 60 0 dX6_act_60 rfl rfl ?_
  refine J_aload_n 61 0 dX6_act_61 rfl rfl ?_
  refine J_aload_n 62 0 dX6_act_62 rfl rfl ?_
  refine g_812 (v := .int (nI j)) 63 0 rfl rfl dX6_act_63 ?_
  refine J_iconst (v := 1) 66 dX6_act_66 rfl ?_
  refine kb_RX6_187 (bs' := [wMo o rw fr kp tr ik tp tm mso bg en wd va gd rs mu rm ss msz msh mho mhn mhz 2 (nI j) tn tc 0 ip, wMr G rw la ns sd to he sw nh ki te mi ar z, wI G mho 4 hof, wI G mhn 4 hnf, wI G tc 30 tcf]) (rest := [.ref o]) (st' := [.int (te j), .ref o]) 67 (c_X6_its_1 l G j o rw fr kp tr ik tp tm mso bg en wd va gd rs mu rm ss msz msh mho mhn mhz 2 (nI j) tn tc 0 ip la ns sd to he sw nh ki te mi ar z (by first | omega | assumption)) [0, 1] 0 rfl rfl rfl [[o], [rw]] rfl rfl rfl rfl rfl rfl (Nat.le_of_ble_eq_true rfl) rfl dX6_act_67 ?_
  refine p_813 (ws' := (wF [wMo o rw fr kp tr ik tp tm mso bg en wd va gd rs mu rm ss msz msh mho mhn mhz 2 (nI j) (te j) tc 0 ip, wMr G rw la ns sd to he sw nh ki te mi ar z, wI G mho 4 hof, wI G mhn 4 hnf, wI G tc 30 tcf])) 70 0 rfl rfl rfl (Nat.le_of_ble_eq_true rfl) rfl dX6_act_70 ?_
  refine J_aload_n 73 0 dX6_act_73 rfl rfl ?_
  refine J_iconst (v := 0) 74 dX6_act_74 rfl ?_
  refine p_816 (ws' := (wF [wMo o rw fr kp tr ik tp tm mso bg en wd va gd rs mu rm ss msz msh mho mhn mhz 2 (nI j) (te j) tc 0 0, wMr G rw la ns sd to he sw nh ki te mi ar z, wI G mho 4 hof, wI G mhn 4 hnf, wI G tc 30 tcf])) 75 0 rfl rfl rfl (Nat.le_of_ble_eq_true rfl) rfl dX6_act_75 ?_
  refine J_iload_n 78 2 dX6_act_78 rfl rfl ?_
  refine J_if_ne (tgt := 90) 79 dX6_act_79 (by decide) (fun c_4_ => absurd c_4_ (by decide)) (fun _ => ?_)
  refine J_aload_n 82 0 dX6_act_82 rfl rfl ?_
  refine J_iload_n 83 3 dX6_act_83 rfl rfl ?_
  refine kb_RX6_317 (bs' := [wMo o rw fr kp tr ik tp tm mso bg en wd va gd rs mu rm ss msz msh mho mhn mhz 2 (nI j) (te j) tc (0 + 2) 0, wMr G rw la ns sd to he sw nh ki te mi ar z, wI G mho 4 hof, wI G mhn 4 hnf, wI G tc 30 (pF [30, 10] tcf 0)]) (rest := []) (st' := [.int ((x * 5 + (nI j)) - 4)]) 84 (c_X6_shakesIt_2 l G x o rw fr kp tr ik tp tm mso bg en wd va gd rs mu rm ss msz msh mho mhn mhz (nI j) (te j) tc 0 tcf (by decide)) [0, 4] 0 rfl rfl rfl [[o], [tc]] rfl rfl rfl rfl rfl rfl (Nat.le_of_ble_eq_true rfl) rfl dX6_act_84 ?_
  refine J_goto (tgt := 121) 87 dX6_act_87 (by decide) ?_
  refine J_istore (lv' := [some (.ref o), some (.int (nI s)), some (.int 0), some (.int x), some (.int 2), some (.int ((x * 5 + (nI j)) - 4))]) 121 dX6_act_121 (by decide) rfl ?_
  refine J_aload_n 123 0 dX6_act_123 rfl rfl ?_
  refine g_816 (v := .int 0) 124 0 rfl rfl dX6_act_124 ?_
  refine J_if_eq (tgt := 135) 127 dX6_act_127 (by decide) (fun _ => ?_) (fun c_5_ => absurd c_5_ (by decide))
  refine J_iload 135 dX6_act_135 rfl ?_
  exact J_iret 137 dX6_act_137 rfl (cg1 (fun (x0_ : Nat) => (wF [wMo o rw fr kp tr ik tp tm mso bg en wd va gd rs mu rm ss msz msh mho mhn mhz 2 (nI j) (te j) tc x0_ 0, wMr G rw la ns sd to he sw nh ki te mi ar z, wI G mho 4 hof, wI G mhn 4 hnf, wI G tc 30 (pF [30, 10] tcf 0)])) (0 + 2) 2 rfl)
set_option maxRecDepth 100000 in
set_option maxHeartbeats 4000000 in
theorem c_X6_act_2_1 (l : Launch) (G : Gd) (s : Nat) (x : Int32) (j : Nat) (o : Nat) (rw : Nat) (fr : Nat) (kp : Nat) (tr : Nat) (ik : Int32) (tp : Nat) (tm : Nat) (mso : Int32) (bg : Nat) (en : Nat) (wd : Int64) (va : Int32) (gd : Int32) (rs : Nat) (mu : Nat) (rm : Nat) (ss : Nat) (msz : Nat) (msh : Nat) (mho : Nat) (mhn : Nat) (mhz : Nat) (kd : Int32) (nb : Int32) (tn : Int32) (tc : Nat) (bo : Nat) (ip : Int32) (la : Nat → Int32) (ns : Nat) (sd : Nat) (to : Nat → Int32) (he : Nat → Int32) (sw : Nat → Int32) (nh : Nat) (ki : Nat → Int32) (te : Nat → Int32) (mi : Nat → Int32) (ar : Nat → Int32) (z : Int32) (hof : Nat → Int32) (hnf : Nat → Int32) (tcf : Nat → Int32) (hs : s ≤ 3) (hho : hof s = 0) (hhn : hnf s = nI j) (hj : j < nh) (hnh : nh ≤ 8) (hk : ki j = 2) : Ct l G yX6_act cX6_act 6 (some (FieldType.int)) 8 [.ref o, .int (nI s), .int 1, .int x] (wF [wMo o rw fr kp tr ik tp tm mso bg en wd va gd rs mu rm ss msz msh mho mhn mhz kd nb tn tc bo ip, wMr G rw la ns sd to he sw nh ki te mi ar z, wI G mho 4 hof, wI G mhn 4 hnf, wI G tc 30 tcf]) (some (.int (((x * 5 + (nI j)) - 4) - (te j)))) (wF [wMo o rw fr kp tr ik tp tm mso bg en wd va gd rs mu rm ss msz msh mho mhn mhz 2 (nI j) (te j) tc 3 0, wMr G rw la ns sd to he sw nh ki te mi ar z, wI G mho 4 hof, wI G mhn 4 hnf, wI G tc 30 (pF [11, 30, 10] tcf 0)]) := by
  refine Ct.of "GooseArmsModel" [some (.ref o), some (.int (nI s)), some (.int 1), some (.int x), none, none] (by decide +kernel) rfl (Nat.le_of_ble_eq_true rfl) rfl ?_
  refine J_aload_n 0 0 dX6_act_0 rfl rfl ?_
  refine J_iconst (v := 0) 1 dX6_act_1 rfl ?_
  refine p_815 (ws' := (wF [wMo o rw fr kp tr ik tp tm mso bg en wd va gd rs mu rm ss msz msh mho mhn mhz kd nb tn tc 0 ip, wMr G rw la ns sd to he sw nh ki te mi ar z, wI G mho 4 hof, wI G mhn 4 hnf, wI G tc 30 tcf])) 2 0 rfl rfl rfl (Nat.le_of_ble_eq_true rfl) rfl dX6_act_2 ?_
  refine J_iload_n 5 1 dX6_act_5 rfl rfl ?_
  refine kb_RX6_262 (bs' := [wMo o rw fr kp tr ik tp tm mso bg en wd va gd rs mu rm ss msz msh mho mhn mhz kd nb tn tc 0 ip, wMr G rw la ns sd to he sw nh ki te mi ar z, wI G mho 4 hof, wI G mhn 4 hnf, wI G tc 30 tcf]) (rest := []) (st' := [.int 1]) 6 (c_X6_isShelf_t l G s (by first | omega | assumption)) [] rfl rfl [] rfl rfl rfl rfl rfl rfl (Nat.le_of_ble_eq_true rfl) rfl dX6_act_6 ?_
  refine J_if_eq (tgt := 20) 9 dX6_act_9 (by decide) (fun c_1_ => absurd c_1_ (by decide)) (fun _ => ?_)
  refine J_aload_n 12 0 dX6_act_12 rfl rfl ?_
  refine J_iload_n 13 1 dX6_act_13 rfl rfl ?_
  refine kb_RX6_290 (bs' := [wMo o rw fr kp tr ik tp tm mso bg en wd va gd rs mu rm ss msz msh mho mhn mhz kd nb tn tc 0 ip, wMr G rw la ns sd to he sw nh ki te mi ar z, wI G mho 4 hof, wI G mhn 4 hnf, wI G tc 30 tcf]) (rest := []) (st' := [.int (ki j)]) 14 (c_X6_kindOn_h l G s j o rw fr kp tr ik tp tm mso bg en wd va gd rs mu rm ss msz msh mho mhn mhz kd nb tn tc 0 ip la ns sd to he sw nh ki te mi ar z hof hnf (by first | omega | assumption) (by first | omega | assumption) (by first | omega | assumption) (by first | omega | assumption) (by first | omega | assumption)) [0, 1, 2, 3] 0 rfl rfl rfl [[o], [rw], [mho], [mhn]] rfl rfl rfl rfl rfl rfl (Nat.le_of_ble_eq_true rfl) rfl dX6_act_14 ?_
  refine J_topi (y := 2) 17 hk ?_
  refine J_goto (tgt := 21) 17 dX6_act_17 (by decide) ?_
  refine J_istore (lv' := [some (.ref o), some (.int (nI s)), some (.int 1), some (.int x), some (.int 2), none]) 21 dX6_act_21 (by decide) rfl ?_
  refine J_iload_n 23 2 dX6_act_23 rfl rfl ?_
  refine J_iconst (v := 0) 24 dX6_act_24 rfl ?_
  refine J_iconst (v := 3) 25 dX6_act_25 rfl ?_
  refine kb_RX6_57 (bs' := [wMo o rw fr kp tr ik tp tm mso bg en wd va gd rs mu rm ss msz msh mho mhn mhz kd nb tn tc 0 ip, wMr G rw la ns sd to he sw nh ki te mi ar z, wI G mho 4 hof, wI G mhn 4 hnf, wI G tc 30 tcf]) (rest := []) (st' := [.int 1]) 26 (c_X6_in_t l G 1 0 3 (by decide)) [] rfl rfl [] rfl rfl rfl rfl rfl rfl (Nat.le_of_ble_eq_true rfl) rfl dX6_act_26 ?_
  refine J_if_eq (tgt := 42) 29 dX6_act_29 (by decide) (fun c_2_ => absurd c_2_ (by decide)) (fun _ => ?_)
  refine J_iload 32 dX6_act_32 rfl ?_
  refine J_iconst (v := 0) 34 dX6_act_34 rfl ?_
  refine J_iconst (v := 5) 35 dX6_act_35 rfl ?_
  refine kb_RX6_57 (bs' := [wMo o rw fr kp tr ik tp tm mso bg en wd va gd rs mu rm ss msz msh mho mhn mhz kd nb tn tc 0 ip, wMr G rw la ns sd to he sw nh ki te mi ar z, wI G mho 4 hof, wI G mhn 4 hnf, wI G tc 30 tcf]) (rest := []) (st' := [.int 1]) 36 (c_X6_in_t l G 2 0 5 (by decide)) [] rfl rfl [] rfl rfl rfl rfl rfl rfl (Nat.le_of_ble_eq_true rfl) rfl dX6_act_36 ?_
  refine J_if_ne (tgt := 44) 39 dX6_act_39 (by decide) (fun _ => ?_) (fun c_3_ => absurd c_3_ (by decide))
  refine J_aload_n 44 0 dX6_act_44 rfl rfl ?_
  refine J_iload 45 dX6_act_45 rfl ?_
  refine p_811 (ws' := (wF [wMo o rw fr kp tr ik tp tm mso bg en wd va gd rs mu rm ss msz msh mho mhn mhz 2 nb tn tc 0 ip, wMr G rw la ns sd to he sw nh ki te mi ar z, wI G mho 4 hof, wI G mhn 4 hnf, wI G tc 30 tcf])) 47 0 rfl rfl rfl (Nat.le_of_ble_eq_true rfl) rfl dX6_act_47 ?_
  refine J_aload_n 50 0 dX6_act_50 rfl rfl ?_
  refine J_aload_n 51 0 dX6_act_51 rfl rfl ?_
  refine g_809 (v := .ref mhn) 52 0 rfl rfl dX6_act_52 ?_
  refine J_iload_n 55 1 dX6_act_55 rfl rfl ?_
  refine J_iald 56 3 s rfl rfl (by omega) (by decide) dX6_act_56 ?_
  refine J_topi (y := nI j) 57 hhn ?_
  refine p_812 (ws' := (wF [wMo o rw fr kp tr ik tp tm mso bg en wd va gd rs mu rm ss msz msh mho mhn mhz 2 (nI j) tn tc 0 ip, wMr G rw la ns sd to he sw nh ki te mi ar z, wI G mho 4 hof, wI G mhn 4 hnf, wI G tc 30 tcf])) 57 0 rfl rfl rfl (Nat.le_of_ble_eq_true rfl) rfl dX6_act_57 ?_
  refine J_aload_n 60 0 dX6_act_60 rfl rfl ?_
  refine J_aload_n 61 0 dX6_act_61 rfl rfl ?_
  refine J_aload_n 62 0 dX6_act_62 rfl rfl ?_
  refine g_812 (v := .int (nI j)) 63 0 rfl rfl dX6_act_63 ?_
  refine J_iconst (v := 1) 66 dX6_act_66 rfl ?_
  refine kb_RX6_187 (bs' := [wMo o rw fr kp tr ik tp tm mso bg en wd va gd rs mu rm ss msz msh mho mhn mhz 2 (nI j) tn tc 0 ip, wMr G rw la ns sd to he sw nh ki te mi ar z, wI G mho 4 hof, wI G mhn 4 hnf, wI G tc 30 tcf]) (rest := [.ref o]) (st' := [.int (te j), .ref o]) 67 (c_X6_its_1 l G j o rw fr kp tr ik tp tm mso bg en wd va gd rs mu rm ss msz msh mho mhn mhz 2 (nI j) tn tc 0 ip la ns sd to he sw nh ki te mi ar z (by first | omega | assumption)) [0, 1] 0 rfl rfl rfl [[o], [rw]] rfl rfl rfl rfl rfl rfl (Nat.le_of_ble_eq_true rfl) rfl dX6_act_67 ?_
  refine p_813 (ws' := (wF [wMo o rw fr kp tr ik tp tm mso bg en wd va gd rs mu rm ss msz msh mho mhn mhz 2 (nI j) (te j) tc 0 ip, wMr G rw la ns sd to he sw nh ki te mi ar z, wI G mho 4 hof, wI G mhn 4 hnf, wI G tc 30 tcf])) 70 0 rfl rfl rfl (Nat.le_of_ble_eq_true rfl) rfl dX6_act_70 ?_
  refine J_aload_n 73 0 dX6_act_73 rfl rfl ?_
  refine J_iconst (v := 0) 74 dX6_act_74 rfl ?_
  refine p_816 (ws' := (wF [wMo o rw fr kp tr ik tp tm mso bg en wd va gd rs mu rm ss msz msh mho mhn mhz 2 (nI j) (te j) tc 0 0, wMr G rw la ns sd to he sw nh ki te mi ar z, wI G mho 4 hof, wI G mhn 4 hnf, wI G tc 30 tcf])) 75 0 rfl rfl rfl (Nat.le_of_ble_eq_true rfl) rfl dX6_act_75 ?_
  refine J_iload_n 78 2 dX6_act_78 rfl rfl ?_
  refine J_if_ne (tgt := 90) 79 dX6_act_79 (by decide) (fun _ => ?_) (fun c_4_ => absurd c_4_ (by decide))
  refine J_iload_n 90 2 dX6_act_90 rfl rfl ?_
  refine J_iconst (v := 1) 91 dX6_act_91 rfl ?_
  refine J_icmp_ne (tgt := 103) 92 dX6_act_92 (by decide) (fun c_5_ => absurd c_5_ (by decide)) (fun _ => ?_)
  refine J_aload_n 95 0 dX6_act_95 rfl rfl ?_
  refine J_iload_n 96 3 dX6_act_96 rfl rfl ?_
  refine kb_RX6_329 (bs' := [wMo o rw fr kp tr ik tp tm mso bg en wd va gd rs mu rm ss msz msh mho mhn mhz 2 (nI j) (te j) tc (0 + 3) 0, wMr G rw la ns sd to he sw nh ki te mi ar z, wI G mho 4 hof, wI G mhn 4 hnf, wI G tc 30 (pF [11, 30, 10] tcf 0)]) (rest := []) (st' := [.int (((x * 5 + (nI j)) - 4) - (te j))]) 97 (c_X6_readsIt_2 l G x o rw fr kp tr ik tp tm mso bg en wd va gd rs mu rm ss msz msh mho mhn mhz (nI j) (te j) tc 0 tcf (by decide)) [0, 4] 0 rfl rfl rfl [[o], [tc]] rfl rfl rfl rfl rfl rfl (Nat.le_of_ble_eq_true rfl) rfl dX6_act_97 ?_
  refine J_goto (tgt := 121) 100 dX6_act_100 (by decide) ?_
  refine J_istore (lv' := [some (.ref o), some (.int (nI s)), some (.int 1), some (.int x), some (.int 2), some (.int (((x * 5 + (nI j)) - 4) - (te j)))]) 121 dX6_act_121 (by decide) rfl ?_
  refine J_aload_n 123 0 dX6_act_123 rfl rfl ?_
  refine g_816 (v := .int 0) 124 0 rfl rfl dX6_act_124 ?_
  refine J_if_eq (tgt := 135) 127 dX6_act_127 (by decide) (fun _ => ?_) (fun c_6_ => absurd c_6_ (by decide))
  refine J_iload 135 dX6_act_135 rfl ?_
  exact J_iret 137 dX6_act_137 rfl (cg1 (fun (x0_ : Nat) => (wF [wMo o rw fr kp tr ik tp tm mso bg en wd va gd rs mu rm ss msz msh mho mhn mhz 2 (nI j) (te j) tc x0_ 0, wMr G rw la ns sd to he sw nh ki te mi ar z, wI G mho 4 hof, wI G mhn 4 hnf, wI G tc 30 (pF [11, 30, 10] tcf 0)])) (0 + 3) 3 rfl)
set_option maxRecDepth 100000 in
set_option maxHeartbeats 4000000 in
theorem c_X6_act_2_2 (l : Launch) (G : Gd) (s : Nat) (x : Int32) (j : Nat) (o : Nat) (rw : Nat) (fr : Nat) (kp : Nat) (tr : Nat) (ik : Int32) (tp : Nat) (tm : Nat) (mso : Int32) (bg : Nat) (en : Nat) (wd : Int64) (va : Int32) (gd : Int32) (rs : Nat) (mu : Nat) (rm : Nat) (ss : Nat) (msz : Nat) (msh : Nat) (mho : Nat) (mhn : Nat) (mhz : Nat) (kd : Int32) (nb : Int32) (tn : Int32) (tc : Nat) (bo : Nat) (ip : Int32) (la : Nat → Int32) (ns : Nat) (sd : Nat) (to : Nat → Int32) (he : Nat → Int32) (sw : Nat → Int32) (nh : Nat) (ki : Nat → Int32) (te : Nat → Int32) (mi : Nat → Int32) (ar : Nat → Int32) (z : Int32) (hof : Nat → Int32) (hnf : Nat → Int32) (tcf : Nat → Int32) (hs : s ≤ 3) (hho : hof s = 0) (hhn : hnf s = nI j) (hj : j < nh) (hnh : nh ≤ 8) (hk : ki j = 2) (hz : ¬ te j = nI j) : Ct l G yX6_act cX6_act 6 (some (FieldType.int)) 8 [.ref o, .int (nI s), .int 2, .int x] (wF [wMo o rw fr kp tr ik tp tm mso bg en wd va gd rs mu rm ss msz msh mho mhn mhz kd nb tn tc bo ip, wMr G rw la ns sd to he sw nh ki te mi ar z, wI G mho 4 hof, wI G mhn 4 hnf, wI G tc 30 tcf]) (some (.int (x / ((te j) - (nI j))))) (wF [wMo o rw fr kp tr ik tp tm mso bg en wd va gd rs mu rm ss msz msh mho mhn mhz 2 (nI j) (te j) tc 1 0, wMr G rw la ns sd to he sw nh ki te mi ar z, wI G mho 4 hof, wI G mhn 4 hnf, wI G tc 30 (pF [12] tcf 0)]) := by
  refine Ct.of "GooseArmsModel" [some (.ref o), some (.int (nI s)), some (.int 2), some (.int x), none, none] (by decide +kernel) rfl (Nat.le_of_ble_eq_true rfl) rfl ?_
  refine J_aload_n 0 0 dX6_act_0 rfl rfl ?_
  refine J_iconst (v := 0) 1 dX6_act_1 rfl ?_
  refine p_815 (ws' := (wF [wMo o rw fr kp tr ik tp tm mso bg en wd va gd rs mu rm ss msz msh mho mhn mhz kd nb tn tc 0 ip, wMr G rw la ns sd to he sw nh ki te mi ar z, wI G mho 4 hof, wI G mhn 4 hnf, wI G tc 30 tcf])) 2 0 rfl rfl rfl (Nat.le_of_ble_eq_true rfl) rfl dX6_act_2 ?_
  refine J_iload_n 5 1 dX6_act_5 rfl rfl ?_
  refine kb_RX6_262 (bs' := [wMo o rw fr kp tr ik tp tm mso bg en wd va gd rs mu rm ss msz msh mho mhn mhz kd nb tn tc 0 ip, wMr G rw la ns sd to he sw nh ki te mi ar z, wI G mho 4 hof, wI G mhn 4 hnf, wI G tc 30 tcf]) (rest := []) (st' := [.int 1]) 6 (c_X6_isShelf_t l G s (by first | omega | assumption)) [] rfl rfl [] rfl rfl rfl rfl rfl rfl (Nat.le_of_ble_eq_true rfl) rfl dX6_act_6 ?_
  refine J_if_eq (tgt := 20) 9 dX6_act_9 (by decide) (fun c_1_ => absurd c_1_ (by decide)) (fun _ => ?_)
  refine J_aload_n 12 0 dX6_act_12 rfl rfl ?_
  refine J_iload_n 13 1 dX6_act_13 rfl rfl ?_
  refine kb_RX6_290 (bs' := [wMo o rw fr kp tr ik tp tm mso bg en wd va gd rs mu rm ss msz msh mho mhn mhz kd nb tn tc 0 ip, wMr G rw la ns sd to he sw nh ki te mi ar z, wI G mho 4 hof, wI G mhn 4 hnf, wI G tc 30 tcf]) (rest := []) (st' := [.int (ki j)]) 14 (c_X6_kindOn_h l G s j o rw fr kp tr ik tp tm mso bg en wd va gd rs mu rm ss msz msh mho mhn mhz kd nb tn tc 0 ip la ns sd to he sw nh ki te mi ar z hof hnf (by first | omega | assumption) (by first | omega | assumption) (by first | omega | assumption) (by first | omega | assumption) (by first | omega | assumption)) [0, 1, 2, 3] 0 rfl rfl rfl [[o], [rw], [mho], [mhn]] rfl rfl rfl rfl rfl rfl (Nat.le_of_ble_eq_true rfl) rfl dX6_act_14 ?_
  refine J_topi (y := 2) 17 hk ?_
  refine J_goto (tgt := 21) 17 dX6_act_17 (by decide) ?_
  refine J_istore (lv' := [some (.ref o), some (.int (nI s)), some (.int 2), some (.int x), some (.int 2), none]) 21 dX6_act_21 (by decide) rfl ?_
  refine J_iload_n 23 2 dX6_act_23 rfl rfl ?_
  refine J_iconst (v := 0) 24 dX6_act_24 rfl ?_
  refine J_iconst (v := 3) 25 dX6_act_25 rfl ?_
  refine kb_RX6_57 (bs' := [wMo o rw fr kp tr ik tp tm mso bg en wd va gd rs mu rm ss msz msh mho mhn mhz kd nb tn tc 0 ip, wMr G rw la ns sd to he sw nh ki te mi ar z, wI G mho 4 hof, wI G mhn 4 hnf, wI G tc 30 tcf]) (rest := []) (st' := [.int 1]) 26 (c_X6_in_t l G 2 0 3 (by decide)) [] rfl rfl [] rfl rfl rfl rfl rfl rfl (Nat.le_of_ble_eq_true rfl) rfl dX6_act_26 ?_
  refine J_if_eq (tgt := 42) 29 dX6_act_29 (by decide) (fun c_2_ => absurd c_2_ (by decide)) (fun _ => ?_)
  refine J_iload 32 dX6_act_32 rfl ?_
  refine J_iconst (v := 0) 34 dX6_act_34 rfl ?_
  refine J_iconst (v := 5) 35 dX6_act_35 rfl ?_
  refine kb_RX6_57 (bs' := [wMo o rw fr kp tr ik tp tm mso bg en wd va gd rs mu rm ss msz msh mho mhn mhz kd nb tn tc 0 ip, wMr G rw la ns sd to he sw nh ki te mi ar z, wI G mho 4 hof, wI G mhn 4 hnf, wI G tc 30 tcf]) (rest := []) (st' := [.int 1]) 36 (c_X6_in_t l G 2 0 5 (by decide)) [] rfl rfl [] rfl rfl rfl rfl rfl rfl (Nat.le_of_ble_eq_true rfl) rfl dX6_act_36 ?_
  refine J_if_ne (tgt := 44) 39 dX6_act_39 (by decide) (fun _ => ?_) (fun c_3_ => absurd c_3_ (by decide))
  refine J_aload_n 44 0 dX6_act_44 rfl rfl ?_
  refine J_iload 45 dX6_act_45 rfl ?_
  refine p_811 (ws' := (wF [wMo o rw fr kp tr ik tp tm mso bg en wd va gd rs mu rm ss msz msh mho mhn mhz 2 nb tn tc 0 ip, wMr G rw la ns sd to he sw nh ki te mi ar z, wI G mho 4 hof, wI G mhn 4 hnf, wI G tc 30 tcf])) 47 0 rfl rfl rfl (Nat.le_of_ble_eq_true rfl) rfl dX6_act_47 ?_
  refine J_aload_n 50 0 dX6_act_50 rfl rfl ?_
  refine J_aload_n 51 0 dX6_act_51 rfl rfl ?_
  refine g_809 (v := .ref mhn) 52 0 rfl rfl dX6_act_52 ?_
  refine J_iload_n 55 1 dX6_act_55 rfl rfl ?_
  refine J_iald 56 3 s rfl rfl (by omega) (by decide) dX6_act_56 ?_
  refine J_topi (y := nI j) 57 hhn ?_
  refine p_812 (ws' := (wF [wMo o rw fr kp tr ik tp tm mso bg en wd va gd rs mu rm ss msz msh mho mhn mhz 2 (nI j) tn tc 0 ip, wMr G rw la ns sd to he sw nh ki te mi ar z, wI G mho 4 hof, wI G mhn 4 hnf, wI G tc 30 tcf])) 57 0 rfl rfl rfl (Nat.le_of_ble_eq_true rfl) rfl dX6_act_57 ?_
  refine J_aload_n 60 0 dX6_act_60 rfl rfl ?_
  refine J_aload_n 61 0 dX6_act_61 rfl rfl ?_
  refine J_aload_n 62 0 dX6_act_62 rfl rfl ?_
  refine g_812 (v := .int (nI j)) 63 0 rfl rfl dX6_act_63 ?_
  refine J_iconst (v := 1) 66 dX6_act_66 rfl ?_
  refine kb_RX6_187 (bs' := [wMo o rw fr kp tr ik tp tm mso bg en wd va gd rs mu rm ss msz msh mho mhn mhz 2 (nI j) tn tc 0 ip, wMr G rw la ns sd to he sw nh ki te mi ar z, wI G mho 4 hof, wI G mhn 4 hnf, wI G tc 30 tcf]) (rest := [.ref o]) (st' := [.int (te j), .ref o]) 67 (c_X6_its_1 l G j o rw fr kp tr ik tp tm mso bg en wd va gd rs mu rm ss msz msh mho mhn mhz 2 (nI j) tn tc 0 ip la ns sd to he sw nh ki te mi ar z (by first | omega | assumption)) [0, 1] 0 rfl rfl rfl [[o], [rw]] rfl rfl rfl rfl rfl rfl (Nat.le_of_ble_eq_true rfl) rfl dX6_act_67 ?_
  refine p_813 (ws' := (wF [wMo o rw fr kp tr ik tp tm mso bg en wd va gd rs mu rm ss msz msh mho mhn mhz 2 (nI j) (te j) tc 0 ip, wMr G rw la ns sd to he sw nh ki te mi ar z, wI G mho 4 hof, wI G mhn 4 hnf, wI G tc 30 tcf])) 70 0 rfl rfl rfl (Nat.le_of_ble_eq_true rfl) rfl dX6_act_70 ?_
  refine J_aload_n 73 0 dX6_act_73 rfl rfl ?_
  refine J_iconst (v := 0) 74 dX6_act_74 rfl ?_
  refine p_816 (ws' := (wF [wMo o rw fr kp tr ik tp tm mso bg en wd va gd rs mu rm ss msz msh mho mhn mhz 2 (nI j) (te j) tc 0 0, wMr G rw la ns sd to he sw nh ki te mi ar z, wI G mho 4 hof, wI G mhn 4 hnf, wI G tc 30 tcf])) 75 0 rfl rfl rfl (Nat.le_of_ble_eq_true rfl) rfl dX6_act_75 ?_
  refine J_iload_n 78 2 dX6_act_78 rfl rfl ?_
  refine J_if_ne (tgt := 90) 79 dX6_act_79 (by decide) (fun _ => ?_) (fun c_4_ => absurd c_4_ (by decide))
  refine J_iload_n 90 2 dX6_act_90 rfl rfl ?_
  refine J_iconst (v := 1) 91 dX6_act_91 rfl ?_
  refine J_icmp_ne (tgt := 103) 92 dX6_act_92 (by decide) (fun _ => ?_) (fun c_5_ => absurd c_5_ (by decide))
  refine J_iload_n 103 2 dX6_act_103 rfl rfl ?_
  refine J_iconst (v := 2) 104 dX6_act_104 rfl ?_
  refine J_icmp_ne (tgt := 116) 105 dX6_act_105 (by decide) (fun c_6_ => absurd c_6_ (by decide)) (fun _ => ?_)
  refine J_aload_n 108 0 dX6_act_108 rfl rfl ?_
  refine J_iload_n 109 3 dX6_act_109 rfl rfl ?_
  refine kb_RX6_335 (bs' := [wMo o rw fr kp tr ik tp tm mso bg en wd va gd rs mu rm ss msz msh mho mhn mhz 2 (nI j) (te j) tc (0 + 1) 0, wMr G rw la ns sd to he sw nh ki te mi ar z, wI G mho 4 hof, wI G mhn 4 hnf, wI G tc 30 (pF [12] tcf 0)]) (rest := []) (st' := [.int (x / ((te j) - (nI j)))]) 110 (c_X6_partsIt_2 l G x o rw fr kp tr ik tp tm mso bg en wd va gd rs mu rm ss msz msh mho mhn mhz (nI j) (te j) tc 0 tcf (by decide) hz) [0, 4] 0 rfl rfl rfl [[o], [tc]] rfl rfl rfl rfl rfl rfl (Nat.le_of_ble_eq_true rfl) rfl dX6_act_110 ?_
  refine J_goto (tgt := 121) 113 dX6_act_113 (by decide) ?_
  refine J_istore (lv' := [some (.ref o), some (.int (nI s)), some (.int 2), some (.int x), some (.int 2), some (.int (x / ((te j) - (nI j))))]) 121 dX6_act_121 (by decide) rfl ?_
  refine J_aload_n 123 0 dX6_act_123 rfl rfl ?_
  refine g_816 (v := .int 0) 124 0 rfl rfl dX6_act_124 ?_
  refine J_if_eq (tgt := 135) 127 dX6_act_127 (by decide) (fun _ => ?_) (fun c_7_ => absurd c_7_ (by decide))
  refine J_iload 135 dX6_act_135 rfl ?_
  exact J_iret 137 dX6_act_137 rfl (cg1 (fun (x0_ : Nat) => (wF [wMo o rw fr kp tr ik tp tm mso bg en wd va gd rs mu rm ss msz msh mho mhn mhz 2 (nI j) (te j) tc x0_ 0, wMr G rw la ns sd to he sw nh ki te mi ar z, wI G mho 4 hof, wI G mhn 4 hnf, wI G tc 30 (pF [12] tcf 0)])) (0 + 1) 1 rfl)
set_option maxRecDepth 100000 in
set_option maxHeartbeats 4000000 in
theorem c_X6_act_2_2z (l : Launch) (G : Gd) (s : Nat) (x : Int32) (j : Nat) (o : Nat) (rw : Nat) (fr : Nat) (kp : Nat) (tr : Nat) (ik : Int32) (tp : Nat) (tm : Nat) (mso : Int32) (bg : Nat) (en : Nat) (wd : Int64) (va : Int32) (gd : Int32) (rs : Nat) (mu : Nat) (rm : Nat) (ss : Nat) (msz : Nat) (msh : Nat) (mho : Nat) (mhn : Nat) (mhz : Nat) (kd : Int32) (nb : Int32) (tn : Int32) (tc : Nat) (bo : Nat) (ip : Int32) (la : Nat → Int32) (ns : Nat) (sd : Nat) (to : Nat → Int32) (he : Nat → Int32) (sw : Nat → Int32) (nh : Nat) (ki : Nat → Int32) (te : Nat → Int32) (mi : Nat → Int32) (ar : Nat → Int32) (z : Int32) (hof : Nat → Int32) (hnf : Nat → Int32) (tcf : Nat → Int32) (hs : s ≤ 3) (hho : hof s = 0) (hhn : hnf s = nI j) (hj : j < nh) (hnh : nh ≤ 8) (hk : ki j = 2) (hz : te j = nI j) : Ct l G yX6_act cX6_act 6 (some (FieldType.int)) 8 [.ref o, .int (nI s), .int 2, .int x] (wF [wMo o rw fr kp tr ik tp tm mso bg en wd va gd rs mu rm ss msz msh mho mhn mhz kd nb tn tc bo ip, wMr G rw la ns sd to he sw nh ki te mi ar z, wI G mho 4 hof, wI G mhn 4 hnf, wI G tc 30 tcf]) (some (.int (-15))) (wF [wMo o rw fr kp tr ik tp tm mso bg en wd va gd rs mu rm ss msz msh mho mhn mhz 2 (nI j) (te j) tc 1 1, wMr G rw la ns sd to he sw nh ki te mi ar z, wI G mho 4 hof, wI G mhn 4 hnf, wI G tc 30 (pF [12] tcf 0)]) := by
  refine Ct.of "GooseArmsModel" [some (.ref o), some (.int (nI s)), some (.int 2), some (.int x), none, none] (by decide +kernel) rfl (Nat.le_of_ble_eq_true rfl) rfl ?_
  refine J_aload_n 0 0 dX6_act_0 rfl rfl ?_
  refine J_iconst (v := 0) 1 dX6_act_1 rfl ?_
  refine p_815 (ws' := (wF [wMo o rw fr kp tr ik tp tm mso bg en wd va gd rs mu rm ss msz msh mho mhn mhz kd nb tn tc 0 ip, wMr G rw la ns sd to he sw nh ki te mi ar z, wI G mho 4 hof, wI G mhn 4 hnf, wI G tc 30 tcf])) 2 0 rfl rfl rfl (Nat.le_of_ble_eq_true rfl) rfl dX6_act_2 ?_
  refine J_iload_n 5 1 dX6_act_5 rfl rfl ?_
  refine kb_RX6_262 (bs' := [wMo o rw fr kp tr ik tp tm mso bg en wd va gd rs mu rm ss msz msh mho mhn mhz kd nb tn tc 0 ip, wMr G rw la ns sd to he sw nh ki te mi ar z, wI G mho 4 hof, wI G mhn 4 hnf, wI G tc 30 tcf]) (rest := []) (st' := [.int 1]) 6 (c_X6_isShelf_t l G s (by first | omega | assumption)) [] rfl rfl [] rfl rfl rfl rfl rfl rfl (Nat.le_of_ble_eq_true rfl) rfl dX6_act_6 ?_
  refine J_if_eq (tgt := 20) 9 dX6_act_9 (by decide) (fun c_1_ => absurd c_1_ (by decide)) (fun _ => ?_)
  refine J_aload_n 12 0 dX6_act_12 rfl rfl ?_
  refine J_iload_n 13 1 dX6_act_13 rfl rfl ?_
  refine kb_RX6_290 (bs' := [wMo o rw fr kp tr ik tp tm mso bg en wd va gd rs mu rm ss msz msh mho mhn mhz kd nb tn tc 0 ip, wMr G rw la ns sd to he sw nh ki te mi ar z, wI G mho 4 hof, wI G mhn 4 hnf, wI G tc 30 tcf]) (rest := []) (st' := [.int (ki j)]) 14 (c_X6_kindOn_h l G s j o rw fr kp tr ik tp tm mso bg en wd va gd rs mu rm ss msz msh mho mhn mhz kd nb tn tc 0 ip la ns sd to he sw nh ki te mi ar z hof hnf (by first | omega | assumption) (by first | omega | assumption) (by first | omega | assumption) (by first | omega | assumption) (by first | omega | assumption)) [0, 1, 2, 3] 0 rfl rfl rfl [[o], [rw], [mho], [mhn]] rfl rfl rfl rfl rfl rfl (Nat.le_of_ble_eq_true rfl) rfl dX6_act_14 ?_
  refine J_topi (y := 2) 17 hk ?_
  refine J_goto (tgt := 21) 17 dX6_act_17 (by decide) ?_
  refine J_istore (lv' := [some (.ref o), some (.int (nI s)), some (.int 2), some (.int x), some (.int 2), none]) 21 dX6_act_21 (by decide) rfl ?_
  refine J_iload_n 23 2 dX6_act_23 rfl rfl ?_
  refine J_iconst (v := 0) 24 dX6_act_24 rfl ?_
  refine J_iconst (v := 3) 25 dX6_act_25 rfl ?_
  refine kb_RX6_57 (bs' := [wMo o rw fr kp tr ik tp tm mso bg en wd va gd rs mu rm ss msz msh mho mhn mhz kd nb tn tc 0 ip, wMr G rw la ns sd to he sw nh ki te mi ar z, wI G mho 4 hof, wI G mhn 4 hnf, wI G tc 30 tcf]) (rest := []) (st' := [.int 1]) 26 (c_X6_in_t l G 2 0 3 (by decide)) [] rfl rfl [] rfl rfl rfl rfl rfl rfl (Nat.le_of_ble_eq_true rfl) rfl dX6_act_26 ?_
  refine J_if_eq (tgt := 42) 29 dX6_act_29 (by decide) (fun c_2_ => absurd c_2_ (by decide)) (fun _ => ?_)
  refine J_iload 32 dX6_act_32 rfl ?_
  refine J_iconst (v := 0) 34 dX6_act_34 rfl ?_
  refine J_iconst (v := 5) 35 dX6_act_35 rfl ?_
  refine kb_RX6_57 (bs' := [wMo o rw fr kp tr ik tp tm mso bg en wd va gd rs mu rm ss msz msh mho mhn mhz kd nb tn tc 0 ip, wMr G rw la ns sd to he sw nh ki te mi ar z, wI G mho 4 hof, wI G mhn 4 hnf, wI G tc 30 tcf]) (rest := []) (st' := [.int 1]) 36 (c_X6_in_t l G 2 0 5 (by decide)) [] rfl rfl [] rfl rfl rfl rfl rfl rfl (Nat.le_of_ble_eq_true rfl) rfl dX6_act_36 ?_
  refine J_if_ne (tgt := 44) 39 dX6_act_39 (by decide) (fun _ => ?_) (fun c_3_ => absurd c_3_ (by decide))
  refine J_aload_n 44 0 dX6_act_44 rfl rfl ?_
  refine J_iload 45 dX6_act_45 rfl ?_
  refine p_811 (ws' := (wF [wMo o rw fr kp tr ik tp tm mso bg en wd va gd rs mu rm ss msz msh mho mhn mhz 2 nb tn tc 0 ip, wMr G rw la ns sd to he sw nh ki te mi ar z, wI G mho 4 hof, wI G mhn 4 hnf, wI G tc 30 tcf])) 47 0 rfl rfl rfl (Nat.le_of_ble_eq_true rfl) rfl dX6_act_47 ?_
  refine J_aload_n 50 0 dX6_act_50 rfl rfl ?_
  refine J_aload_n 51 0 dX6_act_51 rfl rfl ?_
  refine g_809 (v := .ref mhn) 52 0 rfl rfl dX6_act_52 ?_
  refine J_iload_n 55 1 dX6_act_55 rfl rfl ?_
  refine J_iald 56 3 s rfl rfl (by omega) (by decide) dX6_act_56 ?_
  refine J_topi (y := nI j) 57 hhn ?_
  refine p_812 (ws' := (wF [wMo o rw fr kp tr ik tp tm mso bg en wd va gd rs mu rm ss msz msh mho mhn mhz 2 (nI j) tn tc 0 ip, wMr G rw la ns sd to he sw nh ki te mi ar z, wI G mho 4 hof, wI G mhn 4 hnf, wI G tc 30 tcf])) 57 0 rfl rfl rfl (Nat.le_of_ble_eq_true rfl) rfl dX6_act_57 ?_
  refine J_aload_n 60 0 dX6_act_60 rfl rfl ?_
  refine J_aload_n 61 0 dX6_act_61 rfl rfl ?_
  refine J_aload_n 62 0 dX6_act_62 rfl rfl ?_
  refine g_812 (v := .int (nI j)) 63 0 rfl rfl dX6_act_63 ?_
  refine J_iconst (v := 1) 66 dX6_act_66 rfl ?_
  refine kb_RX6_187 (bs' := [wMo o rw fr kp tr ik tp tm mso bg en wd va gd rs mu rm ss msz msh mho mhn mhz 2 (nI j) tn tc 0 ip, wMr G rw la ns sd to he sw nh ki te mi ar z, wI G mho 4 hof, wI G mhn 4 hnf, wI G tc 30 tcf]) (rest := [.ref o]) (st' := [.int (te j), .ref o]) 67 (c_X6_its_1 l G j o rw fr kp tr ik tp tm mso bg en wd va gd rs mu rm ss msz msh mho mhn mhz 2 (nI j) tn tc 0 ip la ns sd to he sw nh ki te mi ar z (by first | omega | assumption)) [0, 1] 0 rfl rfl rfl [[o], [rw]] rfl rfl rfl rfl rfl rfl (Nat.le_of_ble_eq_true rfl) rfl dX6_act_67 ?_
  refine p_813 (ws' := (wF [wMo o rw fr kp tr ik tp tm mso bg en wd va gd rs mu rm ss msz msh mho mhn mhz 2 (nI j) (te j) tc 0 ip, wMr G rw la ns sd to he sw nh ki te mi ar z, wI G mho 4 hof, wI G mhn 4 hnf, wI G tc 30 tcf])) 70 0 rfl rfl rfl (Nat.le_of_ble_eq_true rfl) rfl dX6_act_70 ?_
  refine J_aload_n 73 0 dX6_act_73 rfl rfl ?_
  refine J_iconst (v := 0) 74 dX6_act_74 rfl ?_
  refine p_816 (ws' := (wF [wMo o rw fr kp tr ik tp tm mso bg en wd va gd rs mu rm ss msz msh mho mhn mhz 2 (nI j) (te j) tc 0 0, wMr G rw la ns sd to he sw nh ki te mi ar z, wI G mho 4 hof, wI G mhn 4 hnf, wI G tc 30 tcf])) 75 0 rfl rfl rfl (Nat.le_of_ble_eq_true rfl) rfl dX6_act_75 ?_
  refine J_iload_n 78 2 dX6_act_78 rfl rfl ?_
  refine J_if_ne (tgt := 90) 79 dX6_act_79 (by decide) (fun _ => ?_) (fun c_4_ => absurd c_4_ (by decide))
  refine J_iload_n 90 2 dX6_act_90 rfl rfl ?_
  refine J_iconst (v := 1) 91 dX6_act_91 rfl ?_
  refine J_icmp_ne (tgt := 103) 92 dX6_act_92 (by decide) (fun _ => ?_) (fun c_5_ => absurd c_5_ (by decide))
  refine J_iload_n 103 2 dX6_act_103 rfl rfl ?_
  refine J_iconst (v := 2) 104 dX6_act_104 rfl ?_
  refine J_icmp_ne (tgt := 116) 105 dX6_act_105 (by decide) (fun c_6_ => absurd c_6_ (by decide)) (fun _ => ?_)
  refine J_aload_n 108 0 dX6_act_108 rfl rfl ?_
  refine J_iload_n 109 3 dX6_act_109 rfl rfl ?_
  refine kb_RX6_335 (bs' := [wMo o rw fr kp tr ik tp tm mso bg en wd va gd rs mu rm ss msz msh mho mhn mhz 2 (nI j) (te j) tc (0 + 1) 1, wMr G rw la ns sd to he sw nh ki te mi ar z, wI G mho 4 hof, wI G mhn 4 hnf, wI G tc 30 (pF [12] tcf 0)]) (rest := []) (st' := [.int 0]) 110 (c_X6_partsIt_2z l G x o rw fr kp tr ik tp tm mso bg en wd va gd rs mu rm ss msz msh mho mhn mhz (nI j) (te j) tc 0 tcf (by decide) hz) [0, 4] 0 rfl rfl rfl [[o], [tc]] rfl rfl rfl rfl rfl rfl (Nat.le_of_ble_eq_true rfl) rfl dX6_act_110 ?_
  refine J_goto (tgt := 121) 113 dX6_act_113 (by decide) ?_
  refine J_istore (lv' := [some (.ref o), some (.int (nI s)), some (.int 2), some (.int x), some (.int 2), some (.int 0)]) 121 dX6_act_121 (by decide) rfl ?_
  refine J_aload_n 123 0 dX6_act_123 rfl rfl ?_
  refine g_816 (v := .int 1) 124 0 rfl rfl dX6_act_124 ?_
  refine J_if_eq (tgt := 135) 127 dX6_act_127 (by decide) (fun c_7_ => absurd c_7_ (by decide)) (fun _ => ?_)
  refine J_bipush (v := (-15)) 130 dX6_act_130 rfl ?_
  refine J_goto (tgt := 137) 132 dX6_act_132 (by decide) ?_
  exact J_iret 137 dX6_act_137 rfl (cg1 (fun (x0_ : Nat) => (wF [wMo o rw fr kp tr ik tp tm mso bg en wd va gd rs mu rm ss msz msh mho mhn mhz 2 (nI j) (te j) tc x0_ 1, wMr G rw la ns sd to he sw nh ki te mi ar z, wI G mho 4 hof, wI G mhn 4 hnf, wI G tc 30 (pF [12] tcf 0)])) (0 + 1) 1 rfl)
set_option maxRecDepth 100000 in
set_option maxHeartbeats 4000000 in
theorem c_X6_act_2_3 (l : Launch) (G : Gd) (s : Nat) (x : Int32) (j : Nat) (o : Nat) (rw : Nat) (fr : Nat) (kp : Nat) (tr : Nat) (ik : Int32) (tp : Nat) (tm : Nat) (mso : Int32) (bg : Nat) (en : Nat) (wd : Int64) (va : Int32) (gd : Int32) (rs : Nat) (mu : Nat) (rm : Nat) (ss : Nat) (msz : Nat) (msh : Nat) (mho : Nat) (mhn : Nat) (mhz : Nat) (kd : Int32) (nb : Int32) (tn : Int32) (tc : Nat) (bo : Nat) (ip : Int32) (la : Nat → Int32) (ns : Nat) (sd : Nat) (to : Nat → Int32) (he : Nat → Int32) (sw : Nat → Int32) (nh : Nat) (ki : Nat → Int32) (te : Nat → Int32) (mi : Nat → Int32) (ar : Nat → Int32) (z : Int32) (hof : Nat → Int32) (hnf : Nat → Int32) (tcf : Nat → Int32) (hs : s ≤ 3) (hho : hof s = 0) (hhn : hnf s = nI j) (hj : j < nh) (hnh : nh ≤ 8) (hk : ki j = 2) (hz : ¬ te j = nI j) : Ct l G yX6_act cX6_act 6 (some (FieldType.int)) 8 [.ref o, .int (nI s), .int 3, .int x] (wF [wMo o rw fr kp tr ik tp tm mso bg en wd va gd rs mu rm ss msz msh mho mhn mhz kd nb tn tc bo ip, wMr G rw la ns sd to he sw nh ki te mi ar z, wI G mho 4 hof, wI G mhn 4 hnf, wI G tc 30 tcf]) (some (.int (((((x * 5 + (nI j)) - 4) - (te j)) ^^^ 150) + ((nI j) / ((te j) - (nI j)))))) (wF [wMo o rw fr kp tr ik tp tm mso bg en wd va gd rs mu rm ss msz msh mho mhn mhz 2 (nI j) (te j) tc 6 0, wMr G rw la ns sd to he sw nh ki te mi ar z, wI G mho 4 hof, wI G mhn 4 hnf, wI G tc 30 (pF [31, 13, 11, 30, 10, 12] tcf 0)]) := by
  refine Ct.of "GooseArmsModel" [some (.ref o), some (.int (nI s)), some (.int 3), some (.int x), none, none] (by decide +kernel) rfl (Nat.le_of_ble_eq_true rfl) rfl ?_
  refine J_aload_n 0 0 dX6_act_0 rfl rfl ?_
  refine J_iconst (v := 0) 1 dX6_act_1 rfl ?_
  refine p_815 (ws' := (wF [wMo o rw fr kp tr ik tp tm mso bg en wd va gd rs mu rm ss msz msh mho mhn mhz kd nb tn tc 0 ip, wMr G rw la ns sd to he sw nh ki te mi ar z, wI G mho 4 hof, wI G mhn 4 hnf, wI G tc 30 tcf])) 2 0 rfl rfl rfl (Nat.le_of_ble_eq_true rfl) rfl dX6_act_2 ?_
  refine J_iload_n 5 1 dX6_act_5 rfl rfl ?_
  refine kb_RX6_262 (bs' := [wMo o rw fr kp tr ik tp tm mso bg en wd va gd rs mu rm ss msz msh mho mhn mhz kd nb tn tc 0 ip, wMr G rw la ns sd to he sw nh ki te mi ar z, wI G mho 4 hof, wI G mhn 4 hnf, wI G tc 30 tcf]) (rest := []) (st' := [.int 1]) 6 (c_X6_isShelf_t l G s (by first | omega | assumption)) [] rfl rfl [] rfl rfl rfl rfl rfl rfl (Nat.le_of_ble_eq_true rfl) rfl dX6_act_6 ?_
  refine J_if_eq (tgt := 20) 9 dX6_act_9 (by decide) (fun c_1_ => absurd c_1_ (by decide)) (fun _ => ?_)
  refine J_aload_n 12 0 dX6_act_12 rfl rfl ?_
  refine J_iload_n 13 1 dX6_act_13 rfl rfl ?_
  refine kb_RX6_290 (bs' := [wMo o rw fr kp tr ik tp tm mso bg en wd va gd rs mu rm ss msz msh mho mhn mhz kd nb tn tc 0 ip, wMr G rw la ns sd to he sw nh ki te mi ar z, wI G mho 4 hof, wI G mhn 4 hnf, wI G tc 30 tcf]) (rest := []) (st' := [.int (ki j)]) 14 (c_X6_kindOn_h l G s j o rw fr kp tr ik tp tm mso bg en wd va gd rs mu rm ss msz msh mho mhn mhz kd nb tn tc 0 ip la ns sd to he sw nh ki te mi ar z hof hnf (by first | omega | assumption) (by first | omega | assumption) (by first | omega | assumption) (by first | omega | assumption) (by first | omega | assumption)) [0, 1, 2, 3] 0 rfl rfl rfl [[o], [rw], [mho], [mhn]] rfl rfl rfl rfl rfl rfl (Nat.le_of_ble_eq_true rfl) rfl dX6_act_14 ?_
  refine J_topi (y := 2) 17 hk ?_
  refine J_goto (tgt := 21) 17 dX6_act_17 (by decide) ?_
  refine J_istore (lv' := [some (.ref o), some (.int (nI s)), some (.int 3), some (.int x), some (.int 2), none]) 21 dX6_act_21 (by decide) rfl ?_
  refine J_iload_n 23 2 dX6_act_23 rfl rfl ?_
  refine J_iconst (v := 0) 24 dX6_act_24 rfl ?_
  refine J_iconst (v := 3) 25 dX6_act_25 rfl ?_
  refine kb_RX6_57 (bs' := [wMo o rw fr kp tr ik tp tm mso bg en wd va gd rs mu rm ss msz msh mho mhn mhz kd nb tn tc 0 ip, wMr G rw la ns sd to he sw nh ki te mi ar z, wI G mho 4 hof, wI G mhn 4 hnf, wI G tc 30 tcf]) (rest := []) (st' := [.int 1]) 26 (c_X6_in_t l G 3 0 3 (by decide)) [] rfl rfl [] rfl rfl rfl rfl rfl rfl (Nat.le_of_ble_eq_true rfl) rfl dX6_act_26 ?_
  refine J_if_eq (tgt := 42) 29 dX6_act_29 (by decide) (fun c_2_ => absurd c_2_ (by decide)) (fun _ => ?_)
  refine J_iload 32 dX6_act_32 rfl ?_
  refine J_iconst (v := 0) 34 dX6_act_34 rfl ?_
  refine J_iconst (v := 5) 35 dX6_act_35 rfl ?_
  refine kb_RX6_57 (bs' := [wMo o rw fr kp tr ik tp tm mso bg en wd va gd rs mu rm ss msz msh mho mhn mhz kd nb tn tc 0 ip, wMr G rw la ns sd to he sw nh ki te mi ar z, wI G mho 4 hof, wI G mhn 4 hnf, wI G tc 30 tcf]) (rest := []) (st' := [.int 1]) 36 (c_X6_in_t l G 2 0 5 (by decide)) [] rfl rfl [] rfl rfl rfl rfl rfl rfl (Nat.le_of_ble_eq_true rfl) rfl dX6_act_36 ?_
  refine J_if_ne (tgt := 44) 39 dX6_act_39 (by decide) (fun _ => ?_) (fun c_3_ => absurd c_3_ (by decide))
  refine J_aload_n 44 0 dX6_act_44 rfl rfl ?_
  refine J_iload 45 dX6_act_45 rfl ?_
  refine p_811 (ws' := (wF [wMo o rw fr kp tr ik tp tm mso bg en wd va gd rs mu rm ss msz msh mho mhn mhz 2 nb tn tc 0 ip, wMr G rw la ns sd to he sw nh ki te mi ar z, wI G mho 4 hof, wI G mhn 4 hnf, wI G tc 30 tcf])) 47 0 rfl rfl rfl (Nat.le_of_ble_eq_true rfl) rfl dX6_act_47 ?_
  refine J_aload_n 50 0 dX6_act_50 rfl rfl ?_
  refine J_aload_n 51 0 dX6_act_51 rfl rfl ?_
  refine g_809 (v := .ref mhn) 52 0 rfl rfl dX6_act_52 ?_
  refine J_iload_n 55 1 dX6_act_55 rfl rfl ?_
  refine J_iald 56 3 s rfl rfl (by omega) (by decide) dX6_act_56 ?_
  refine J_topi (y := nI j) 57 hhn ?_
  refine p_812 (ws' := (wF [wMo o rw fr kp tr ik tp tm mso bg en wd va gd rs mu rm ss msz msh mho mhn mhz 2 (nI j) tn tc 0 ip, wMr G rw la ns sd to he sw nh ki te mi ar z, wI G mho 4 hof, wI G mhn 4 hnf, wI G tc 30 tcf])) 57 0 rfl rfl rfl (Nat.le_of_ble_eq_true rfl) rfl dX6_act_57 ?_
  refine J_aload_n 60 0 dX6_act_60 rfl rfl ?_
  refine J_aload_n 61 0 dX6_act_61 rfl rfl ?_
  refine J_aload_n 62 0 dX6_act_62 rfl rfl ?_
  refine g_812 (v := .int (nI j)) 63 0 rfl rfl dX6_act_63 ?_
  refine J_iconst (v := 1) 66 dX6_act_66 rfl ?_
  refine kb_RX6_187 (bs' := [wMo o rw fr kp tr ik tp tm mso bg en wd va gd rs mu rm ss msz msh mho mhn mhz 2 (nI j) tn tc 0 ip, wMr G rw la ns sd to he sw nh ki te mi ar z, wI G mho 4 hof, wI G mhn 4 hnf, wI G tc 30 tcf]) (rest := [.ref o]) (st' := [.int (te j), .ref o]) 67 (c_X6_its_1 l G j o rw fr kp tr ik tp tm mso bg en wd va gd rs mu rm ss msz msh mho mhn mhz 2 (nI j) tn tc 0 ip la ns sd to he sw nh ki te mi ar z (by first | omega | assumption)) [0, 1] 0 rfl rfl rfl [[o], [rw]] rfl rfl rfl rfl rfl rfl (Nat.le_of_ble_eq_true rfl) rfl dX6_act_67 ?_
  refine p_813 (ws' := (wF [wMo o rw fr kp tr ik tp tm mso bg en wd va gd rs mu rm ss msz msh mho mhn mhz 2 (nI j) (te j) tc 0 ip, wMr G rw la ns sd to he sw nh ki te mi ar z, wI G mho 4 hof, wI G mhn 4 hnf, wI G tc 30 tcf])) 70 0 rfl rfl rfl (Nat.le_of_ble_eq_true rfl) rfl dX6_act_70 ?_
  refine J_aload_n 73 0 dX6_act_73 rfl rfl ?_
  refine J_iconst (v := 0) 74 dX6_act_74 rfl ?_
  refine p_816 (ws' := (wF [wMo o rw fr kp tr ik tp tm mso bg en wd va gd rs mu rm ss msz msh mho mhn mhz 2 (nI j) (te j) tc 0 0, wMr G rw la ns sd to he sw nh ki te mi ar z, wI G mho 4 hof, wI G mhn 4 hnf, wI G tc 30 tcf])) 75 0 rfl rfl rfl (Nat.le_of_ble_eq_true rfl) rfl dX6_act_75 ?_
  refine J_iload_n 78 2 dX6_act_78 rfl rfl ?_
  refine J_if_ne (tgt := 90) 79 dX6_act_79 (by decide) (fun _ => ?_) (fun c_4_ => absurd c_4_ (by decide))
  refine J_iload_n 90 2 dX6_act_90 rfl rfl ?_
  refine J_iconst (v := 1) 91 dX6_act_91 rfl ?_
  refine J_icmp_ne (tgt := 103) 92 dX6_act_92 (by decide) (fun _ => ?_) (fun c_5_ => absurd c_5_ (by decide))
  refine J_iload_n 103 2 dX6_act_103 rfl rfl ?_
  refine J_iconst (v := 2) 104 dX6_act_104 rfl ?_
  refine J_icmp_ne (tgt := 116) 105 dX6_act_105 (by decide) (fun _ => ?_) (fun c_6_ => absurd c_6_ (by decide))
  refine J_aload_n 116 0 dX6_act_116 rfl rfl ?_
  refine J_iload_n 117 3 dX6_act_117 rfl rfl ?_
  refine kb_RX6_338 (bs' := [wMo o rw fr kp tr ik tp tm mso bg en wd va gd rs mu rm ss msz msh mho mhn mhz 2 (nI j) (te j) tc (0 + 6) 0, wMr G rw la ns sd to he sw nh ki te mi ar z, wI G mho 4 hof, wI G mhn 4 hnf, wI G tc 30 (pF [31, 13, 11, 30, 10, 12] tcf 0)]) (rest := []) (st' := [.int (((((x * 5 + (nI j)) - 4) - (te j)) ^^^ 150) + ((nI j) / ((te j) - (nI j))))]) 118 (c_X6_swearsIt_2 l G x o rw fr kp tr ik tp tm mso bg en wd va gd rs mu rm ss msz msh mho mhn mhz (nI j) (te j) tc 0 tcf (by decide) hz) [0, 4] 0 rfl rfl rfl [[o], [tc]] rfl rfl rfl rfl rfl rfl (Nat.le_of_ble_eq_true rfl) rfl dX6_act_118 ?_
  refine J_istore (lv' := [some (.ref o), some (.int (nI s)), some (.int 3), some (.int x), some (.int 2), some (.int (((((x * 5 + (nI j)) - 4) - (te j)) ^^^ 150) + ((nI j) / ((te j) - (nI j)))))]) 121 dX6_act_121 (by decide) rfl ?_
  refine J_aload_n 123 0 dX6_act_123 rfl rfl ?_
  refine g_816 (v := .int 0) 124 0 rfl rfl dX6_act_124 ?_
  refine J_if_eq (tgt := 135) 127 dX6_act_127 (by decide) (fun _ => ?_) (fun c_7_ => absurd c_7_ (by decide))
  refine J_iload 135 dX6_act_135 rfl ?_
  exact J_iret 137 dX6_act_137 rfl (cg1 (fun (x0_ : Nat) => (wF [wMo o rw fr kp tr ik tp tm mso bg en wd va gd rs mu rm ss msz msh mho mhn mhz 2 (nI j) (te j) tc x0_ 0, wMr G rw la ns sd to he sw nh ki te mi ar z, wI G mho 4 hof, wI G mhn 4 hnf, wI G tc 30 (pF [31, 13, 11, 30, 10, 12] tcf 0)])) (0 + 6) 6 rfl)
set_option maxRecDepth 100000 in
set_option maxHeartbeats 4000000 in
theorem c_X6_act_2_3z (l : Launch) (G : Gd) (s : Nat) (x : Int32) (j : Nat) (o : Nat) (rw : Nat) (fr : Nat) (kp : Nat) (tr : Nat) (ik : Int32) (tp : Nat) (tm : Nat) (mso : Int32) (bg : Nat) (en : Nat) (wd : Int64) (va : Int32) (gd : Int32) (rs : Nat) (mu : Nat) (rm : Nat) (ss : Nat) (msz : Nat) (msh : Nat) (mho : Nat) (mhn : Nat) (mhz : Nat) (kd : Int32) (nb : Int32) (tn : Int32) (tc : Nat) (bo : Nat) (ip : Int32) (la : Nat → Int32) (ns : Nat) (sd : Nat) (to : Nat → Int32) (he : Nat → Int32) (sw : Nat → Int32) (nh : Nat) (ki : Nat → Int32) (te : Nat → Int32) (mi : Nat → Int32) (ar : Nat → Int32) (z : Int32) (hof : Nat → Int32) (hnf : Nat → Int32) (tcf : Nat → Int32) (hs : s ≤ 3) (hho : hof s = 0) (hhn : hnf s = nI j) (hj : j < nh) (hnh : nh ≤ 8) (hk : ki j = 2) (hz : te j = nI j) : Ct l G yX6_act cX6_act 6 (some (FieldType.int)) 8 [.ref o, .int (nI s), .int 3, .int x] (wF [wMo o rw fr kp tr ik tp tm mso bg en wd va gd rs mu rm ss msz msh mho mhn mhz kd nb tn tc bo ip, wMr G rw la ns sd to he sw nh ki te mi ar z, wI G mho 4 hof, wI G mhn 4 hnf, wI G tc 30 tcf]) (some (.int (-15))) (wF [wMo o rw fr kp tr ik tp tm mso bg en wd va gd rs mu rm ss msz msh mho mhn mhz 2 (nI j) (te j) tc 6 1, wMr G rw la ns sd to he sw nh ki te mi ar z, wI G mho 4 hof, wI G mhn 4 hnf, wI G tc 30 (pF [31, 13, 11, 30, 10, 12] tcf 0)]) := by
  refine Ct.of "GooseArmsModel" [some (.ref o), some (.int (nI s)), some (.int 3), some (.int x), none, none] (by decide +kernel) rfl (Nat.le_of_ble_eq_true rfl) rfl ?_
  refine J_aload_n 0 0 dX6_act_0 rfl rfl ?_
  refine J_iconst (v := 0) 1 dX6_act_1 rfl ?_
  refine p_815 (ws' := (wF [wMo o rw fr kp tr ik tp tm mso bg en wd va gd rs mu rm ss msz msh mho mhn mhz kd nb tn tc 0 ip, wMr G rw la ns sd to he sw nh ki te mi ar z, wI G mho 4 hof, wI G mhn 4 hnf, wI G tc 30 tcf])) 2 0 rfl rfl rfl (Nat.le_of_ble_eq_true rfl) rfl dX6_act_2 ?_
  refine J_iload_n 5 1 dX6_act_5 rfl rfl ?_
  refine kb_RX6_262 (bs' := [wMo o rw fr kp tr ik tp tm mso bg en wd va gd rs mu rm ss msz msh mho mhn mhz kd nb tn tc 0 ip, wMr G rw la ns sd to he sw nh ki te mi ar z, wI G mho 4 hof, wI G mhn 4 hnf, wI G tc 30 tcf]) (rest := []) (st' := [.int 1]) 6 (c_X6_isShelf_t l G s (by first | omega | assumption)) [] rfl rfl [] rfl rfl rfl rfl rfl rfl (Nat.le_of_ble_eq_true rfl) rfl dX6_act_6 ?_
  refine J_if_eq (tgt := 20) 9 dX6_act_9 (by decide) (fun c_1_ => absurd c_1_ (by decide)) (fun _ => ?_)
  refine J_aload_n 12 0 dX6_act_12 rfl rfl ?_
  refine J_iload_n 13 1 dX6_act_13 rfl rfl ?_
  refine kb_RX6_290 (bs' := [wMo o rw fr kp tr ik tp tm mso bg en wd va gd rs mu rm ss msz msh mho mhn mhz kd nb tn tc 0 ip, wMr G rw la ns sd to he sw nh ki te mi ar z, wI G mho 4 hof, wI G mhn 4 hnf, wI G tc 30 tcf]) (rest := []) (st' := [.int (ki j)]) 14 (c_X6_kindOn_h l G s j o rw fr kp tr ik tp tm mso bg en wd va gd rs mu rm ss msz msh mho mhn mhz kd nb tn tc 0 ip la ns sd to he sw nh ki te mi ar z hof hnf (by first | omega | assumption) (by first | omega | assumption) (by first | omega | assumption) (by first | omega | assumption) (by first | omega | assumption)) [0, 1, 2, 3] 0 rfl rfl rfl [[o], [rw], [mho], [mhn]] rfl rfl rfl rfl rfl rfl (Nat.le_of_ble_eq_true rfl) rfl dX6_act_14 ?_
  refine J_topi (y := 2) 17 hk ?_
  refine J_goto (tgt := 21) 17 dX6_act_17 (by decide) ?_
  refine J_istore (lv' := [some (.ref o), some (.int (nI s)), some (.int 3), some (.int x), some (.int 2), none]) 21 dX6_act_21 (by decide) rfl ?_
  refine J_iload_n 23 2 dX6_act_23 rfl rfl ?_
  refine J_iconst (v := 0) 24 dX6_act_24 rfl ?_
  refine J_iconst (v := 3) 25 dX6_act_25 rfl ?_
  refine kb_RX6_57 (bs' := [wMo o rw fr kp tr ik tp tm mso bg en wd va gd rs mu rm ss msz msh mho mhn mhz kd nb tn tc 0 ip, wMr G rw la ns sd to he sw nh ki te mi ar z, wI G mho 4 hof, wI G mhn 4 hnf, wI G tc 30 tcf]) (rest := []) (st' := [.int 1]) 26 (c_X6_in_t l G 3 0 3 (by decide)) [] rfl rfl [] rfl rfl rfl rfl rfl rfl (Nat.le_of_ble_eq_true rfl) rfl dX6_act_26 ?_
  refine J_if_eq (tgt := 42) 29 dX6_act_29 (by decide) (fun c_2_ => absurd c_2_ (by decide)) (fun _ => ?_)
  refine J_iload 32 dX6_act_32 rfl ?_
  refine J_iconst (v := 0) 34 dX6_act_34 rfl ?_
  refine J_iconst (v := 5) 35 dX6_act_35 rfl ?_
  refine kb_RX6_57 (bs' := [wMo o rw fr kp tr ik tp tm mso bg en wd va gd rs mu rm ss msz msh mho mhn mhz kd nb tn tc 0 ip, wMr G rw la ns sd to he sw nh ki te mi ar z, wI G mho 4 hof, wI G mhn 4 hnf, wI G tc 30 tcf]) (rest := []) (st' := [.int 1]) 36 (c_X6_in_t l G 2 0 5 (by decide)) [] rfl rfl [] rfl rfl rfl rfl rfl rfl (Nat.le_of_ble_eq_true rfl) rfl dX6_act_36 ?_
  refine J_if_ne (tgt := 44) 39 dX6_act_39 (by decide) (fun _ => ?_) (fun c_3_ => absurd c_3_ (by decide))
  refine J_aload_n 44 0 dX6_act_44 rfl rfl ?_
  refine J_iload 45 dX6_act_45 rfl ?_
  refine p_811 (ws' := (wF [wMo o rw fr kp tr ik tp tm mso bg en wd va gd rs mu rm ss msz msh mho mhn mhz 2 nb tn tc 0 ip, wMr G rw la ns sd to he sw nh ki te mi ar z, wI G mho 4 hof, wI G mhn 4 hnf, wI G tc 30 tcf])) 47 0 rfl rfl rfl (Nat.le_of_ble_eq_true rfl) rfl dX6_act_47 ?_
  refine J_aload_n 50 0 dX6_act_50 rfl rfl ?_
  refine J_aload_n 51 0 dX6_act_51 rfl rfl ?_
  refine g_809 (v := .ref mhn) 52 0 rfl rfl dX6_act_52 ?_
  refine J_iload_n 55 1 dX6_act_55 rfl rfl ?_
  refine J_iald 56 3 s rfl rfl (by omega) (by decide) dX6_act_56 ?_
  refine J_topi (y := nI j) 57 hhn ?_
  refine p_812 (ws' := (wF [wMo o rw fr kp tr ik tp tm mso bg en wd va gd rs mu rm ss msz msh mho mhn mhz 2 (nI j) tn tc 0 ip, wMr G rw la ns sd to he sw nh ki te mi ar z, wI G mho 4 hof, wI G mhn 4 hnf, wI G tc 30 tcf])) 57 0 rfl rfl rfl (Nat.le_of_ble_eq_true rfl) rfl dX6_act_57 ?_
  refine J_aload_n 60 0 dX6_act_60 rfl rfl ?_
  refine J_aload_n 61 0 dX6_act_61 rfl rfl ?_
  refine J_aload_n 62 0 dX6_act_62 rfl rfl ?_
  refine g_812 (v := .int (nI j)) 63 0 rfl rfl dX6_act_63 ?_
  refine J_iconst (v := 1) 66 dX6_act_66 rfl ?_
  refine kb_RX6_187 (bs' := [wMo o rw fr kp tr ik tp tm mso bg en wd va gd rs mu rm ss msz msh mho mhn mhz 2 (nI j) tn tc 0 ip, wMr G rw la ns sd to he sw nh ki te mi ar z, wI G mho 4 hof, wI G mhn 4 hnf, wI G tc 30 tcf]) (rest := [.ref o]) (st' := [.int (te j), .ref o]) 67 (c_X6_its_1 l G j o rw fr kp tr ik tp tm mso bg en wd va gd rs mu rm ss msz msh mho mhn mhz 2 (nI j) tn tc 0 ip la ns sd to he sw nh ki te mi ar z (by first | omega | assumption)) [0, 1] 0 rfl rfl rfl [[o], [rw]] rfl rfl rfl rfl rfl rfl (Nat.le_of_ble_eq_true rfl) rfl dX6_act_67 ?_
  refine p_813 (ws' := (wF [wMo o rw fr kp tr ik tp tm mso bg en wd va gd rs mu rm ss msz msh mho mhn mhz 2 (nI j) (te j) tc 0 ip, wMr G rw la ns sd to he sw nh ki te mi ar z, wI G mho 4 hof, wI G mhn 4 hnf, wI G tc 30 tcf])) 70 0 rfl rfl rfl (Nat.le_of_ble_eq_true rfl) rfl dX6_act_70 ?_
  refine J_aload_n 73 0 dX6_act_73 rfl rfl ?_
  refine J_iconst (v := 0) 74 dX6_act_74 rfl ?_
  refine p_816 (ws' := (wF [wMo o rw fr kp tr ik tp tm mso bg en wd va gd rs mu rm ss msz msh mho mhn mhz 2 (nI j) (te j) tc 0 0, wMr G rw la ns sd to he sw nh ki te mi ar z, wI G mho 4 hof, wI G mhn 4 hnf, wI G tc 30 tcf])) 75 0 rfl rfl rfl (Nat.le_of_ble_eq_true rfl) rfl dX6_act_75 ?_
  refine J_iload_n 78 2 dX6_act_78 rfl rfl ?_
  refine J_if_ne (tgt := 90) 79 dX6_act_79 (by decide) (fun _ => ?_) (fun c_4_ => absurd c_4_ (by decide))
  refine J_iload_n 90 2 dX6_act_90 rfl rfl ?_
  refine J_iconst (v := 1) 91 dX6_act_91 rfl ?_
  refine J_icmp_ne (tgt := 103) 92 dX6_act_92 (by decide) (fun _ => ?_) (fun c_5_ => absurd c_5_ (by decide))
  refine J_iload_n 103 2 dX6_act_103 rfl rfl ?_
  refine J_iconst (v := 2) 104 dX6_act_104 rfl ?_
  refine J_icmp_ne (tgt := 116) 105 dX6_act_105 (by decide) (fun _ => ?_) (fun c_6_ => absurd c_6_ (by decide))
  refine J_aload_n 116 0 dX6_act_116 rfl rfl ?_
  refine J_iload_n 117 3 dX6_act_117 rfl rfl ?_
  refine kb_RX6_338 (bs' := [wMo o rw fr kp tr ik tp tm mso bg en wd va gd rs mu rm ss msz msh mho mhn mhz 2 (nI j) (te j) tc (0 + 6) 1, wMr G rw la ns sd to he sw nh ki te mi ar z, wI G mho 4 hof, wI G mhn 4 hnf, wI G tc 30 (pF [31, 13, 11, 30, 10, 12] tcf 0)]) (rest := []) (st' := [.int (((((x * 5 + (nI j)) - 4) - (te j)) ^^^ 150) + 0)]) 118 (c_X6_swearsIt_2z l G x o rw fr kp tr ik tp tm mso bg en wd va gd rs mu rm ss msz msh mho mhn mhz (nI j) (te j) tc 0 tcf (by decide) hz) [0, 4] 0 rfl rfl rfl [[o], [tc]] rfl rfl rfl rfl rfl rfl (Nat.le_of_ble_eq_true rfl) rfl dX6_act_118 ?_
  refine J_istore (lv' := [some (.ref o), some (.int (nI s)), some (.int 3), some (.int x), some (.int 2), some (.int (((((x * 5 + (nI j)) - 4) - (te j)) ^^^ 150) + 0))]) 121 dX6_act_121 (by decide) rfl ?_
  refine J_aload_n 123 0 dX6_act_123 rfl rfl ?_
  refine g_816 (v := .int 1) 124 0 rfl rfl dX6_act_124 ?_
  refine J_if_eq (tgt := 135) 127 dX6_act_127 (by decide) (fun c_7_ => absurd c_7_ (by decide)) (fun _ => ?_)
  refine J_bipush (v := (-15)) 130 dX6_act_130 rfl ?_
  refine J_goto (tgt := 137) 132 dX6_act_132 (by decide) ?_
  exact J_iret 137 dX6_act_137 rfl (cg1 (fun (x0_ : Nat) => (wF [wMo o rw fr kp tr ik tp tm mso bg en wd va gd rs mu rm ss msz msh mho mhn mhz 2 (nI j) (te j) tc x0_ 1, wMr G rw la ns sd to he sw nh ki te mi ar z, wI G mho 4 hof, wI G mhn 4 hnf, wI G tc 30 (pF [31, 13, 11, 30, 10, 12] tcf 0)])) (0 + 6) 6 rfl)
set_option maxRecDepth 100000 in
set_option maxHeartbeats 4000000 in
theorem c_X6_act_3_0 (l : Launch) (G : Gd) (s : Nat) (x : Int32) (j : Nat) (o : Nat) (rw : Nat) (fr : Nat) (kp : Nat) (tr : Nat) (ik : Int32) (tp : Nat) (tm : Nat) (mso : Int32) (bg : Nat) (en : Nat) (wd : Int64) (va : Int32) (gd : Int32) (rs : Nat) (mu : Nat) (rm : Nat) (ss : Nat) (msz : Nat) (msh : Nat) (mho : Nat) (mhn : Nat) (mhz : Nat) (kd : Int32) (nb : Int32) (tn : Int32) (tc : Nat) (bo : Nat) (ip : Int32) (la : Nat → Int32) (ns : Nat) (sd : Nat) (to : Nat → Int32) (he : Nat → Int32) (sw : Nat → Int32) (nh : Nat) (ki : Nat → Int32) (te : Nat → Int32) (mi : Nat → Int32) (ar : Nat → Int32) (z : Int32) (hof : Nat → Int32) (hnf : Nat → Int32) (tcf : Nat → Int32) (hs : s ≤ 3) (hho : hof s = 0) (hhn : hnf s = nI j) (hj : j < nh) (hnh : nh ≤ 8) (hk : ki j = 3) : Ct l G yX6_act cX6_act 6 (some (FieldType.int)) 8 [.ref o, .int (nI s), .int 0, .int x] (wF [wMo o rw fr kp tr ik tp tm mso bg en wd va gd rs mu rm ss msz msh mho mhn mhz kd nb tn tc bo ip, wMr G rw la ns sd to he sw nh ki te mi ar z, wI G mho 4 hof, wI G mhn 4 hnf, wI G tc 30 tcf]) (some (.int ((x * 5 + (nI j)) + (te j)))) (wF [wMo o rw fr kp tr ik tp tm mso bg en wd va gd rs mu rm ss msz msh mho mhn mhz 3 (nI j) (te j) tc 2 0, wMr G rw la ns sd to he sw nh ki te mi ar z, wI G mho 4 hof, wI G mhn 4 hnf, wI G tc 30 (pF [51, 10] tcf 0)]) := by
  refine Ct.of "GooseArmsModel" [some (.ref o), some (.int (nI s)), some (.int 0), some (.int x), none, none] (by decide +kernel) rfl (Nat.le_of_ble_eq_true rfl) rfl ?_
  refine J_aload_n 0 0 dX6_act_0 rfl rfl ?_
  refine J_iconst (v := 0) 1 dX6_act_1 rfl ?_
  refine p_815 (ws' := (wF [wMo o rw fr kp tr ik tp tm mso bg en wd va gd rs mu rm ss msz msh mho mhn mhz kd nb tn tc 0 ip, wMr G rw la ns sd to he sw nh ki te mi ar z, wI G mho 4 hof, wI G mhn 4 hnf, wI G tc 30 tcf])) 2 0 rfl rfl rfl (Nat.le_of_ble_eq_true rfl) rfl dX6_act_2 ?_
  refine J_iload_n 5 1 dX6_act_5 rfl rfl ?_
  refine kb_RX6_262 (bs' := [wMo o rw fr kp tr ik tp tm mso bg en wd va gd rs mu rm ss msz msh mho mhn mhz kd nb tn tc 0 ip, wMr G rw la ns sd to he sw nh ki te mi ar z, wI G mho 4 hof, wI G mhn 4 hnf, wI G tc 30 tcf]) (rest := []) (st' := [.int 1]) 6 (c_X6_isShelf_t l G s (by first | omega | assumption)) [] rfl rfl [] rfl rfl rfl rfl rfl rfl (Nat.le_of_ble_eq_true rfl) rfl dX6_act_6 ?_
  refine J_if_eq (tgt := 20) 9 dX6_act_9 (by decide) (fun c_1_ => absurd c_1_ (by decide)) (fun _ => ?_)
  refine J_aload_n 12 0 dX6_act_12 rfl rfl ?_
  refine J_iload_n 13 1 dX6_act_13 rfl rfl ?_
  refine kb_RX6_290 (bs' := [wMo o rw fr kp tr ik tp tm mso bg en wd va gd rs mu rm ss msz msh mho mhn mhz kd nb tn tc 0 ip, wMr G rw la ns sd to he sw nh ki te mi ar z, wI G mho 4 hof, wI G mhn 4 hnf, wI G tc 30 tcf]) (rest := []) (st' := [.int (ki j)]) 14 (c_X6_kindOn_h l G s j o rw fr kp tr ik tp tm mso bg en wd va gd rs mu rm ss msz msh mho mhn mhz kd nb tn tc 0 ip la ns sd to he sw nh ki te mi ar z hof hnf (by first | omega | assumption) (by first | omega | assumption) (by first | omega | assumption) (by first | omega | assumption) (by first | omega | assumption)) [0, 1, 2, 3] 0 rfl rfl rfl [[o], [rw], [mho], [mhn]] rfl rfl rfl rfl rfl rfl (Nat.le_of_ble_eq_true rfl) rfl dX6_act_14 ?_
  refine J_topi (y := 3) 17 hk ?_
  refine J_goto (tgt := 21) 17 dX6_act_17 (by decide) ?_
  refine J_istore (lv' := [some (.ref o), some (.int (nI s)), some (.int 0), some (.int x), some (.int 3), none]) 21 dX6_act_21 (by decide) rfl ?_
  refine J_iload_n 23 2 dX6_act_23 rfl rfl ?_
  refine J_iconst (v := 0) 24 dX6_act_24 rfl ?_
  refine J_iconst (v := 3) 25 dX6_act_25 rfl ?_
  refine kb_RX6_57 (bs' := [wMo o rw fr kp tr ik tp tm mso bg en wd va gd rs mu rm ss msz msh mho mhn mhz kd nb tn tc 0 ip, wMr G rw la ns sd to he sw nh ki te mi ar z, wI G mho 4 hof, wI G mhn 4 hnf, wI G tc 30 tcf]) (rest := []) (st' := [.int 1]) 26 (c_X6_in_t l G 0 0 3 (by decide)) [] rfl rfl [] rfl rfl rfl rfl rfl rfl (Nat.le_of_ble_eq_true rfl) rfl dX6_act_26 ?_
  refine J_if_eq (tgt := 42) 29 dX6_act_29 (by decide) (fun c_2_ => absurd c_2_ (by decide)) (fun _ => ?_)
  refine J_iload 32 dX6_act_32 rfl ?_
  refine J_iconst (v := 0) 34 dX6_act_34 rfl ?_
  refine J_iconst (v := 5) 35 dX6_act_35 rfl ?_
  refine kb_RX6_57 (bs' := [wMo o rw fr kp tr ik tp tm mso bg en wd va gd rs mu rm ss msz msh mho mhn mhz kd nb tn tc 0 ip, wMr G rw la ns sd to he sw nh ki te mi ar z, wI G mho 4 hof, wI G mhn 4 hnf, wI G tc 30 tcf]) (rest := []) (st' := [.int 1]) 36 (c_X6_in_t l G 3 0 5 (by decide)) [] rfl rfl [] rfl rfl rfl rfl rfl rfl (Nat.le_of_ble_eq_true rfl) rfl dX6_act_36 ?_
  refine J_if_ne (tgt := 44) 39 dX6_act_39 (by decide) (fun _ => ?_) (fun c_3_ => absurd c_3_ (by decide))
  refine J_aload_n 44 0 dX6_act_44 rfl rfl ?_
  refine J_iload 45 dX6_act_45 rfl ?_
  refine p_811 (ws' := (wF [wMo o rw fr kp tr ik tp tm mso bg en wd va gd rs mu rm ss msz msh mho mhn mhz 3 nb tn tc 0 ip, wMr G rw la ns sd to he sw nh ki te mi ar z, wI G mho 4 hof, wI G mhn 4 hnf, wI G tc 30 tcf])) 47 0 rfl rfl rfl (Nat.le_of_ble_eq_true rfl) rfl dX6_act_47 ?_
  refine J_aload_n 50 0 dX6_act_50 rfl rfl ?_
  refine J_aload_n 51 0 dX6_act_51 rfl rfl ?_
  refine g_809 (v := .ref mhn) 52 0 rfl rfl dX6_act_52 ?_
  refine J_iload_n 55 1 dX6_act_55 rfl rfl ?_
  refine J_iald 56 3 s rfl rfl (by omega) (by decide) dX6_act_56 ?_
  refine J_topi (y := nI j) 57 hhn ?_
  refine p_812 (ws' := (wF [wMo o rw fr kp tr ik tp tm mso bg en wd va gd rs mu rm ss msz msh mho mhn mhz 3 (nI j) tn tc 0 ip, wMr G rw la ns sd to he sw nh ki te mi ar z, wI G mho 4 hof, wI G mhn 4 hnf, wI G tc 30 tcf])) 57 0 rfl rfl rfl (Nat.le_of_ble_eq_true rfl) rfl dX6_act_57 ?_
  refine J_aload_n 60 0 dX6_act_60 rfl rfl ?_
  refine J_aload_n 61 0 dX6_act_61 rfl rfl ?_
  refine J_aload_n 62 0 dX6_act_62 rfl rfl ?_
  refine g_812 (v := .int (nI j)) 63 0 rfl rfl dX6_act_63 ?_
  refine J_iconst (v := 1) 66 dX6_act_66 rfl ?_
  refine kb_RX6_187 (bs' := [wMo o rw fr kp tr ik tp tm mso bg en wd va gd rs mu rm ss msz msh mho mhn mhz 3 (nI j) tn tc 0 ip, wMr G rw la ns sd to he sw nh ki te mi ar z, wI G mho 4 hof, wI G mhn 4 hnf, wI G tc 30 tcf]) (rest := [.ref o]) (st' := [.int (te j), .ref o]) 67 (c_X6_its_1 l G j o rw fr kp tr ik tp tm mso bg en wd va gd rs mu rm ss msz msh mho mhn mhz 3 (nI j) tn tc 0 ip la ns sd to he sw nh ki te mi ar z (by first | omega | assumption)) [0, 1] 0 rfl rfl rfl [[o], [rw]] rfl rfl rfl rfl rfl rfl (Nat.le_of_ble_eq_true rfl) rfl dX6_act_67 ?_
  refine p_813 (ws' := (wF [wMo o rw fr kp tr ik tp tm mso bg en wd va gd rs mu rm ss msz msh mho mhn mhz 3 (nI j) (te j) tc 0 ip, wMr G rw la ns sd to he sw nh ki te mi ar z, wI G mho 4 hof, wI G mhn 4 hnf, wI G tc 30 tcf])) 70 0 rfl rfl rfl (Nat.le_of_ble_eq_true rfl) rfl dX6_act_70 ?_
  refine J_aload_n 73 0 dX6_act_73 rfl rfl ?_
  refine J_iconst (v := 0) 74 dX6_act_74 rfl ?_
  refine p_816 (ws' := (wF [wMo o rw fr kp tr ik tp tm mso bg en wd va gd rs mu rm ss msz msh mho mhn mhz 3 (nI j) (te j) tc 0 0, wMr G rw la ns sd to he sw nh ki te mi ar z, wI G mho 4 hof, wI G mhn 4 hnf, wI G tc 30 tcf])) 75 0 rfl rfl rfl (Nat.le_of_ble_eq_true rfl) rfl dX6_act_75 ?_
  refine J_iload_n 78 2 dX6_act_78 rfl rfl ?_
  refine J_if_ne (tgt := 90) 79 dX6_act_79 (by decide) (fun c_4_ => absurd c_4_ (by decide)) (fun _ => ?_)
  refine J_aload_n 82 0 dX6_act_82 rfl rfl ?_
  refine J_iload_n 83 3 dX6_act_83 rfl rfl ?_
  refine kb_RX6_317 (bs' := [wMo o rw fr kp tr ik tp tm mso bg en wd va gd rs mu rm ss msz msh mho mhn mhz 3 (nI j) (te j) tc (0 + 2) 0, wMr G rw la ns sd to he sw nh ki te mi ar z, wI G mho 4 hof, wI G mhn 4 hnf, wI G tc 30 (pF [51, 10] tcf 0)]) (rest := []) (st' := [.int ((x * 5 + (nI j)) + (te j))]) 84 (c_X6_shakesIt_3 l G x o rw fr kp tr ik tp tm mso bg en wd va gd rs mu rm ss msz msh mho mhn mhz (nI j) (te j) tc 0 tcf (by decide)) [0, 4] 0 rfl rfl rfl [[o], [tc]] rfl rfl rfl rfl rfl rfl (Nat.le_of_ble_eq_true rfl) rfl dX6_act_84 ?_
  refine J_goto (tgt := 121) 87 dX6_act_87 (by decide) ?_
  refine J_istore (lv' := [some (.ref o), some (.int (nI s)), some (.int 0), some (.int x), some (.int 3), some (.int ((x * 5 + (nI j)) + (te j)))]) 121 dX6_act_121 (by decide) rfl ?_
  refine J_aload_n 123 0 dX6_act_123 rfl rfl ?_
  refine g_816 (v := .int 0) 124 0 rfl rfl dX6_act_124 ?_
  refine J_if_eq (tgt := 135) 127 dX6_act_127 (by decide) (fun _ => ?_) (fun c_5_ => absurd c_5_ (by decide))
  refine J_iload 135 dX6_act_135 rfl ?_
  exact J_iret 137 dX6_act_137 rfl (cg1 (fun (x0_ : Nat) => (wF [wMo o rw fr kp tr ik tp tm mso bg en wd va gd rs mu rm ss msz msh mho mhn mhz 3 (nI j) (te j) tc x0_ 0, wMr G rw la ns sd to he sw nh ki te mi ar z, wI G mho 4 hof, wI G mhn 4 hnf, wI G tc 30 (pF [51, 10] tcf 0)])) (0 + 2) 2 rfl)
set_option maxRecDepth 100000 in
set_option maxHeartbeats 4000000 in
theorem c_X6_act_3_1 (l : Launch) (G : Gd) (s : Nat) (x : Int32) (j : Nat) (o : Nat) (rw : Nat) (fr : Nat) (kp : Nat) (tr : Nat) (ik : Int32) (tp : Nat) (tm : Nat) (mso : Int32) (bg : Nat) (en : Nat) (wd : Int64) (va : Int32) (gd : Int32) (rs : Nat) (mu : Nat) (rm : Nat) (ss : Nat) (msz : Nat) (msh : Nat) (mho : Nat) (mhn : Nat) (mhz : Nat) (kd : Int32) (nb : Int32) (tn : Int32) (tc : Nat) (bo : Nat) (ip : Int32) (la : Nat → Int32) (ns : Nat) (sd : Nat) (to : Nat → Int32) (he : Nat → Int32) (sw : Nat → Int32) (nh : Nat) (ki : Nat → Int32) (te : Nat → Int32) (mi : Nat → Int32) (ar : Nat → Int32) (z : Int32) (hof : Nat → Int32) (hnf : Nat → Int32) (tcf : Nat → Int32) (hs : s ≤ 3) (hho : hof s = 0) (hhn : hnf s = nI j) (hj : j < nh) (hnh : nh ≤ 8) (hk : ki j = 3) : Ct l G yX6_act cX6_act 6 (some (FieldType.int)) 8 [.ref o, .int (nI s), .int 1, .int x] (wF [wMo o rw fr kp tr ik tp tm mso bg en wd va gd rs mu rm ss msz msh mho mhn mhz kd nb tn tc bo ip, wMr G rw la ns sd to he sw nh ki te mi ar z, wI G mho 4 hof, wI G mhn 4 hnf, wI G tc 30 tcf]) (some (.int ((((x * 5 + (nI j)) + (te j)) - (te j)) * 2))) (wF [wMo o rw fr kp tr ik tp tm mso bg en wd va gd rs mu rm ss msz msh mho mhn mhz 3 (nI j) (te j) tc 4 0, wMr G rw la ns sd to he sw nh ki te mi ar z, wI G mho 4 hof, wI G mhn 4 hnf, wI G tc 30 (pF [20, 11, 51, 10] tcf 0)]) := by
  refine Ct.of "GooseArmsModel" [some (.ref o), some (.int (nI s)), some (.int 1), some (.int x), none, none] (by decide +kernel) rfl (Nat.le_of_ble_eq_true rfl) rfl ?_
  refine J_aload_n 0 0 dX6_act_0 rfl rfl ?_
  refine J_iconst (v := 0) 1 dX6_act_1 rfl ?_
  refine p_815 (ws' := (wF [wMo o rw fr kp tr ik tp tm mso bg en wd va gd rs mu rm ss msz msh mho mhn mhz kd nb tn tc 0 ip, wMr G rw la ns sd to he sw nh ki te mi ar z, wI G mho 4 hof, wI G mhn 4 hnf, wI G tc 30 tcf])) 2 0 rfl rfl rfl (Nat.le_of_ble_eq_true rfl) rfl dX6_act_2 ?_
  refine J_iload_n 5 1 dX6_act_5 rfl rfl ?_
  refine kb_RX6_262 (bs' := [wMo o rw fr kp tr ik tp tm mso bg en wd va gd rs mu rm ss msz msh mho mhn mhz kd nb tn tc 0 ip, wMr G rw la ns sd to he sw nh ki te mi ar z, wI G mho 4 hof, wI G mhn 4 hnf, wI G tc 30 tcf]) (rest := []) (st' := [.int 1]) 6 (c_X6_isShelf_t l G s (by first | omega | assumption)) [] rfl rfl [] rfl rfl rfl rfl rfl rfl (Nat.le_of_ble_eq_true rfl) rfl dX6_act_6 ?_
  refine J_if_eq (tgt := 20) 9 dX6_act_9 (by decide) (fun c_1_ => absurd c_1_ (by decide)) (fun _ => ?_)
  refine J_aload_n 12 0 dX6_act_12 rfl rfl ?_
  refine J_iload_n 13 1 dX6_act_13 rfl rfl ?_
  refine kb_RX6_290 (bs' := [wMo o rw fr kp tr ik tp tm mso bg en wd va gd rs mu rm ss msz msh mho mhn mhz kd nb tn tc 0 ip, wMr G rw la ns sd to he sw nh ki te mi ar z, wI G mho 4 hof, wI G mhn 4 hnf, wI G tc 30 tcf]) (rest := []) (st' := [.int (ki j)]) 14 (c_X6_kindOn_h l G s j o rw fr kp tr ik tp tm mso bg en wd va gd rs mu rm ss msz msh mho mhn mhz kd nb tn tc 0 ip la ns sd to he sw nh ki te mi ar z hof hnf (by first | omega | assumption) (by first | omega | assumption) (by first | omega | assumption) (by first | omega | assumption) (by first | omega | assumption)) [0, 1, 2, 3] 0 rfl rfl rfl [[o], [rw], [mho], [mhn]] rfl rfl rfl rfl rfl rfl (Nat.le_of_ble_eq_true rfl) rfl dX6_act_14 ?_
  refine J_topi (y := 3) 17 hk ?_
  refine J_goto (tgt := 21) 17 dX6_act_17 (by decide) ?_
  refine J_istore (lv' := [some (.ref o), some (.int (nI s)), some (.int 1), some (.int x), some (.int 3), none]) 21 dX6_act_21 (by decide) rfl ?_
  refine J_iload_n 23 2 dX6_act_23 rfl rfl ?_
  refine J_iconst (v := 0) 24 dX6_act_24 rfl ?_
  refine J_iconst (v := 3) 25 dX6_act_25 rfl ?_
  refine kb_RX6_57 (bs' := [wMo o rw fr kp tr ik tp tm mso bg en wd va gd rs mu rm ss msz msh mho mhn mhz kd nb tn tc 0 ip, wMr G rw la ns sd to he sw nh ki te mi ar z, wI G mho 4 hof, wI G mhn 4 hnf, wI G tc 30 tcf]) (rest := []) (st' := [.int 1]) 26 (c_X6_in_t l G 1 0 3 (by decide)) [] rfl rfl [] rfl rfl rfl rfl rfl rfl (Nat.le_of_ble_eq_true rfl) rfl dX6_act_26 ?_
  refine J_if_eq (tgt := 42) 29 dX6_act_29 (by decide) (fun c_2_ => absurd c_2_ (by decide)) (fun _ => ?_)
  refine J_iload 32 dX6_act_32 rfl ?_
  refine J_iconst (v := 0) 34 dX6_act_34 rfl ?_
  refine J_iconst (v := 5) 35 dX6_act_35 rfl ?_
  refine kb_RX6_57 (bs' := [wMo o rw fr kp tr ik tp tm mso bg en wd va gd rs mu rm ss msz msh mho mhn mhz kd nb tn tc 0 ip, wMr G rw la ns sd to he sw nh ki te mi ar z, wI G mho 4 hof, wI G mhn 4 hnf, wI G tc 30 tcf]) (rest := []) (st' := [.int 1]) 36 (c_X6_in_t l G 3 0 5 (by decide)) [] rfl rfl [] rfl rfl rfl rfl rfl rfl (Nat.le_of_ble_eq_true rfl) rfl dX6_act_36 ?_
  refine J_if_ne (tgt := 44) 39 dX6_act_39 (by decide) (fun _ => ?_) (fun c_3_ => absurd c_3_ (by decide))
  refine J_aload_n 44 0 dX6_act_44 rfl rfl ?_
  refine J_iload 45 dX6_act_45 rfl ?_
  refine p_811 (ws' := (wF [wMo o rw fr kp tr ik tp tm mso bg en wd va gd rs mu rm ss msz msh mho mhn mhz 3 nb tn tc 0 ip, wMr G rw la ns sd to he sw nh ki te mi ar z, wI G mho 4 hof, wI G mhn 4 hnf, wI G tc 30 tcf])) 47 0 rfl rfl rfl (Nat.le_of_ble_eq_true rfl) rfl dX6_act_47 ?_
  refine J_aload_n 50 0 dX6_act_50 rfl rfl ?_
  refine J_aload_n 51 0 dX6_act_51 rfl rfl ?_
  refine g_809 (v := .ref mhn) 52 0 rfl rfl dX6_act_52 ?_
  refine J_iload_n 55 1 dX6_act_55 rfl rfl ?_
  refine J_iald 56 3 s rfl rfl (by omega) (by decide) dX6_act_56 ?_
  refine J_topi (y := nI j) 57 hhn ?_
  refine p_812 (ws' := (wF [wMo o rw fr kp tr ik tp tm mso bg en wd va gd rs mu rm ss msz msh mho mhn mhz 3 (nI j) tn tc 0 ip, wMr G rw la ns sd to he sw nh ki te mi ar z, wI G mho 4 hof, wI G mhn 4 hnf, wI G tc 30 tcf])) 57 0 rfl rfl rfl (Nat.le_of_ble_eq_true rfl) rfl dX6_act_57 ?_
  refine J_aload_n 60 0 dX6_act_60 rfl rfl ?_
  refine J_aload_n 61 0 dX6_act_61 rfl rfl ?_
  refine J_aload_n 62 0 dX6_act_62 rfl rfl ?_
  refine g_812 (v := .int (nI j)) 63 0 rfl rfl dX6_act_63 ?_
  refine J_iconst (v := 1) 66 dX6_act_66 rfl ?_
  refine kb_RX6_187 (bs' := [wMo o rw fr kp tr ik tp tm mso bg en wd va gd rs mu rm ss msz msh mho mhn mhz 3 (nI j) tn tc 0 ip, wMr G rw la ns sd to he sw nh ki te mi ar z, wI G mho 4 hof, wI G mhn 4 hnf, wI G tc 30 tcf]) (rest := [.ref o]) (st' := [.int (te j), .ref o]) 67 (c_X6_its_1 l G j o rw fr kp tr ik tp tm mso bg en wd va gd rs mu rm ss msz msh mho mhn mhz 3 (nI j) tn tc 0 ip la ns sd to he sw nh ki te mi ar z (by first | omega | assumption)) [0, 1] 0 rfl rfl rfl [[o], [rw]] rfl rfl rfl rfl rfl rfl (Nat.le_of_ble_eq_true rfl) rfl dX6_act_67 ?_
  refine p_813 (ws' := (wF [wMo o rw fr kp tr ik tp tm mso bg en wd va gd rs mu rm ss msz msh mho mhn mhz 3 (nI j) (te j) tc 0 ip, wMr G rw la ns sd to he sw nh ki te mi ar z, wI G mho 4 hof, wI G mhn 4 hnf, wI G tc 30 tcf])) 70 0 rfl rfl rfl (Nat.le_of_ble_eq_true rfl) rfl dX6_act_70 ?_
  refine J_aload_n 73 0 dX6_act_73 rfl rfl ?_
  refine J_iconst (v := 0) 74 dX6_act_74 rfl ?_
  refine p_816 (ws' := (wF [wMo o rw fr kp tr ik tp tm mso bg en wd va gd rs mu rm ss msz msh mho mhn mhz 3 (nI j) (te j) tc 0 0, wMr G rw la ns sd to he sw nh ki te mi ar z, wI G mho 4 hof, wI G mhn 4 hnf, wI G tc 30 tcf])) 75 0 rfl rfl rfl (Nat.le_of_ble_eq_true rfl) rfl dX6_act_75 ?_
  refine J_iload_n 78 2 dX6_act_78 rfl rfl ?_
  refine J_if_ne (tgt := 90) 79 dX6_act_79 (by decide) (fun _ => ?_) (fun c_4_ => absurd c_4_ (by decide))
  refine J_iload_n 90 2 dX6_act_90 rfl rfl ?_
  refine J_iconst (v := 1) 91 dX6_act_91 rfl ?_
  refine J_icmp_ne (tgt := 103) 92 dX6_act_92 (by decide) (fun c_5_ => absurd c_5_ (by decide)) (fun _ => ?_)
  refine J_aload_n 95 0 dX6_act_95 rfl rfl ?_
  refine J_iload_n 96 3 dX6_act_96 rfl rfl ?_
  refine kb_RX6_329 (bs' := [wMo o rw fr kp tr ik tp tm mso bg en wd va gd rs mu rm ss msz msh mho mhn mhz 3 (nI j) (te j) tc (0 + 4) 0, wMr G rw la ns sd to he sw nh ki te mi ar z, wI G mho 4 hof, wI G mhn 4 hnf, wI G tc 30 (pF [20, 11, 51, 10] tcf 0)]) (rest := []) (st' := [.int ((((x * 5 + (nI j)) + (te j)) - (te j)) * 2)]) 97 (c_X6_readsIt_3 l G x o rw fr kp tr ik tp tm mso bg en wd va gd rs mu rm ss msz msh mho mhn mhz (nI j) (te j) tc 0 tcf (by decide)) [0, 4] 0 rfl rfl rfl [[o], [tc]] rfl rfl rfl rfl rfl rfl (Nat.le_of_ble_eq_true rfl) rfl dX6_act_97 ?_
  refine J_goto (tgt := 121) 100 dX6_act_100 (by decide) ?_
  refine J_istore (lv' := [some (.ref o), some (.int (nI s)), some (.int 1), some (.int x), some (.int 3), some (.int ((((x * 5 + (nI j)) + (te j)) - (te j)) * 2))]) 121 dX6_act_121 (by decide) rfl ?_
  refine J_aload_n 123 0 dX6_act_123 rfl rfl ?_
  refine g_816 (v := .int 0) 124 0 rfl rfl dX6_act_124 ?_
  refine J_if_eq (tgt := 135) 127 dX6_act_127 (by decide) (fun _ => ?_) (fun c_6_ => absurd c_6_ (by decide))
  refine J_iload 135 dX6_act_135 rfl ?_
  exact J_iret 137 dX6_act_137 rfl (cg1 (fun (x0_ : Nat) => (wF [wMo o rw fr kp tr ik tp tm mso bg en wd va gd rs mu rm ss msz msh mho mhn mhz 3 (nI j) (te j) tc x0_ 0, wMr G rw la ns sd to he sw nh ki te mi ar z, wI G mho 4 hof, wI G mhn 4 hnf, wI G tc 30 (pF [20, 11, 51, 10] tcf 0)])) (0 + 4) 4 rfl)
set_option maxRecDepth 100000 in
set_option maxHeartbeats 4000000 in
theorem c_X6_act_3_2 (l : Launch) (G : Gd) (s : Nat) (x : Int32) (j : Nat) (o : Nat) (rw : Nat) (fr : Nat) (kp : Nat) (tr : Nat) (ik : Int32) (tp : Nat) (tm : Nat) (mso : Int32) (bg : Nat) (en : Nat) (wd : Int64) (va : Int32) (gd : Int32) (rs : Nat) (mu : Nat) (rm : Nat) (ss : Nat) (msz : Nat) (msh : Nat) (mho : Nat) (mhn : Nat) (mhz : Nat) (kd : Int32) (nb : Int32) (tn : Int32) (tc : Nat) (bo : Nat) (ip : Int32) (la : Nat → Int32) (ns : Nat) (sd : Nat) (to : Nat → Int32) (he : Nat → Int32) (sw : Nat → Int32) (nh : Nat) (ki : Nat → Int32) (te : Nat → Int32) (mi : Nat → Int32) (ar : Nat → Int32) (z : Int32) (hof : Nat → Int32) (hnf : Nat → Int32) (tcf : Nat → Int32) (hs : s ≤ 3) (hho : hof s = 0) (hhn : hnf s = nI j) (hj : j < nh) (hnh : nh ≤ 8) (hk : ki j = 3) (hz : ¬ te j = nI j) : Ct l G yX6_act cX6_act 6 (some (FieldType.int)) 8 [.ref o, .int (nI s), .int 2, .int x] (wF [wMo o rw fr kp tr ik tp tm mso bg en wd va gd rs mu rm ss msz msh mho mhn mhz kd nb tn tc bo ip, wMr G rw la ns sd to he sw nh ki te mi ar z, wI G mho 4 hof, wI G mhn 4 hnf, wI G tc 30 tcf]) (some (.int (((x * 3) / ((te j) - (nI j))) + 2))) (wF [wMo o rw fr kp tr ik tp tm mso bg en wd va gd rs mu rm ss msz msh mho mhn mhz 3 (nI j) (te j) tc 2 0, wMr G rw la ns sd to he sw nh ki te mi ar z, wI G mho 4 hof, wI G mhn 4 hnf, wI G tc 30 (pF [50, 12] tcf 0)]) := by
  refine Ct.of "GooseArmsModel" [some (.ref o), some (.int (nI s)), some (.int 2), some (.int x), none, none] (by decide +kernel) rfl (Nat.le_of_ble_eq_true rfl) rfl ?_
  refine J_aload_n 0 0 dX6_act_0 rfl rfl ?_
  refine J_iconst (v := 0) 1 dX6_act_1 rfl ?_
  refine p_815 (ws' := (wF [wMo o rw fr kp tr ik tp tm mso bg en wd va gd rs mu rm ss msz msh mho mhn mhz kd nb tn tc 0 ip, wMr G rw la ns sd to he sw nh ki te mi ar z, wI G mho 4 hof, wI G mhn 4 hnf, wI G tc 30 tcf])) 2 0 rfl rfl rfl (Nat.le_of_ble_eq_true rfl) rfl dX6_act_2 ?_
  refine J_iload_n 5 1 dX6_act_5 rfl rfl ?_
  refine kb_RX6_262 (bs' := [wMo o rw fr kp tr ik tp tm mso bg en wd va gd rs mu rm ss msz msh mho mhn mhz kd nb tn tc 0 ip, wMr G rw la ns sd to he sw nh ki te mi ar z, wI G mho 4 hof, wI G mhn 4 hnf, wI G tc 30 tcf]) (rest := []) (st' := [.int 1]) 6 (c_X6_isShelf_t l G s (by first | omega | assumption)) [] rfl rfl [] rfl rfl rfl rfl rfl rfl (Nat.le_of_ble_eq_true rfl) rfl dX6_act_6 ?_
  refine J_if_eq (tgt := 20) 9 dX6_act_9 (by decide) (fun c_1_ => absurd c_1_ (by decide)) (fun _ => ?_)
  refine J_aload_n 12 0 dX6_act_12 rfl rfl ?_
  refine J_iload_n 13 1 dX6_act_13 rfl rfl ?_
  refine kb_RX6_290 (bs' := [wMo o rw fr kp tr ik tp tm mso bg en wd va gd rs mu rm ss msz msh mho mhn mhz kd nb tn tc 0 ip, wMr G rw la ns sd to he sw nh ki te mi ar z, wI G mho 4 hof, wI G mhn 4 hnf, wI G tc 30 tcf]) (rest := []) (st' := [.int (ki j)]) 14 (c_X6_kindOn_h l G s j o rw fr kp tr ik tp tm mso bg en wd va gd rs mu rm ss msz msh mho mhn mhz kd nb tn tc 0 ip la ns sd to he sw nh ki te mi ar z hof hnf (by first | omega | assumption) (by first | omega | assumption) (by first | omega | assumption) (by first | omega | assumption) (by first | omega | assumption)) [0, 1, 2, 3] 0 rfl rfl rfl [[o], [rw], [mho], [mhn]] rfl rfl rfl rfl rfl rfl (Nat.le_of_ble_eq_true rfl) rfl dX6_act_14 ?_
  refine J_topi (y := 3) 17 hk ?_
  refine J_goto (tgt := 21) 17 dX6_act_17 (by decide) ?_
  refine J_istore (lv' := [some (.ref o), some (.int (nI s)), some (.int 2), some (.int x), some (.int 3), none]) 21 dX6_act_21 (by decide) rfl ?_
  refine J_iload_n 23 2 dX6_act_23 rfl rfl ?_
  refine J_iconst (v := 0) 24 dX6_act_24 rfl ?_
  refine J_iconst (v := 3) 25 dX6_act_25 rfl ?_
  refine kb_RX6_57 (bs' := [wMo o rw fr kp tr ik tp tm mso bg en wd va gd rs mu rm ss msz msh mho mhn mhz kd nb tn tc 0 ip, wMr G rw la ns sd to he sw nh ki te mi ar z, wI G mho 4 hof, wI G mhn 4 hnf, wI G tc 30 tcf]) (rest := []) (st' := [.int 1]) 26 (c_X6_in_t l G 2 0 3 (by decide)) [] rfl rfl [] rfl rfl rfl rfl rfl rfl (Nat.le_of_ble_eq_true rfl) rfl dX6_act_26 ?_
  refine J_if_eq (tgt := 42) 29 dX6_act_29 (by decide) (fun c_2_ => absurd c_2_ (by decide)) (fun _ => ?_)
  refine J_iload 32 dX6_act_32 rfl ?_
  refine J_iconst (v := 0) 34 dX6_act_34 rfl ?_
  refine J_iconst (v := 5) 35 dX6_act_35 rfl ?_
  refine kb_RX6_57 (bs' := [wMo o rw fr kp tr ik tp tm mso bg en wd va gd rs mu rm ss msz msh mho mhn mhz kd nb tn tc 0 ip, wMr G rw la ns sd to he sw nh ki te mi ar z, wI G mho 4 hof, wI G mhn 4 hnf, wI G tc 30 tcf]) (rest := []) (st' := [.int 1]) 36 (c_X6_in_t l G 3 0 5 (by decide)) [] rfl rfl [] rfl rfl rfl rfl rfl rfl (Nat.le_of_ble_eq_true rfl) rfl dX6_act_36 ?_
  refine J_if_ne (tgt := 44) 39 dX6_act_39 (by decide) (fun _ => ?_) (fun c_3_ => absurd c_3_ (by decide))
  refine J_aload_n 44 0 dX6_act_44 rfl rfl ?_
  refine J_iload 45 dX6_act_45 rfl ?_
  refine p_811 (ws' := (wF [wMo o rw fr kp tr ik tp tm mso bg en wd va gd rs mu rm ss msz msh mho mhn mhz 3 nb tn tc 0 ip, wMr G rw la ns sd to he sw nh ki te mi ar z, wI G mho 4 hof, wI G mhn 4 hnf, wI G tc 30 tcf])) 47 0 rfl rfl rfl (Nat.le_of_ble_eq_true rfl) rfl dX6_act_47 ?_
  refine J_aload_n 50 0 dX6_act_50 rfl rfl ?_
  refine J_aload_n 51 0 dX6_act_51 rfl rfl ?_
  refine g_809 (v := .ref mhn) 52 0 rfl rfl dX6_act_52 ?_
  refine J_iload_n 55 1 dX6_act_55 rfl rfl ?_
  refine J_iald 56 3 s rfl rfl (by omega) (by decide) dX6_act_56 ?_
  refine J_topi (y := nI j) 57 hhn ?_
  refine p_812 (ws' := (wF [wMo o rw fr kp tr ik tp tm mso bg en wd va gd rs mu rm ss msz msh mho mhn mhz 3 (nI j) tn tc 0 ip, wMr G rw la ns sd to he sw nh ki te mi ar z, wI G mho 4 hof, wI G mhn 4 hnf, wI G tc 30 tcf])) 57 0 rfl rfl rfl (Nat.le_of_ble_eq_true rfl) rfl dX6_act_57 ?_
  refine J_aload_n 60 0 dX6_act_60 rfl rfl ?_
  refine J_aload_n 61 0 dX6_act_61 rfl rfl ?_
  refine J_aload_n 62 0 dX6_act_62 rfl rfl ?_
  refine g_812 (v := .int (nI j)) 63 0 rfl rfl dX6_act_63 ?_
  refine J_iconst (v := 1) 66 dX6_act_66 rfl ?_
  refine kb_RX6_187 (bs' := [wMo o rw fr kp tr ik tp tm mso bg en wd va gd rs mu rm ss msz msh mho mhn mhz 3 (nI j) tn tc 0 ip, wMr G rw la ns sd to he sw nh ki te mi ar z, wI G mho 4 hof, wI G mhn 4 hnf, wI G tc 30 tcf]) (rest := [.ref o]) (st' := [.int (te j), .ref o]) 67 (c_X6_its_1 l G j o rw fr kp tr ik tp tm mso bg en wd va gd rs mu rm ss msz msh mho mhn mhz 3 (nI j) tn tc 0 ip la ns sd to he sw nh ki te mi ar z (by first | omega | assumption)) [0, 1] 0 rfl rfl rfl [[o], [rw]] rfl rfl rfl rfl rfl rfl (Nat.le_of_ble_eq_true rfl) rfl dX6_act_67 ?_
  refine p_813 (ws' := (wF [wMo o rw fr kp tr ik tp tm mso bg en wd va gd rs mu rm ss msz msh mho mhn mhz 3 (nI j) (te j) tc 0 ip, wMr G rw la ns sd to he sw nh ki te mi ar z, wI G mho 4 hof, wI G mhn 4 hnf, wI G tc 30 tcf])) 70 0 rfl rfl rfl (Nat.le_of_ble_eq_true rfl) rfl dX6_act_70 ?_
  refine J_aload_n 73 0 dX6_act_73 rfl rfl ?_
  refine J_iconst (v := 0) 74 dX6_act_74 rfl ?_
  refine p_816 (ws' := (wF [wMo o rw fr kp tr ik tp tm mso bg en wd va gd rs mu rm ss msz msh mho mhn mhz 3 (nI j) (te j) tc 0 0, wMr G rw la ns sd to he sw nh ki te mi ar z, wI G mho 4 hof, wI G mhn 4 hnf, wI G tc 30 tcf])) 75 0 rfl rfl rfl (Nat.le_of_ble_eq_true rfl) rfl dX6_act_75 ?_
  refine J_iload_n 78 2 dX6_act_78 rfl rfl ?_
  refine J_if_ne (tgt := 90) 79 dX6_act_79 (by decide) (fun _ => ?_) (fun c_4_ => absurd c_4_ (by decide))
  refine J_iload_n 90 2 dX6_act_90 rfl rfl ?_
  refine J_iconst (v := 1) 91 dX6_act_91 rfl ?_
  refine J_icmp_ne (tgt := 103) 92 dX6_act_92 (by decide) (fun _ => ?_) (fun c_5_ => absurd c_5_ (by decide))
  refine J_iload_n 103 2 dX6_act_103 rfl rfl ?_
  refine J_iconst (v := 2) 104 dX6_act_104 rfl ?_
  refine J_icmp_ne (tgt := 116) 105 dX6_act_105 (by decide) (fun c_6_ => absurd c_6_ (by decide)) (fun _ => ?_)
  refine J_aload_n 108 0 dX6_act_108 rfl rfl ?_
  refine J_iload_n 109 3 dX6_act_109 rfl rfl ?_
  refine kb_RX6_335 (bs' := [wMo o rw fr kp tr ik tp tm mso bg en wd va gd rs mu rm ss msz msh mho mhn mhz 3 (nI j) (te j) tc (0 + 2) 0, wMr G rw la ns sd to he sw nh ki te mi ar z, wI G mho 4 hof, wI G mhn 4 hnf, wI G tc 30 (pF [50, 12] tcf 0)]) (rest := []) (st' := [.int (((x * 3) / ((te j) - (nI j))) + 2)]) 110 (c_X6_partsIt_3 l G x o rw fr kp tr ik tp tm mso bg en wd va gd rs mu rm ss msz msh mho mhn mhz (nI j) (te j) tc 0 tcf (by decide) hz) [0, 4] 0 rfl rfl rfl [[o], [tc]] rfl rfl rfl rfl rfl rfl (Nat.le_of_ble_eq_true rfl) rfl dX6_act_110 ?_
  refine J_goto (tgt := 121) 113 dX6_act_113 (by decide) ?_
  refine J_istore (lv' := [some (.ref o), some (.int (nI s)), some (.int 2), some (.int x), some (.int 3), some (.int (((x * 3) / ((te j) - (nI j))) + 2))]) 121 dX6_act_121 (by decide) rfl ?_
  refine J_aload_n 123 0 dX6_act_123 rfl rfl ?_
  refine g_816 (v := .int 0) 124 0 rfl rfl dX6_act_124 ?_
  refine J_if_eq (tgt := 135) 127 dX6_act_127 (by decide) (fun _ => ?_) (fun c_7_ => absurd c_7_ (by decide))
  refine J_iload 135 dX6_act_135 rfl ?_
  exact J_iret 137 dX6_act_137 rfl (cg1 (fun (x0_ : Nat) => (wF [wMo o rw fr kp tr ik tp tm mso bg en wd va gd rs mu rm ss msz msh mho mhn mhz 3 (nI j) (te j) tc x0_ 0, wMr G rw la ns sd to he sw nh ki te mi ar z, wI G mho 4 hof, wI G mhn 4 hnf, wI G tc 30 (pF [50, 12] tcf 0)])) (0 + 2) 2 rfl)
set_option maxRecDepth 100000 in
set_option maxHeartbeats 4000000 in
theorem c_X6_act_3_2z (l : Launch) (G : Gd) (s : Nat) (x : Int32) (j : Nat) (o : Nat) (rw : Nat) (fr : Nat) (kp : Nat) (tr : Nat) (ik : Int32) (tp : Nat) (tm : Nat) (mso : Int32) (bg : Nat) (en : Nat) (wd : Int64) (va : Int32) (gd : Int32) (rs : Nat) (mu : Nat) (rm : Nat) (ss : Nat) (msz : Nat) (msh : Nat) (mho : Nat) (mhn : Nat) (mhz : Nat) (kd : Int32) (nb : Int32) (tn : Int32) (tc : Nat) (bo : Nat) (ip : Int32) (la : Nat → Int32) (ns : Nat) (sd : Nat) (to : Nat → Int32) (he : Nat → Int32) (sw : Nat → Int32) (nh : Nat) (ki : Nat → Int32) (te : Nat → Int32) (mi : Nat → Int32) (ar : Nat → Int32) (z : Int32) (hof : Nat → Int32) (hnf : Nat → Int32) (tcf : Nat → Int32) (hs : s ≤ 3) (hho : hof s = 0) (hhn : hnf s = nI j) (hj : j < nh) (hnh : nh ≤ 8) (hk : ki j = 3) (hz : te j = nI j) : Ct l G yX6_act cX6_act 6 (some (FieldType.int)) 8 [.ref o, .int (nI s), .int 2, .int x] (wF [wMo o rw fr kp tr ik tp tm mso bg en wd va gd rs mu rm ss msz msh mho mhn mhz kd nb tn tc bo ip, wMr G rw la ns sd to he sw nh ki te mi ar z, wI G mho 4 hof, wI G mhn 4 hnf, wI G tc 30 tcf]) (some (.int (-15))) (wF [wMo o rw fr kp tr ik tp tm mso bg en wd va gd rs mu rm ss msz msh mho mhn mhz 3 (nI j) (te j) tc 2 1, wMr G rw la ns sd to he sw nh ki te mi ar z, wI G mho 4 hof, wI G mhn 4 hnf, wI G tc 30 (pF [50, 12] tcf 0)]) := by
  refine Ct.of "GooseArmsModel" [some (.ref o), some (.int (nI s)), some (.int 2), some (.int x), none, none] (by decide +kernel) rfl (Nat.le_of_ble_eq_true rfl) rfl ?_
  refine J_aload_n 0 0 dX6_act_0 rfl rfl ?_
  refine J_iconst (v := 0) 1 dX6_act_1 rfl ?_
  refine p_815 (ws' := (wF [wMo o rw fr kp tr ik tp tm mso bg en wd va gd rs mu rm ss msz msh mho mhn mhz kd nb tn tc 0 ip, wMr G rw la ns sd to he sw nh ki te mi ar z, wI G mho 4 hof, wI G mhn 4 hnf, wI G tc 30 tcf])) 2 0 rfl rfl rfl (Nat.le_of_ble_eq_true rfl) rfl dX6_act_2 ?_
  refine J_iload_n 5 1 dX6_act_5 rfl rfl ?_
  refine kb_RX6_262 (bs' := [wMo o rw fr kp tr ik tp tm mso bg en wd va gd rs mu rm ss msz msh mho mhn mhz kd nb tn tc 0 ip, wMr G rw la ns sd to he sw nh ki te mi ar z, wI G mho 4 hof, wI G mhn 4 hnf, wI G tc 30 tcf]) (rest := []) (st' := [.int 1]) 6 (c_X6_isShelf_t l G s (by first | omega | assumption)) [] rfl rfl [] rfl rfl rfl rfl rfl rfl (Nat.le_of_ble_eq_true rfl) rfl dX6_act_6 ?_
  refine J_if_eq (tgt := 20) 9 dX6_act_9 (by decide) (fun c_1_ => absurd c_1_ (by decide)) (fun _ => ?_)
  refine J_aload_n 12 0 dX6_act_12 rfl rfl ?_
  refine J_iload_n 13 1 dX6_act_13 rfl rfl ?_
  refine kb_RX6_290 (bs' := [wMo o rw fr kp tr ik tp tm mso bg en wd va gd rs mu rm ss msz msh mho mhn mhz kd nb tn tc 0 ip, wMr G rw la ns sd to he sw nh ki te mi ar z, wI G mho 4 hof, wI G mhn 4 hnf, wI G tc 30 tcf]) (rest := []) (st' := [.int (ki j)]) 14 (c_X6_kindOn_h l G s j o rw fr kp tr ik tp tm mso bg en wd va gd rs mu rm ss msz msh mho mhn mhz kd nb tn tc 0 ip la ns sd to he sw nh ki te mi ar z hof hnf (by first | omega | assumption) (by first | omega | assumption) (by first | omega | assumption) (by first | omega | assumption) (by first | omega | assumption)) [0, 1, 2, 3] 0 rfl rfl rfl [[o], [rw], [mho], [mhn]] rfl rfl rfl rfl rfl rfl (Nat.le_of_ble_eq_true rfl) rfl dX6_act_14 ?_
  refine J_topi (y := 3) 17 hk ?_
  refine J_goto (tgt := 21) 17 dX6_act_17 (by decide) ?_
  refine J_istore (lv' := [some (.ref o), some (.int (nI s)), some (.int 2), some (.int x), some (.int 3), none]) 21 dX6_act_21 (by decide) rfl ?_
  refine J_iload_n 23 2 dX6_act_23 rfl rfl ?_
  refine J_iconst (v := 0) 24 dX6_act_24 rfl ?_
  refine J_iconst (v := 3) 25 dX6_act_25 rfl ?_
  refine kb_RX6_57 (bs' := [wMo o rw fr kp tr ik tp tm mso bg en wd va gd rs mu rm ss msz msh mho mhn mhz kd nb tn tc 0 ip, wMr G rw la ns sd to he sw nh ki te mi ar z, wI G mho 4 hof, wI G mhn 4 hnf, wI G tc 30 tcf]) (rest := []) (st' := [.int 1]) 26 (c_X6_in_t l G 2 0 3 (by decide)) [] rfl rfl [] rfl rfl rfl rfl rfl rfl (Nat.le_of_ble_eq_true rfl) rfl dX6_act_26 ?_
  refine J_if_eq (tgt := 42) 29 dX6_act_29 (by decide) (fun c_2_ => absurd c_2_ (by decide)) (fun _ => ?_)
  refine J_iload 32 dX6_act_32 rfl ?_
  refine J_iconst (v := 0) 34 dX6_act_34 rfl ?_
  refine J_iconst (v := 5) 35 dX6_act_35 rfl ?_
  refine kb_RX6_57 (bs' := [wMo o rw fr kp tr ik tp tm mso bg en wd va gd rs mu rm ss msz msh mho mhn mhz kd nb tn tc 0 ip, wMr G rw la ns sd to he sw nh ki te mi ar z, wI G mho 4 hof, wI G mhn 4 hnf, wI G tc 30 tcf]) (rest := []) (st' := [.int 1]) 36 (c_X6_in_t l G 3 0 5 (by decide)) [] rfl rfl [] rfl rfl rfl rfl rfl rfl (Nat.le_of_ble_eq_true rfl) rfl dX6_act_36 ?_
  refine J_if_ne (tgt := 44) 39 dX6_act_39 (by decide) (fun _ => ?_) (fun c_3_ => absurd c_3_ (by decide))
  refine J_aload_n 44 0 dX6_act_44 rfl rfl ?_
  refine J_iload 45 dX6_act_45 rfl ?_
  refine p_811 (ws' := (wF [wMo o rw fr kp tr ik tp tm mso bg en wd va gd rs mu rm ss msz msh mho mhn mhz 3 nb tn tc 0 ip, wMr G rw la ns sd to he sw nh ki te mi ar z, wI G mho 4 hof, wI G mhn 4 hnf, wI G tc 30 tcf])) 47 0 rfl rfl rfl (Nat.le_of_ble_eq_true rfl) rfl dX6_act_47 ?_
  refine J_aload_n 50 0 dX6_act_50 rfl rfl ?_
  refine J_aload_n 51 0 dX6_act_51 rfl rfl ?_
  refine g_809 (v := .ref mhn) 52 0 rfl rfl dX6_act_52 ?_
  refine J_iload_n 55 1 dX6_act_55 rfl rfl ?_
  refine J_iald 56 3 s rfl rfl (by omega) (by decide) dX6_act_56 ?_
  refine J_topi (y := nI j) 57 hhn ?_
  refine p_812 (ws' := (wF [wMo o rw fr kp tr ik tp tm mso bg en wd va gd rs mu rm ss msz msh mho mhn mhz 3 (nI j) tn tc 0 ip, wMr G rw la ns sd to he sw nh ki te mi ar z, wI G mho 4 hof, wI G mhn 4 hnf, wI G tc 30 tcf])) 57 0 rfl rfl rfl (Nat.le_of_ble_eq_true rfl) rfl dX6_act_57 ?_
  refine J_aload_n 60 0 dX6_act_60 rfl rfl ?_
  refine J_aload_n 61 0 dX6_act_61 rfl rfl ?_
  refine J_aload_n 62 0 dX6_act_62 rfl rfl ?_
  refine g_812 (v := .int (nI j)) 63 0 rfl rfl dX6_act_63 ?_
  refine J_iconst (v := 1) 66 dX6_act_66 rfl ?_
  refine kb_RX6_187 (bs' := [wMo o rw fr kp tr ik tp tm mso bg en wd va gd rs mu rm ss msz msh mho mhn mhz 3 (nI j) tn tc 0 ip, wMr G rw la ns sd to he sw nh ki te mi ar z, wI G mho 4 hof, wI G mhn 4 hnf, wI G tc 30 tcf]) (rest := [.ref o]) (st' := [.int (te j), .ref o]) 67 (c_X6_its_1 l G j o rw fr kp tr ik tp tm mso bg en wd va gd rs mu rm ss msz msh mho mhn mhz 3 (nI j) tn tc 0 ip la ns sd to he sw nh ki te mi ar z (by first | omega | assumption)) [0, 1] 0 rfl rfl rfl [[o], [rw]] rfl rfl rfl rfl rfl rfl (Nat.le_of_ble_eq_true rfl) rfl dX6_act_67 ?_
  refine p_813 (ws' := (wF [wMo o rw fr kp tr ik tp tm mso bg en wd va gd rs mu rm ss msz msh mho mhn mhz 3 (nI j) (te j) tc 0 ip, wMr G rw la ns sd to he sw nh ki te mi ar z, wI G mho 4 hof, wI G mhn 4 hnf, wI G tc 30 tcf])) 70 0 rfl rfl rfl (Nat.le_of_ble_eq_true rfl) rfl dX6_act_70 ?_
  refine J_aload_n 73 0 dX6_act_73 rfl rfl ?_
  refine J_iconst (v := 0) 74 dX6_act_74 rfl ?_
  refine p_816 (ws' := (wF [wMo o rw fr kp tr ik tp tm mso bg en wd va gd rs mu rm ss msz msh mho mhn mhz 3 (nI j) (te j) tc 0 0, wMr G rw la ns sd to he sw nh ki te mi ar z, wI G mho 4 hof, wI G mhn 4 hnf, wI G tc 30 tcf])) 75 0 rfl rfl rfl (Nat.le_of_ble_eq_true rfl) rfl dX6_act_75 ?_
  refine J_iload_n 78 2 dX6_act_78 rfl rfl ?_
  refine J_if_ne (tgt := 90) 79 dX6_act_79 (by decide) (fun _ => ?_) (fun c_4_ => absurd c_4_ (by decide))
  refine J_iload_n 90 2 dX6_act_90 rfl rfl ?_
  refine J_iconst (v := 1) 91 dX6_act_91 rfl ?_
  refine J_icmp_ne (tgt := 103) 92 dX6_act_92 (by decide) (fun _ => ?_) (fun c_5_ => absurd c_5_ (by decide))
  refine J_iload_n 103 2 dX6_act_103 rfl rfl ?_
  refine J_iconst (v := 2) 104 dX6_act_104 rfl ?_
  refine J_icmp_ne (tgt := 116) 105 dX6_act_105 (by decide) (fun c_6_ => absurd c_6_ (by decide)) (fun _ => ?_)
  refine J_aload_n 108 0 dX6_act_108 rfl rfl ?_
  refine J_iload_n 109 3 dX6_act_109 rfl rfl ?_
  refine kb_RX6_335 (bs' := [wMo o rw fr kp tr ik tp tm mso bg en wd va gd rs mu rm ss msz msh mho mhn mhz 3 (nI j) (te j) tc (0 + 2) 1, wMr G rw la ns sd to he sw nh ki te mi ar z, wI G mho 4 hof, wI G mhn 4 hnf, wI G tc 30 (pF [50, 12] tcf 0)]) (rest := []) (st' := [.int (0 + 2)]) 110 (c_X6_partsIt_3z l G x o rw fr kp tr ik tp tm mso bg en wd va gd rs mu rm ss msz msh mho mhn mhz (nI j) (te j) tc 0 tcf (by decide) hz) [0, 4] 0 rfl rfl rfl [[o], [tc]] rfl rfl rfl rfl rfl rfl (Nat.le_of_ble_eq_true rfl) rfl dX6_act_110 ?_
  refine J_goto (tgt := 121) 113 dX6_act_113 (by decide) ?_
  refine J_istore (lv' := [some (.ref o), some (.int (nI s)), some (.int 2), some (.int x), some (.int 3), some (.int (0 + 2))]) 121 dX6_act_121 (by decide) rfl ?_
  refine J_aload_n 123 0 dX6_act_123 rfl rfl ?_
  refine g_816 (v := .int 1) 124 0 rfl rfl dX6_act_124 ?_
  refine J_if_eq (tgt := 135) 127 dX6_act_127 (by decide) (fun c_7_ => absurd c_7_ (by decide)) (fun _ => ?_)
  refine J_bipush (v := (-15)) 130 dX6_act_130 rfl ?_
  refine J_goto (tgt := 137) 132 dX6_act_132 (by decide) ?_
  exact J_iret 137 dX6_act_137 rfl (cg1 (fun (x0_ : Nat) => (wF [wMo o rw fr kp tr ik tp tm mso bg en wd va gd rs mu rm ss msz msh mho mhn mhz 3 (nI j) (te j) tc x0_ 1, wMr G rw la ns sd to he sw nh ki te mi ar z, wI G mho 4 hof, wI G mhn 4 hnf, wI G tc 30 (pF [50, 12] tcf 0)])) (0 + 2) 2 rfl)
set_option maxRecDepth 100000 in
set_option maxHeartbeats 4000000 in
theorem c_X6_act_3_3 (l : Launch) (G : Gd) (s : Nat) (x : Int32) (j : Nat) (o : Nat) (rw : Nat) (fr : Nat) (kp : Nat) (tr : Nat) (ik : Int32) (tp : Nat) (tm : Nat) (mso : Int32) (bg : Nat) (en : Nat) (wd : Int64) (va : Int32) (gd : Int32) (rs : Nat) (mu : Nat) (rm : Nat) (ss : Nat) (msz : Nat) (msh : Nat) (mho : Nat) (mhn : Nat) (mhz : Nat) (kd : Int32) (nb : Int32) (tn : Int32) (tc : Nat) (bo : Nat) (ip : Int32) (la : Nat → Int32) (ns : Nat) (sd : Nat) (to : Nat → Int32) (he : Nat → Int32) (sw : Nat → Int32) (nh : Nat) (ki : Nat → Int32) (te : Nat → Int32) (mi : Nat → Int32) (ar : Nat → Int32) (z : Int32) (hof : Nat → Int32) (hnf : Nat → Int32) (tcf : Nat → Int32) (hs : s ≤ 3) (hho : hof s = 0) (hhn : hnf s = nI j) (hj : j < nh) (hnh : nh ≤ 8) (hk : ki j = 3) : Ct l G yX6_act cX6_act 6 (some (FieldType.int)) 8 [.ref o, .int (nI s), .int 3, .int x] (wF [wMo o rw fr kp tr ik tp tm mso bg en wd va gd rs mu rm ss msz msh mho mhn mhz kd nb tn tc bo ip, wMr G rw la ns sd to he sw nh ki te mi ar z, wI G mho 4 hof, wI G mhn 4 hnf, wI G tc 30 tcf]) (some (.int (((((x * 5 + (nI j)) + (te j)) - (te j)) * 2) ^^^ 150))) (wF [wMo o rw fr kp tr ik tp tm mso bg en wd va gd rs mu rm ss msz msh mho mhn mhz 3 (nI j) (te j) tc 5 0, wMr G rw la ns sd to he sw nh ki te mi ar z, wI G mho 4 hof, wI G mhn 4 hnf, wI G tc 30 (pF [13, 20, 11, 51, 10] tcf 0)]) := by
  refine Ct.of "GooseArmsModel" [some (.ref o), some (.int (nI s)), some (.int 3), some (.int x), none, none] (by decide +kernel) rfl (Nat.le_of_ble_eq_true rfl) rfl ?_
  refine J_aload_n 0 0 dX6_act_0 rfl rfl ?_
  refine J_iconst (v := 0) 1 dX6_act_1 rfl ?_
  refine p_815 (ws' := (wF [wMo o rw fr kp tr ik tp tm mso bg en wd va gd rs mu rm ss msz msh mho mhn mhz kd nb tn tc 0 ip, wMr G rw la ns sd to he sw nh ki te mi ar z, wI G mho 4 hof, wI G mhn 4 hnf, wI G tc 30 tcf])) 2 0 rfl rfl rfl (Nat.le_of_ble_eq_true rfl) rfl dX6_act_2 ?_
  refine J_iload_n 5 1 dX6_act_5 rfl rfl ?_
  refine kb_RX6_262 (bs' := [wMo o rw fr kp tr ik tp tm mso bg en wd va gd rs mu rm ss msz msh mho mhn mhz kd nb tn tc 0 ip, wMr G rw la ns sd to he sw nh ki te mi ar z, wI G mho 4 hof, wI G mhn 4 hnf, wI G tc 30 tcf]) (rest := []) (st' := [.int 1]) 6 (c_X6_isShelf_t l G s (by first | omega | assumption)) [] rfl rfl [] rfl rfl rfl rfl rfl rfl (Nat.le_of_ble_eq_true rfl) rfl dX6_act_6 ?_
  refine J_if_eq (tgt := 20) 9 dX6_act_9 (by decide) (fun c_1_ => absurd c_1_ (by decide)) (fun _ => ?_)
  refine J_aload_n 12 0 dX6_act_12 rfl rfl ?_
  refine J_iload_n 13 1 dX6_act_13 rfl rfl ?_
  refine kb_RX6_290 (bs' := [wMo o rw fr kp tr ik tp tm mso bg en wd va gd rs mu rm ss msz msh mho mhn mhz kd nb tn tc 0 ip, wMr G rw la ns sd to he sw nh ki te mi ar z, wI G mho 4 hof, wI G mhn 4 hnf, wI G tc 30 tcf]) (rest := []) (st' := [.int (ki j)]) 14 (c_X6_kindOn_h l G s j o rw fr kp tr ik tp tm mso bg en wd va gd rs mu rm ss msz msh mho mhn mhz kd nb tn tc 0 ip la ns sd to he sw nh ki te mi ar z hof hnf (by first | omega | assumption) (by first | omega | assumption) (by first | omega | assumption) (by first | omega | assumption) (by first | omega | assumption)) [0, 1, 2, 3] 0 rfl rfl rfl [[o], [rw], [mho], [mhn]] rfl rfl rfl rfl rfl rfl (Nat.le_of_ble_eq_true rfl) rfl dX6_act_14 ?_
  refine J_topi (y := 3) 17 hk ?_
  refine J_goto (tgt := 21) 17 dX6_act_17 (by decide) ?_
  refine J_istore (lv' := [some (.ref o), some (.int (nI s)), some (.int 3), some (.int x), some (.int 3), none]) 21 dX6_act_21 (by decide) rfl ?_
  refine J_iload_n 23 2 dX6_act_23 rfl rfl ?_
  refine J_iconst (v := 0) 24 dX6_act_24 rfl ?_
  refine J_iconst (v := 3) 25 dX6_act_25 rfl ?_
  refine kb_RX6_57 (bs' := [wMo o rw fr kp tr ik tp tm mso bg en wd va gd rs mu rm ss msz msh mho mhn mhz kd nb tn tc 0 ip, wMr G rw la ns sd to he sw nh ki te mi ar z, wI G mho 4 hof, wI G mhn 4 hnf, wI G tc 30 tcf]) (rest := []) (st' := [.int 1]) 26 (c_X6_in_t l G 3 0 3 (by decide)) [] rfl rfl [] rfl rfl rfl rfl rfl rfl (Nat.le_of_ble_eq_true rfl) rfl dX6_act_26 ?_
  refine J_if_eq (tgt := 42) 29 dX6_act_29 (by decide) (fun c_2_ => absurd c_2_ (by decide)) (fun _ => ?_)
  refine J_iload 32 dX6_act_32 rfl ?_
  refine J_iconst (v := 0) 34 dX6_act_34 rfl ?_
  refine J_iconst (v := 5) 35 dX6_act_35 rfl ?_
  refine kb_RX6_57 (bs' := [wMo o rw fr kp tr ik tp tm mso bg en wd va gd rs mu rm ss msz msh mho mhn mhz kd nb tn tc 0 ip, wMr G rw la ns sd to he sw nh ki te mi ar z, wI G mho 4 hof, wI G mhn 4 hnf, wI G tc 30 tcf]) (rest := []) (st' := [.int 1]) 36 (c_X6_in_t l G 3 0 5 (by decide)) [] rfl rfl [] rfl rfl rfl rfl rfl rfl (Nat.le_of_ble_eq_true rfl) rfl dX6_act_36 ?_
  refine J_if_ne (tgt := 44) 39 dX6_act_39 (by decide) (fun _ => ?_) (fun c_3_ => absurd c_3_ (by decide))
  refine J_aload_n 44 0 dX6_act_44 rfl rfl ?_
  refine J_iload 45 dX6_act_45 rfl ?_
  refine p_811 (ws' := (wF [wMo o rw fr kp tr ik tp tm mso bg en wd va gd rs mu rm ss msz msh mho mhn mhz 3 nb tn tc 0 ip, wMr G rw la ns sd to he sw nh ki te mi ar z, wI G mho 4 hof, wI G mhn 4 hnf, wI G tc 30 tcf])) 47 0 rfl rfl rfl (Nat.le_of_ble_eq_true rfl) rfl dX6_act_47 ?_
  refine J_aload_n 50 0 dX6_act_50 rfl rfl ?_
  refine J_aload_n 51 0 dX6_act_51 rfl rfl ?_
  refine g_809 (v := .ref mhn) 52 0 rfl rfl dX6_act_52 ?_
  refine J_iload_n 55 1 dX6_act_55 rfl rfl ?_
  refine J_iald 56 3 s rfl rfl (by omega) (by decide) dX6_act_56 ?_
  refine J_topi (y := nI j) 57 hhn ?_
  refine p_812 (ws' := (wF [wMo o rw fr kp tr ik tp tm mso bg en wd va gd rs mu rm ss msz msh mho mhn mhz 3 (nI j) tn tc 0 ip, wMr G rw la ns sd to he sw nh ki te mi ar z, wI G mho 4 hof, wI G mhn 4 hnf, wI G tc 30 tcf])) 57 0 rfl rfl rfl (Nat.le_of_ble_eq_true rfl) rfl dX6_act_57 ?_
  refine J_aload_n 60 0 dX6_act_60 rfl rfl ?_
  refine J_aload_n 61 0 dX6_act_61 rfl rfl ?_
  refine J_aload_n 62 0 dX6_act_62 rfl rfl ?_
  refine g_812 (v := .int (nI j)) 63 0 rfl rfl dX6_act_63 ?_
  refine J_iconst (v := 1) 66 dX6_act_66 rfl ?_
  refine kb_RX6_187 (bs' := [wMo o rw fr kp tr ik tp tm mso bg en wd va gd rs mu rm ss msz msh mho mhn mhz 3 (nI j) tn tc 0 ip, wMr G rw la ns sd to he sw nh ki te mi ar z, wI G mho 4 hof, wI G mhn 4 hnf, wI G tc 30 tcf]) (rest := [.ref o]) (st' := [.int (te j), .ref o]) 67 (c_X6_its_1 l G j o rw fr kp tr ik tp tm mso bg en wd va gd rs mu rm ss msz msh mho mhn mhz 3 (nI j) tn tc 0 ip la ns sd to he sw nh ki te mi ar z (by first | omega | assumption)) [0, 1] 0 rfl rfl rfl [[o], [rw]] rfl rfl rfl rfl rfl rfl (Nat.le_of_ble_eq_true rfl) rfl dX6_act_67 ?_
  refine p_813 (ws' := (wF [wMo o rw fr kp tr ik tp tm mso bg en wd va gd rs mu rm ss msz msh mho mhn mhz 3 (nI j) (te j) tc 0 ip, wMr G rw la ns sd to he sw nh ki te mi ar z, wI G mho 4 hof, wI G mhn 4 hnf, wI G tc 30 tcf])) 70 0 rfl rfl rfl (Nat.le_of_ble_eq_true rfl) rfl dX6_act_70 ?_
  refine J_aload_n 73 0 dX6_act_73 rfl rfl ?_
  refine J_iconst (v := 0) 74 dX6_act_74 rfl ?_
  refine p_816 (ws' := (wF [wMo o rw fr kp tr ik tp tm mso bg en wd va gd rs mu rm ss msz msh mho mhn mhz 3 (nI j) (te j) tc 0 0, wMr G rw la ns sd to he sw nh ki te mi ar z, wI G mho 4 hof, wI G mhn 4 hnf, wI G tc 30 tcf])) 75 0 rfl rfl rfl (Nat.le_of_ble_eq_true rfl) rfl dX6_act_75 ?_
  refine J_iload_n 78 2 dX6_act_78 rfl rfl ?_
  refine J_if_ne (tgt := 90) 79 dX6_act_79 (by decide) (fun _ => ?_) (fun c_4_ => absurd c_4_ (by decide))
  refine J_iload_n 90 2 dX6_act_90 rfl rfl ?_
  refine J_iconst (v := 1) 91 dX6_act_91 rfl ?_
  refine J_icmp_ne (tgt := 103) 92 dX6_act_92 (by decide) (fun _ => ?_) (fun c_5_ => absurd c_5_ (by decide))
  refine J_iload_n 103 2 dX6_act_103 rfl rfl ?_
  refine J_iconst (v := 2) 104 dX6_act_104 rfl ?_
  refine J_icmp_ne (tgt := 116) 105 dX6_act_105 (by decide) (fun _ => ?_) (fun c_6_ => absurd c_6_ (by decide))
  refine J_aload_n 116 0 dX6_act_116 rfl rfl ?_
  refine J_iload_n 117 3 dX6_act_117 rfl rfl ?_
  refine kb_RX6_338 (bs' := [wMo o rw fr kp tr ik tp tm mso bg en wd va gd rs mu rm ss msz msh mho mhn mhz 3 (nI j) (te j) tc (0 + 5) 0, wMr G rw la ns sd to he sw nh ki te mi ar z, wI G mho 4 hof, wI G mhn 4 hnf, wI G tc 30 (pF [13, 20, 11, 51, 10] tcf 0)]) (rest := []) (st' := [.int (((((x * 5 + (nI j)) + (te j)) - (te j)) * 2) ^^^ 150)]) 118 (c_X6_swearsIt_3 l G x o rw fr kp tr ik tp tm mso bg en wd va gd rs mu rm ss msz msh mho mhn mhz (nI j) (te j) tc 0 tcf (by decide)) [0, 4] 0 rfl rfl rfl [[o], [tc]] rfl rfl rfl rfl rfl rfl (Nat.le_of_ble_eq_true rfl) rfl dX6_act_118 ?_
  refine J_istore (lv' := [some (.ref o), some (.int (nI s)), some (.int 3), some (.int x), some (.int 3), some (.int (((((x * 5 + (nI j)) + (te j)) - (te j)) * 2) ^^^ 150))]) 121 dX6_act_121 (by decide) rfl ?_
  refine J_aload_n 123 0 dX6_act_123 rfl rfl ?_
  refine g_816 (v := .int 0) 124 0 rfl rfl dX6_act_124 ?_
  refine J_if_eq (tgt := 135) 127 dX6_act_127 (by decide) (fun _ => ?_) (fun c_7_ => absurd c_7_ (by decide))
  refine J_iload 135 dX6_act_135 rfl ?_
  exact J_iret 137 dX6_act_137 rfl (cg1 (fun (x0_ : Nat) => (wF [wMo o rw fr kp tr ik tp tm mso bg en wd va gd rs mu rm ss msz msh mho mhn mhz 3 (nI j) (te j) tc x0_ 0, wMr G rw la ns sd to he sw nh ki te mi ar z, wI G mho 4 hof, wI G mhn 4 hnf, wI G tc 30 (pF [13, 20, 11, 51, 10] tcf 0)])) (0 + 5) 5 rfl)
set_option maxRecDepth 100000 in
set_option maxHeartbeats 4000000 in
theorem c_X6_act_4_0 (l : Launch) (G : Gd) (s : Nat) (x : Int32) (j : Nat) (o : Nat) (rw : Nat) (fr : Nat) (kp : Nat) (tr : Nat) (ik : Int32) (tp : Nat) (tm : Nat) (mso : Int32) (bg : Nat) (en : Nat) (wd : Int64) (va : Int32) (gd : Int32) (rs : Nat) (mu : Nat) (rm : Nat) (ss : Nat) (msz : Nat) (msh : Nat) (mho : Nat) (mhn : Nat) (mhz : Nat) (kd : Int32) (nb : Int32) (tn : Int32) (tc : Nat) (bo : Nat) (ip : Int32) (la : Nat → Int32) (ns : Nat) (sd : Nat) (to : Nat → Int32) (he : Nat → Int32) (sw : Nat → Int32) (nh : Nat) (ki : Nat → Int32) (te : Nat → Int32) (mi : Nat → Int32) (ar : Nat → Int32) (z : Int32) (hof : Nat → Int32) (hnf : Nat → Int32) (tcf : Nat → Int32) (hs : s ≤ 3) (hho : hof s = 0) (hhn : hnf s = nI j) (hj : j < nh) (hnh : nh ≤ 8) (hk : ki j = 4) : Ct l G yX6_act cX6_act 6 (some (FieldType.int)) 8 [.ref o, .int (nI s), .int 0, .int x] (wF [wMo o rw fr kp tr ik tp tm mso bg en wd va gd rs mu rm ss msz msh mho mhn mhz kd nb tn tc bo ip, wMr G rw la ns sd to he sw nh ki te mi ar z, wI G mho 4 hof, wI G mhn 4 hnf, wI G tc 30 tcf]) (some (.int (0 - ((x * 5 + (nI j)) - 4)))) (wF [wMo o rw fr kp tr ik tp tm mso bg en wd va gd rs mu rm ss msz msh mho mhn mhz 4 (nI j) (te j) tc 3 0, wMr G rw la ns sd to he sw nh ki te mi ar z, wI G mho 4 hof, wI G mhn 4 hnf, wI G tc 30 (pF [40, 30, 10] tcf 0)]) := by
  refine Ct.of "GooseArmsModel" [some (.ref o), some (.int (nI s)), some (.int 0), some (.int x), none, none] (by decide +kernel) rfl (Nat.le_of_ble_eq_true rfl) rfl ?_
  refine J_aload_n 0 0 dX6_act_0 rfl rfl ?_
  refine J_iconst (v := 0) 1 dX6_act_1 rfl ?_
  refine p_815 (ws' := (wF [wMo o rw fr kp tr ik tp tm mso bg en wd va gd rs mu rm ss msz msh mho mhn mhz kd nb tn tc 0 ip, wMr G rw la ns sd to he sw nh ki te mi ar z, wI G mho 4 hof, wI G mhn 4 hnf, wI G tc 30 tcf])) 2 0 rfl rfl rfl (Nat.le_of_ble_eq_true rfl) rfl dX6_act_2 ?_
  refine J_iload_n 5 1 dX6_act_5 rfl rfl ?_
  refine kb_RX6_262 (bs' := [wMo o rw fr kp tr ik tp tm mso bg en wd va gd rs mu rm ss msz msh mho mhn mhz kd nb tn tc 0 ip, wMr G rw la ns sd to he sw nh ki te mi ar z, wI G mho 4 hof, wI G mhn 4 hnf, wI G tc 30 tcf]) (rest := []) (st' := [.int 1]) 6 (c_X6_isShelf_t l G s (by first | omega | assumption)) [] rfl rfl [] rfl rfl rfl rfl rfl rfl (Nat.le_of_ble_eq_true rfl) rfl dX6_act_6 ?_
  refine J_if_eq (tgt := 20) 9 dX6_act_9 (by decide) (fun c_1_ => absurd c_1_ (by decide)) (fun _ => ?_)
  refine J_aload_n 12 0 dX6_act_12 rfl rfl ?_
  refine J_iload_n 13 1 dX6_act_13 rfl rfl ?_
  refine kb_RX6_290 (bs' := [wMo o rw fr kp tr ik tp tm mso bg en wd va gd rs mu rm ss msz msh mho mhn mhz kd nb tn tc 0 ip, wMr G rw la ns sd to he sw nh ki te mi ar z, wI G mho 4 hof, wI G mhn 4 hnf, wI G tc 30 tcf]) (rest := []) (st' := [.int (ki j)]) 14 (c_X6_kindOn_h l G s j o rw fr kp tr ik tp tm mso bg en wd va gd rs mu rm ss msz msh mho mhn mhz kd nb tn tc 0 ip la ns sd to he sw nh ki te mi ar z hof hnf (by first | omega | assumption) (by first | omega | assumption) (by first | omega | assumption) (by first | omega | assumption) (by first | omega | assumption)) [0, 1, 2, 3] 0 rfl rfl rfl [[o], [rw], [mho], [mhn]] rfl rfl rfl rfl rfl rfl (Nat.le_of_ble_eq_true rfl) rfl dX6_act_14 ?_
  refine J_topi (y := 4) 17 hk ?_
  refine J_goto (tgt := 21) 17 dX6_act_17 (by decide) ?_
  refine J_istore (lv' := [some (.ref o), some (.int (nI s)), some (.int 0), some (.int x), some (.int 4), none]) 21 dX6_act_21 (by decide) rfl ?_
  refine J_iload_n 23 2 dX6_act_23 rfl rfl ?_
  refine J_iconst (v := 0) 24 dX6_act_24 rfl ?_
  refine J_iconst (v := 3) 25 dX6_act_25 rfl ?_
  refine kb_RX6_57 (bs' := [wMo o rw fr kp tr ik tp tm mso bg en wd va gd rs mu rm ss msz msh mho mhn mhz kd nb tn tc 0 ip, wMr G rw la ns sd to he sw nh ki te mi ar z, wI G mho 4 hof, wI G mhn 4 hnf, wI G tc 30 tcf]) (rest := []) (st' := [.int 1]) 26 (c_X6_in_t l G 0 0 3 (by decide)) [] rfl rfl [] rfl rfl rfl rfl rfl rfl (Nat.le_of_ble_eq_true rfl) rfl dX6_act_26 ?_
  refine J_if_eq (tgt := 42) 29 dX6_act_29 (by decide) (fun c_2_ => absurd c_2_ (by decide)) (fun _ => ?_)
  refine J_iload 32 dX6_act_32 rfl ?_
  refine J_iconst (v := 0) 34 dX6_act_34 rfl ?_
  refine J_iconst (v := 5) 35 dX6_act_35 rfl ?_
  refine kb_RX6_57 (bs' := [wMo o rw fr kp tr ik tp tm mso bg en wd va gd rs mu rm ss msz msh mho mhn mhz kd nb tn tc 0 ip, wMr G rw la ns sd to he sw nh ki te mi ar z, wI G mho 4 hof, wI G mhn 4 hnf, wI G tc 30 tcf]) (rest := []) (st' := [.int 1]) 36 (c_X6_in_t l G 4 0 5 (by decide)) [] rfl rfl [] rfl rfl rfl rfl rfl rfl (Nat.le_of_ble_eq_true rfl) rfl dX6_act_36 ?_
  refine J_if_ne (tgt := 44) 39 dX6_act_39 (by decide) (fun _ => ?_) (fun c_3_ => absurd c_3_ (by decide))
  refine J_aload_n 44 0 dX6_act_44 rfl rfl ?_
  refine J_iload 45 dX6_act_45 rfl ?_
  refine p_811 (ws' := (wF [wMo o rw fr kp tr ik tp tm mso bg en wd va gd rs mu rm ss msz msh mho mhn mhz 4 nb tn tc 0 ip, wMr G rw la ns sd to he sw nh ki te mi ar z, wI G mho 4 hof, wI G mhn 4 hnf, wI G tc 30 tcf])) 47 0 rfl rfl rfl (Nat.le_of_ble_eq_true rfl) rfl dX6_act_47 ?_
  refine J_aload_n 50 0 dX6_act_50 rfl rfl ?_
  refine J_aload_n 51 0 dX6_act_51 rfl rfl ?_
  refine g_809 (v := .ref mhn) 52 0 rfl rfl dX6_act_52 ?_
  refine J_iload_n 55 1 dX6_act_55 rfl rfl ?_
  refine J_iald 56 3 s rfl rfl (by omega) (by decide) dX6_act_56 ?_
  refine J_topi (y := nI j) 57 hhn ?_
  refine p_812 (ws' := (wF [wMo o rw fr kp tr ik tp tm mso bg en wd va gd rs mu rm ss msz msh mho mhn mhz 4 (nI j) tn tc 0 ip, wMr G rw la ns sd to he sw nh ki te mi ar z, wI G mho 4 hof, wI G mhn 4 hnf, wI G tc 30 tcf])) 57 0 rfl rfl rfl (Nat.le_of_ble_eq_true rfl) rfl dX6_act_57 ?_
  refine J_aload_n 60 0 dX6_act_60 rfl rfl ?_
  refine J_aload_n 61 0 dX6_act_61 rfl rfl ?_
  refine J_aload_n 62 0 dX6_act_62 rfl rfl ?_
  refine g_812 (v := .int (nI j)) 63 0 rfl rfl dX6_act_63 ?_
  refine J_iconst (v := 1) 66 dX6_act_66 rfl ?_
  refine kb_RX6_187 (bs' := [wMo o rw fr kp tr ik tp tm mso bg en wd va gd rs mu rm ss msz msh mho mhn mhz 4 (nI j) tn tc 0 ip, wMr G rw la ns sd to he sw nh ki te mi ar z, wI G mho 4 hof, wI G mhn 4 hnf, wI G tc 30 tcf]) (rest := [.ref o]) (st' := [.int (te j), .ref o]) 67 (c_X6_its_1 l G j o rw fr kp tr ik tp tm mso bg en wd va gd rs mu rm ss msz msh mho mhn mhz 4 (nI j) tn tc 0 ip la ns sd to he sw nh ki te mi ar z (by first | omega | assumption)) [0, 1] 0 rfl rfl rfl [[o], [rw]] rfl rfl rfl rfl rfl rfl (Nat.le_of_ble_eq_true rfl) rfl dX6_act_67 ?_
  refine p_813 (ws' := (wF [wMo o rw fr kp tr ik tp tm mso bg en wd va gd rs mu rm ss msz msh mho mhn mhz 4 (nI j) (te j) tc 0 ip, wMr G rw la ns sd to he sw nh ki te mi ar z, wI G mho 4 hof, wI G mhn 4 hnf, wI G tc 30 tcf])) 70 0 rfl rfl rfl (Nat.le_of_ble_eq_true rfl) rfl dX6_act_70 ?_
  refine J_aload_n 73 0 dX6_act_73 rfl rfl ?_
  refine J_iconst (v := 0) 74 dX6_act_74 rfl ?_
  refine p_816 (ws' := (wF [wMo o rw fr kp tr ik tp tm mso bg en wd va gd rs mu rm ss msz msh mho mhn mhz 4 (nI j) (te j) tc 0 0, wMr G rw la ns sd to he sw nh ki te mi ar z, wI G mho 4 hof, wI G mhn 4 hnf, wI G tc 30 tcf])) 75 0 rfl rfl rfl (Nat.le_of_ble_eq_true rfl) rfl dX6_act_75 ?_
  refine J_iload_n 78 2 dX6_act_78 rfl rfl ?_
  refine J_if_ne (tgt := 90) 79 dX6_act_79 (by decide) (fun c_4_ => absurd c_4_ (by decide)) (fun _ => ?_)
  refine J_aload_n 82 0 dX6_act_82 rfl rfl ?_
  refine J_iload_n 83 3 dX6_act_83 rfl rfl ?_
  refine kb_RX6_317 (bs' := [wMo o rw fr kp tr ik tp tm mso bg en wd va gd rs mu rm ss msz msh mho mhn mhz 4 (nI j) (te j) tc (0 + 3) 0, wMr G rw la ns sd to he sw nh ki te mi ar z, wI G mho 4 hof, wI G mhn 4 hnf, wI G tc 30 (pF [40, 30, 10] tcf 0)]) (rest := []) (st' := [.int (0 - ((x * 5 + (nI j)) - 4))]) 84 (c_X6_shakesIt_4 l G x o rw fr kp tr ik tp tm mso bg en wd va gd rs mu rm ss msz msh mho mhn mhz (nI j) (te j) tc 0 tcf (by decide)) [0, 4] 0 rfl rfl rfl [[o], [tc]] rfl rfl rfl rfl rfl rfl (Nat.le_of_ble_eq_true rfl) rfl dX6_act_84 ?_
  refine J_goto (tgt := 121) 87 dX6_act_87 (by decide) ?_
  refine J_istore (lv' := [some (.ref o), some (.int (nI s)), some (.int 0), some (.int x), some (.int 4), some (.int (0 - ((x * 5 + (nI j)) - 4)))]) 121 dX6_act_121 (by decide) rfl ?_
  refine J_aload_n 123 0 dX6_act_123 rfl rfl ?_
  refine g_816 (v := .int 0) 124 0 rfl rfl dX6_act_124 ?_
  refine J_if_eq (tgt := 135) 127 dX6_act_127 (by decide) (fun _ => ?_) (fun c_5_ => absurd c_5_ (by decide))
  refine J_iload 135 dX6_act_135 rfl ?_
  exact J_iret 137 dX6_act_137 rfl (cg1 (fun (x0_ : Nat) => (wF [wMo o rw fr kp tr ik tp tm mso bg en wd va gd rs mu rm ss msz msh mho mhn mhz 4 (nI j) (te j) tc x0_ 0, wMr G rw la ns sd to he sw nh ki te mi ar z, wI G mho 4 hof, wI G mhn 4 hnf, wI G tc 30 (pF [40, 30, 10] tcf 0)])) (0 + 3) 3 rfl)
set_option maxRecDepth 100000 in
set_option maxHeartbeats 4000000 in
theorem c_X6_act_4_1 (l : Launch) (G : Gd) (s : Nat) (x : Int32) (j : Nat) (o : Nat) (rw : Nat) (fr : Nat) (kp : Nat) (tr : Nat) (ik : Int32) (tp : Nat) (tm : Nat) (mso : Int32) (bg : Nat) (en : Nat) (wd : Int64) (va : Int32) (gd : Int32) (rs : Nat) (mu : Nat) (rm : Nat) (ss : Nat) (msz : Nat) (msh : Nat) (mho : Nat) (mhn : Nat) (mhz : Nat) (kd : Int32) (nb : Int32) (tn : Int32) (tc : Nat) (bo : Nat) (ip : Int32) (la : Nat → Int32) (ns : Nat) (sd : Nat) (to : Nat → Int32) (he : Nat → Int32) (sw : Nat → Int32) (nh : Nat) (ki : Nat → Int32) (te : Nat → Int32) (mi : Nat → Int32) (ar : Nat → Int32) (z : Int32) (hof : Nat → Int32) (hnf : Nat → Int32) (tcf : Nat → Int32) (hs : s ≤ 3) (hho : hof s = 0) (hhn : hnf s = nI j) (hj : j < nh) (hnh : nh ≤ 8) (hk : ki j = 4) : Ct l G yX6_act cX6_act 6 (some (FieldType.int)) 8 [.ref o, .int (nI s), .int 1, .int x] (wF [wMo o rw fr kp tr ik tp tm mso bg en wd va gd rs mu rm ss msz msh mho mhn mhz kd nb tn tc bo ip, wMr G rw la ns sd to he sw nh ki te mi ar z, wI G mho 4 hof, wI G mhn 4 hnf, wI G tc 30 tcf]) (some (.int (((0 - ((x * 5 + (nI j)) - 4)) - (te j)) ^^^ (0 - (((te j) * 5 + (nI j)) - 4))))) (wF [wMo o rw fr kp tr ik tp tm mso bg en wd va gd rs mu rm ss msz msh mho mhn mhz 4 (nI j) (te j) tc 8 0, wMr G rw la ns sd to he sw nh ki te mi ar z, wI G mho 4 hof, wI G mhn 4 hnf, wI G tc 30 (pF [41, 11, 40, 30, 10, 40, 30, 10] tcf 0)]) := by
  refine Ct.of "GooseArmsModel" [some (.ref o), some (.int (nI s)), some (.int 1), some (.int x), none, none] (by decide +kernel) rfl (Nat.le_of_ble_eq_true rfl) rfl ?_
  refine J_aload_n 0 0 dX6_act_0 rfl rfl ?_
  refine J_iconst (v := 0) 1 dX6_act_1 rfl ?_
  refine p_815 (ws' := (wF [wMo o rw fr kp tr ik tp tm mso bg en wd va gd rs mu rm ss msz msh mho mhn mhz kd nb tn tc 0 ip, wMr G rw la ns sd to he sw nh ki te mi ar z, wI G mho 4 hof, wI G mhn 4 hnf, wI G tc 30 tcf])) 2 0 rfl rfl rfl (Nat.le_of_ble_eq_true rfl) rfl dX6_act_2 ?_
  refine J_iload_n 5 1 dX6_act_5 rfl rfl ?_
  refine kb_RX6_262 (bs' := [wMo o rw fr kp tr ik tp tm mso bg en wd va gd rs mu rm ss msz msh mho mhn mhz kd nb tn tc 0 ip, wMr G rw la ns sd to he sw nh ki te mi ar z, wI G mho 4 hof, wI G mhn 4 hnf, wI G tc 30 tcf]) (rest := []) (st' := [.int 1]) 6 (c_X6_isShelf_t l G s (by first | omega | assumption)) [] rfl rfl [] rfl rfl rfl rfl rfl rfl (Nat.le_of_ble_eq_true rfl) rfl dX6_act_6 ?_
  refine J_if_eq (tgt := 20) 9 dX6_act_9 (by decide) (fun c_1_ => absurd c_1_ (by decide)) (fun _ => ?_)
  refine J_aload_n 12 0 dX6_act_12 rfl rfl ?_
  refine J_iload_n 13 1 dX6_act_13 rfl rfl ?_
  refine kb_RX6_290 (bs' := [wMo o rw fr kp tr ik tp tm mso bg en wd va gd rs mu rm ss msz msh mho mhn mhz kd nb tn tc 0 ip, wMr G rw la ns sd to he sw nh ki te mi ar z, wI G mho 4 hof, wI G mhn 4 hnf, wI G tc 30 tcf]) (rest := []) (st' := [.int (ki j)]) 14 (c_X6_kindOn_h l G s j o rw fr kp tr ik tp tm mso bg en wd va gd rs mu rm ss msz msh mho mhn mhz kd nb tn tc 0 ip la ns sd to he sw nh ki te mi ar z hof hnf (by first | omega | assumption) (by first | omega | assumption) (by first | omega | assumption) (by first | omega | assumption) (by first | omega | assumption)) [0, 1, 2, 3] 0 rfl rfl rfl [[o], [rw], [mho], [mhn]] rfl rfl rfl rfl rfl rfl (Nat.le_of_ble_eq_true rfl) rfl dX6_act_14 ?_
  refine J_topi (y := 4) 17 hk ?_
  refine J_goto (tgt := 21) 17 dX6_act_17 (by decide) ?_
  refine J_istore (lv' := [some (.ref o), some (.int (nI s)), some (.int 1), some (.int x), some (.int 4), none]) 21 dX6_act_21 (by decide) rfl ?_
  refine J_iload_n 23 2 dX6_act_23 rfl rfl ?_
  refine J_iconst (v := 0) 24 dX6_act_24 rfl ?_
  refine J_iconst (v := 3) 25 dX6_act_25 rfl ?_
  refine kb_RX6_57 (bs' := [wMo o rw fr kp tr ik tp tm mso bg en wd va gd rs mu rm ss msz msh mho mhn mhz kd nb tn tc 0 ip, wMr G rw la ns sd to he sw nh ki te mi ar z, wI G mho 4 hof, wI G mhn 4 hnf, wI G tc 30 tcf]) (rest := []) (st' := [.int 1]) 26 (c_X6_in_t l G 1 0 3 (by decide)) [] rfl rfl [] rfl rfl rfl rfl rfl rfl (Nat.le_of_ble_eq_true rfl) rfl dX6_act_26 ?_
  refine J_if_eq (tgt := 42) 29 dX6_act_29 (by decide) (fun c_2_ => absurd c_2_ (by decide)) (fun _ => ?_)
  refine J_iload 32 dX6_act_32 rfl ?_
  refine J_iconst (v := 0) 34 dX6_act_34 rfl ?_
  refine J_iconst (v := 5) 35 dX6_act_35 rfl ?_
  refine kb_RX6_57 (bs' := [wMo o rw fr kp tr ik tp tm mso bg en wd va gd rs mu rm ss msz msh mho mhn mhz kd nb tn tc 0 ip, wMr G rw la ns sd to he sw nh ki te mi ar z, wI G mho 4 hof, wI G mhn 4 hnf, wI G tc 30 tcf]) (rest := []) (st' := [.int 1]) 36 (c_X6_in_t l G 4 0 5 (by decide)) [] rfl rfl [] rfl rfl rfl rfl rfl rfl (Nat.le_of_ble_eq_true rfl) rfl dX6_act_36 ?_
  refine J_if_ne (tgt := 44) 39 dX6_act_39 (by decide) (fun _ => ?_) (fun c_3_ => absurd c_3_ (by decide))
  refine J_aload_n 44 0 dX6_act_44 rfl rfl ?_
  refine J_iload 45 dX6_act_45 rfl ?_
  refine p_811 (ws' := (wF [wMo o rw fr kp tr ik tp tm mso bg en wd va gd rs mu rm ss msz msh mho mhn mhz 4 nb tn tc 0 ip, wMr G rw la ns sd to he sw nh ki te mi ar z, wI G mho 4 hof, wI G mhn 4 hnf, wI G tc 30 tcf])) 47 0 rfl rfl rfl (Nat.le_of_ble_eq_true rfl) rfl dX6_act_47 ?_
  refine J_aload_n 50 0 dX6_act_50 rfl rfl ?_
  refine J_aload_n 51 0 dX6_act_51 rfl rfl ?_
  refine g_809 (v := .ref mhn) 52 0 rfl rfl dX6_act_52 ?_
  refine J_iload_n 55 1 dX6_act_55 rfl rfl ?_
  refine J_iald 56 3 s rfl rfl (by omega) (by decide) dX6_act_56 ?_
  refine J_topi (y := nI j) 57 hhn ?_
  refine p_812 (ws' := (wF [wMo o rw fr kp tr ik tp tm mso bg en wd va gd rs mu rm ss msz msh mho mhn mhz 4 (nI j) tn tc 0 ip, wMr G rw la ns sd to he sw nh ki te mi ar z, wI G mho 4 hof, wI G mhn 4 hnf, wI G tc 30 tcf])) 57 0 rfl rfl rfl (Nat.le_of_ble_eq_true rfl) rfl dX6_act_57 ?_
  refine J_aload_n 60 0 dX6_act_60 rfl rfl ?_
  refine J_aload_n 61 0 dX6_act_61 rfl rfl ?_
  refine J_aload_n 62 0 dX6_act_62 rfl rfl ?_
  refine g_812 (v := .int (nI j)) 63 0 rfl rfl dX6_act_63 ?_
  refine J_iconst (v := 1) 66 dX6_act_66 rfl ?_
  refine kb_RX6_187 (bs' := [wMo o rw fr kp tr ik tp tm mso bg en wd va gd rs mu rm ss msz msh mho mhn mhz 4 (nI j) tn tc 0 ip, wMr G rw la ns sd to he sw nh ki te mi ar z, wI G mho 4 hof, wI G mhn 4 hnf, wI G tc 30 tcf]) (rest := [.ref o]) (st' := [.int (te j), .ref o]) 67 (c_X6_its_1 l G j o rw fr kp tr ik tp tm mso bg en wd va gd rs mu rm ss msz msh mho mhn mhz 4 (nI j) tn tc 0 ip la ns sd to he sw nh ki te mi ar z (by first | omega | assumption)) [0, 1] 0 rfl rfl rfl [[o], [rw]] rfl rfl rfl rfl rfl rfl (Nat.le_of_ble_eq_true rfl) rfl dX6_act_67 ?_
  refine p_813 (ws' := (wF [wMo o rw fr kp tr ik tp tm mso bg en wd va gd rs mu rm ss msz msh mho mhn mhz 4 (nI j) (te j) tc 0 ip, wMr G rw la ns sd to he sw nh ki te mi ar z, wI G mho 4 hof, wI G mhn 4 hnf, wI G tc 30 tcf])) 70 0 rfl rfl rfl (Nat.le_of_ble_eq_true rfl) rfl dX6_act_70 ?_
  refine J_aload_n 73 0 dX6_act_73 rfl rfl ?_
  refine J_iconst (v := 0) 74 dX6_act_74 rfl ?_
  refine p_816 (ws' := (wF [wMo o rw fr kp tr ik tp tm mso bg en wd va gd rs mu rm ss msz msh mho mhn mhz 4 (nI j) (te j) tc 0 0, wMr G rw la ns sd to he sw nh ki te mi ar z, wI G mho 4 hof, wI G mhn 4 hnf, wI G tc 30 tcf])) 75 0 rfl rfl rfl (Nat.le_of_ble_eq_true rfl) rfl dX6_act_75 ?_
  refine J_iload_n 78 2 dX6_act_78 rfl rfl ?_
  refine J_if_ne (tgt := 90) 79 dX6_act_79 (by decide) (fun _ => ?_) (fun c_4_ => absurd c_4_ (by decide))
  refine J_iload_n 90 2 dX6_act_90 rfl rfl ?_
  refine J_iconst (v := 1) 91 dX6_act_91 rfl ?_
  refine J_icmp_ne (tgt := 103) 92 dX6_act_92 (by decide) (fun c_5_ => absurd c_5_ (by decide)) (fun _ => ?_)
  refine J_aload_n 95 0 dX6_act_95 rfl rfl ?_
  refine J_iload_n 96 3 dX6_act_96 rfl rfl ?_
  refine kb_RX6_329 (bs' := [wMo o rw fr kp tr ik tp tm mso bg en wd va gd rs mu rm ss msz msh mho mhn mhz 4 (nI j) (te j) tc (0 + 8) 0, wMr G rw la ns sd to he sw nh ki te mi ar z, wI G mho 4 hof, wI G mhn 4 hnf, wI G tc 30 (pF [41, 11, 40, 30, 10, 40, 30, 10] tcf 0)]) (rest := []) (st' := [.int (((0 - ((x * 5 + (nI j)) - 4)) - (te j)) ^^^ (0 - (((te j) * 5 + (nI j)) - 4)))]) 97 (c_X6_readsIt_4 l G x o rw fr kp tr ik tp tm mso bg en wd va gd rs mu rm ss msz msh mho mhn mhz (nI j) (te j) tc 0 tcf (by decide)) [0, 4] 0 rfl rfl rfl [[o], [tc]] rfl rfl rfl rfl rfl rfl (Nat.le_of_ble_eq_true rfl) rfl dX6_act_97 ?_
  refine J_goto (tgt := 121) 100 dX6_act_100 (by decide) ?_
  refine J_istore (lv' := [some (.ref o), some (.int (nI s)), some (.int 1), some (.int x), some (.int 4), some (.int (((0 - ((x * 5 + (nI j)) - 4)) - (te j)) ^^^ (0 - (((te j) * 5 + (nI j)) - 4))))]) 121 dX6_act_121 (by decide) rfl ?_
  refine J_aload_n 123 0 dX6_act_123 rfl rfl ?_
  refine g_816 (v := .int 0) 124 0 rfl rfl dX6_act_124 ?_
  refine J_if_eq (tgt := 135) 127 dX6_act_127 (by decide) (fun _ => ?_) (fun c_6_ => absurd c_6_ (by decide))
  refine J_iload 135 dX6_act_135 rfl ?_
  exact J_iret 137 dX6_act_137 rfl (cg1 (fun (x0_ : Nat) => (wF [wMo o rw fr kp tr ik tp tm mso bg en wd va gd rs mu rm ss msz msh mho mhn mhz 4 (nI j) (te j) tc x0_ 0, wMr G rw la ns sd to he sw nh ki te mi ar z, wI G mho 4 hof, wI G mhn 4 hnf, wI G tc 30 (pF [41, 11, 40, 30, 10, 40, 30, 10] tcf 0)])) (0 + 8) 8 rfl)
set_option maxRecDepth 100000 in
set_option maxHeartbeats 4000000 in
theorem c_X6_act_4_2 (l : Launch) (G : Gd) (s : Nat) (x : Int32) (j : Nat) (o : Nat) (rw : Nat) (fr : Nat) (kp : Nat) (tr : Nat) (ik : Int32) (tp : Nat) (tm : Nat) (mso : Int32) (bg : Nat) (en : Nat) (wd : Int64) (va : Int32) (gd : Int32) (rs : Nat) (mu : Nat) (rm : Nat) (ss : Nat) (msz : Nat) (msh : Nat) (mho : Nat) (mhn : Nat) (mhz : Nat) (kd : Int32) (nb : Int32) (tn : Int32) (tc : Nat) (bo : Nat) (ip : Int32) (la : Nat → Int32) (ns : Nat) (sd : Nat) (to : Nat → Int32) (he : Nat → Int32) (sw : Nat → Int32) (nh : Nat) (ki : Nat → Int32) (te : Nat → Int32) (mi : Nat → Int32) (ar : Nat → Int32) (z : Int32) (hof : Nat → Int32) (hnf : Nat → Int32) (tcf : Nat → Int32) (hs : s ≤ 3) (hho : hof s = 0) (hhn : hnf s = nI j) (hj : j < nh) (hnh : nh ≤ 8) (hk : ki j = 4) (hz : ¬ te j = nI j) : Ct l G yX6_act cX6_act 6 (some (FieldType.int)) 8 [.ref o, .int (nI s), .int 2, .int x] (wF [wMo o rw fr kp tr ik tp tm mso bg en wd va gd rs mu rm ss msz msh mho mhn mhz kd nb tn tc bo ip, wMr G rw la ns sd to he sw nh ki te mi ar z, wI G mho 4 hof, wI G mhn 4 hnf, wI G tc 30 tcf]) (some (.int (x / ((te j) - (nI j))))) (wF [wMo o rw fr kp tr ik tp tm mso bg en wd va gd rs mu rm ss msz msh mho mhn mhz 4 (nI j) (te j) tc 1 0, wMr G rw la ns sd to he sw nh ki te mi ar z, wI G mho 4 hof, wI G mhn 4 hnf, wI G tc 30 (pF [12] tcf 0)]) := by
  refine Ct.of "GooseArmsModel" [some (.ref o), some (.int (nI s)), some (.int 2), some (.int x), none, none] (by decide +kernel) rfl (Nat.le_of_ble_eq_true rfl) rfl ?_
  refine J_aload_n 0 0 dX6_act_0 rfl rfl ?_
  refine J_iconst (v := 0) 1 dX6_act_1 rfl ?_
  refine p_815 (ws' := (wF [wMo o rw fr kp tr ik tp tm mso bg en wd va gd rs mu rm ss msz msh mho mhn mhz kd nb tn tc 0 ip, wMr G rw la ns sd to he sw nh ki te mi ar z, wI G mho 4 hof, wI G mhn 4 hnf, wI G tc 30 tcf])) 2 0 rfl rfl rfl (Nat.le_of_ble_eq_true rfl) rfl dX6_act_2 ?_
  refine J_iload_n 5 1 dX6_act_5 rfl rfl ?_
  refine kb_RX6_262 (bs' := [wMo o rw fr kp tr ik tp tm mso bg en wd va gd rs mu rm ss msz msh mho mhn mhz kd nb tn tc 0 ip, wMr G rw la ns sd to he sw nh ki te mi ar z, wI G mho 4 hof, wI G mhn 4 hnf, wI G tc 30 tcf]) (rest := []) (st' := [.int 1]) 6 (c_X6_isShelf_t l G s (by first | omega | assumption)) [] rfl rfl [] rfl rfl rfl rfl rfl rfl (Nat.le_of_ble_eq_true rfl) rfl dX6_act_6 ?_
  refine J_if_eq (tgt := 20) 9 dX6_act_9 (by decide) (fun c_1_ => absurd c_1_ (by decide)) (fun _ => ?_)
  refine J_aload_n 12 0 dX6_act_12 rfl rfl ?_
  refine J_iload_n 13 1 dX6_act_13 rfl rfl ?_
  refine kb_RX6_290 (bs' := [wMo o rw fr kp tr ik tp tm mso bg en wd va gd rs mu rm ss msz msh mho mhn mhz kd nb tn tc 0 ip, wMr G rw la ns sd to he sw nh ki te mi ar z, wI G mho 4 hof, wI G mhn 4 hnf, wI G tc 30 tcf]) (rest := []) (st' := [.int (ki j)]) 14 (c_X6_kindOn_h l G s j o rw fr kp tr ik tp tm mso bg en wd va gd rs mu rm ss msz msh mho mhn mhz kd nb tn tc 0 ip la ns sd to he sw nh ki te mi ar z hof hnf (by first | omega | assumption) (by first | omega | assumption) (by first | omega | assumption) (by first | omega | assumption) (by first | omega | assumption)) [0, 1, 2, 3] 0 rfl rfl rfl [[o], [rw], [mho], [mhn]] rfl rfl rfl rfl rfl rfl (Nat.le_of_ble_eq_true rfl) rfl dX6_act_14 ?_
  refine J_topi (y := 4) 17 hk ?_
  refine J_goto (tgt := 21) 17 dX6_act_17 (by decide) ?_
  refine J_istore (lv' := [some (.ref o), some (.int (nI s)), some (.int 2), some (.int x), some (.int 4), none]) 21 dX6_act_21 (by decide) rfl ?_
  refine J_iload_n 23 2 dX6_act_23 rfl rfl ?_
  refine J_iconst (v := 0) 24 dX6_act_24 rfl ?_
  refine J_iconst (v := 3) 25 dX6_act_25 rfl ?_
  refine kb_RX6_57 (bs' := [wMo o rw fr kp tr ik tp tm mso bg en wd va gd rs mu rm ss msz msh mho mhn mhz kd nb tn tc 0 ip, wMr G rw la ns sd to he sw nh ki te mi ar z, wI G mho 4 hof, wI G mhn 4 hnf, wI G tc 30 tcf]) (rest := []) (st' := [.int 1]) 26 (c_X6_in_t l G 2 0 3 (by decide)) [] rfl rfl [] rfl rfl rfl rfl rfl rfl (Nat.le_of_ble_eq_true rfl) rfl dX6_act_26 ?_
  refine J_if_eq (tgt := 42) 29 dX6_act_29 (by decide) (fun c_2_ => absurd c_2_ (by decide)) (fun _ => ?_)
  refine J_iload 32 dX6_act_32 rfl ?_
  refine J_iconst (v := 0) 34 dX6_act_34 rfl ?_
  refine J_iconst (v := 5) 35 dX6_act_35 rfl ?_
  refine kb_RX6_57 (bs' := [wMo o rw fr kp tr ik tp tm mso bg en wd va gd rs mu rm ss msz msh mho mhn mhz kd nb tn tc 0 ip, wMr G rw la ns sd to he sw nh ki te mi ar z, wI G mho 4 hof, wI G mhn 4 hnf, wI G tc 30 tcf]) (rest := []) (st' := [.int 1]) 36 (c_X6_in_t l G 4 0 5 (by decide)) [] rfl rfl [] rfl rfl rfl rfl rfl rfl (Nat.le_of_ble_eq_true rfl) rfl dX6_act_36 ?_
  refine J_if_ne (tgt := 44) 39 dX6_act_39 (by decide) (fun _ => ?_) (fun c_3_ => absurd c_3_ (by decide))
  refine J_aload_n 44 0 dX6_act_44 rfl rfl ?_
  refine J_iload 45 dX6_act_45 rfl ?_
  refine p_811 (ws' := (wF [wMo o rw fr kp tr ik tp tm mso bg en wd va gd rs mu rm ss msz msh mho mhn mhz 4 nb tn tc 0 ip, wMr G rw la ns sd to he sw nh ki te mi ar z, wI G mho 4 hof, wI G mhn 4 hnf, wI G tc 30 tcf])) 47 0 rfl rfl rfl (Nat.le_of_ble_eq_true rfl) rfl dX6_act_47 ?_
  refine J_aload_n 50 0 dX6_act_50 rfl rfl ?_
  refine J_aload_n 51 0 dX6_act_51 rfl rfl ?_
  refine g_809 (v := .ref mhn) 52 0 rfl rfl dX6_act_52 ?_
  refine J_iload_n 55 1 dX6_act_55 rfl rfl ?_
  refine J_iald 56 3 s rfl rfl (by omega) (by decide) dX6_act_56 ?_
  refine J_topi (y := nI j) 57 hhn ?_
  refine p_812 (ws' := (wF [wMo o rw fr kp tr ik tp tm mso bg en wd va gd rs mu rm ss msz msh mho mhn mhz 4 (nI j) tn tc 0 ip, wMr G rw la ns sd to he sw nh ki te mi ar z, wI G mho 4 hof, wI G mhn 4 hnf, wI G tc 30 tcf])) 57 0 rfl rfl rfl (Nat.le_of_ble_eq_true rfl) rfl dX6_act_57 ?_
  refine J_aload_n 60 0 dX6_act_60 rfl rfl ?_
  refine J_aload_n 61 0 dX6_act_61 rfl rfl ?_
  refine J_aload_n 62 0 dX6_act_62 rfl rfl ?_
  refine g_812 (v := .int (nI j)) 63 0 rfl rfl dX6_act_63 ?_
  refine J_iconst (v := 1) 66 dX6_act_66 rfl ?_
  refine kb_RX6_187 (bs' := [wMo o rw fr kp tr ik tp tm mso bg en wd va gd rs mu rm ss msz msh mho mhn mhz 4 (nI j) tn tc 0 ip, wMr G rw la ns sd to he sw nh ki te mi ar z, wI G mho 4 hof, wI G mhn 4 hnf, wI G tc 30 tcf]) (rest := [.ref o]) (st' := [.int (te j), .ref o]) 67 (c_X6_its_1 l G j o rw fr kp tr ik tp tm mso bg en wd va gd rs mu rm ss msz msh mho mhn mhz 4 (nI j) tn tc 0 ip la ns sd to he sw nh ki te mi ar z (by first | omega | assumption)) [0, 1] 0 rfl rfl rfl [[o], [rw]] rfl rfl rfl rfl rfl rfl (Nat.le_of_ble_eq_true rfl) rfl dX6_act_67 ?_
  refine p_813 (ws' := (wF [wMo o rw fr kp tr ik tp tm mso bg en wd va gd rs mu rm ss msz msh mho mhn mhz 4 (nI j) (te j) tc 0 ip, wMr G rw la ns sd to he sw nh ki te mi ar z, wI G mho 4 hof, wI G mhn 4 hnf, wI G tc 30 tcf])) 70 0 rfl rfl rfl (Nat.le_of_ble_eq_true rfl) rfl dX6_act_70 ?_
  refine J_aload_n 73 0 dX6_act_73 rfl rfl ?_
  refine J_iconst (v := 0) 74 dX6_act_74 rfl ?_
  refine p_816 (ws' := (wF [wMo o rw fr kp tr ik tp tm mso bg en wd va gd rs mu rm ss msz msh mho mhn mhz 4 (nI j) (te j) tc 0 0, wMr G rw la ns sd to he sw nh ki te mi ar z, wI G mho 4 hof, wI G mhn 4 hnf, wI G tc 30 tcf])) 75 0 rfl rfl rfl (Nat.le_of_ble_eq_true rfl) rfl dX6_act_75 ?_
  refine J_iload_n 78 2 dX6_act_78 rfl rfl ?_
  refine J_if_ne (tgt := 90) 79 dX6_act_79 (by decide) (fun _ => ?_) (fun c_4_ => absurd c_4_ (by decide))
  refine J_iload_n 90 2 dX6_act_90 rfl rfl ?_
  refine J_iconst (v := 1) 91 dX6_act_91 rfl ?_
  refine J_icmp_ne (tgt := 103) 92 dX6_act_92 (by decide) (fun _ => ?_) (fun c_5_ => absurd c_5_ (by decide))
  refine J_iload_n 103 2 dX6_act_103 rfl rfl ?_
  refine J_iconst (v := 2) 104 dX6_act_104 rfl ?_
  refine J_icmp_ne (tgt := 116) 105 dX6_act_105 (by decide) (fun c_6_ => absurd c_6_ (by decide)) (fun _ => ?_)
  refine J_aload_n 108 0 dX6_act_108 rfl rfl ?_
  refine J_iload_n 109 3 dX6_act_109 rfl rfl ?_
  refine kb_RX6_335 (bs' := [wMo o rw fr kp tr ik tp tm mso bg en wd va gd rs mu rm ss msz msh mho mhn mhz 4 (nI j) (te j) tc (0 + 1) 0, wMr G rw la ns sd to he sw nh ki te mi ar z, wI G mho 4 hof, wI G mhn 4 hnf, wI G tc 30 (pF [12] tcf 0)]) (rest := []) (st' := [.int (x / ((te j) - (nI j)))]) 110 (c_X6_partsIt_4 l G x o rw fr kp tr ik tp tm mso bg en wd va gd rs mu rm ss msz msh mho mhn mhz (nI j) (te j) tc 0 tcf (by decide) hz) [0, 4] 0 rfl rfl rfl [[o], [tc]] rfl rfl rfl rfl rfl rfl (Nat.le_of_ble_eq_true rfl) rfl dX6_act_110 ?_
  refine J_goto (tgt := 121) 113 dX6_act_113 (by decide) ?_
  refine J_istore (lv' := [some (.ref o), some (.int (nI s)), some (.int 2), some (.int x), some (.int 4), some (.int (x / ((te j) - (nI j))))]) 121 dX6_act_121 (by decide) rfl ?_
  refine J_aload_n 123 0 dX6_act_123 rfl rfl ?_
  refine g_816 (v := .int 0) 124 0 rfl rfl dX6_act_124 ?_
  refine J_if_eq (tgt := 135) 127 dX6_act_127 (by decide) (fun _ => ?_) (fun c_7_ => absurd c_7_ (by decide))
  refine J_iload 135 dX6_act_135 rfl ?_
  exact J_iret 137 dX6_act_137 rfl (cg1 (fun (x0_ : Nat) => (wF [wMo o rw fr kp tr ik tp tm mso bg en wd va gd rs mu rm ss msz msh mho mhn mhz 4 (nI j) (te j) tc x0_ 0, wMr G rw la ns sd to he sw nh ki te mi ar z, wI G mho 4 hof, wI G mhn 4 hnf, wI G tc 30 (pF [12] tcf 0)])) (0 + 1) 1 rfl)
set_option maxRecDepth 100000 in
set_option maxHeartbeats 4000000 in
theorem c_X6_act_4_2z (l : Launch) (G : Gd) (s : Nat) (x : Int32) (j : Nat) (o : Nat) (rw : Nat) (fr : Nat) (kp : Nat) (tr : Nat) (ik : Int32) (tp : Nat) (tm : Nat) (mso : Int32) (bg : Nat) (en : Nat) (wd : Int64) (va : Int32) (gd : Int32) (rs : Nat) (mu : Nat) (rm : Nat) (ss : Nat) (msz : Nat) (msh : Nat) (mho : Nat) (mhn : Nat) (mhz : Nat) (kd : Int32) (nb : Int32) (tn : Int32) (tc : Nat) (bo : Nat) (ip : Int32) (la : Nat → Int32) (ns : Nat) (sd : Nat) (to : Nat → Int32) (he : Nat → Int32) (sw : Nat → Int32) (nh : Nat) (ki : Nat → Int32) (te : Nat → Int32) (mi : Nat → Int32) (ar : Nat → Int32) (z : Int32) (hof : Nat → Int32) (hnf : Nat → Int32) (tcf : Nat → Int32) (hs : s ≤ 3) (hho : hof s = 0) (hhn : hnf s = nI j) (hj : j < nh) (hnh : nh ≤ 8) (hk : ki j = 4) (hz : te j = nI j) : Ct l G yX6_act cX6_act 6 (some (FieldType.int)) 8 [.ref o, .int (nI s), .int 2, .int x] (wF [wMo o rw fr kp tr ik tp tm mso bg en wd va gd rs mu rm ss msz msh mho mhn mhz kd nb tn tc bo ip, wMr G rw la ns sd to he sw nh ki te mi ar z, wI G mho 4 hof, wI G mhn 4 hnf, wI G tc 30 tcf]) (some (.int (-15))) (wF [wMo o rw fr kp tr ik tp tm mso bg en wd va gd rs mu rm ss msz msh mho mhn mhz 4 (nI j) (te j) tc 1 1, wMr G rw la ns sd to he sw nh ki te mi ar z, wI G mho 4 hof, wI G mhn 4 hnf, wI G tc 30 (pF [12] tcf 0)]) := by
  refine Ct.of "GooseArmsModel" [some (.ref o), some (.int (nI s)), some (.int 2), some (.int x), none, none] (by decide +kernel) rfl (Nat.le_of_ble_eq_true rfl) rfl ?_
  refine J_aload_n 0 0 dX6_act_0 rfl rfl ?_
  refine J_iconst (v := 0) 1 dX6_act_1 rfl ?_
  refine p_815 (ws' := (wF [wMo o rw fr kp tr ik tp tm mso bg en wd va gd rs mu rm ss msz msh mho mhn mhz kd nb tn tc 0 ip, wMr G rw la ns sd to he sw nh ki te mi ar z, wI G mho 4 hof, wI G mhn 4 hnf, wI G tc 30 tcf])) 2 0 rfl rfl rfl (Nat.le_of_ble_eq_true rfl) rfl dX6_act_2 ?_
  refine J_iload_n 5 1 dX6_act_5 rfl rfl ?_
  refine kb_RX6_262 (bs' := [wMo o rw fr kp tr ik tp tm mso bg en wd va gd rs mu rm ss msz msh mho mhn mhz kd nb tn tc 0 ip, wMr G rw la ns sd to he sw nh ki te mi ar z, wI G mho 4 hof, wI G mhn 4 hnf, wI G tc 30 tcf]) (rest := []) (st' := [.int 1]) 6 (c_X6_isShelf_t l G s (by first | omega | assumption)) [] rfl rfl [] rfl rfl rfl rfl rfl rfl (Nat.le_of_ble_eq_true rfl) rfl dX6_act_6 ?_
  refine J_if_eq (tgt := 20) 9 dX6_act_9 (by decide) (fun c_1_ => absurd c_1_ (by decide)) (fun _ => ?_)
  refine J_aload_n 12 0 dX6_act_12 rfl rfl ?_
  refine J_iload_n 13 1 dX6_act_13 rfl rfl ?_
  refine kb_RX6_290 (bs' := [wMo o rw fr kp tr ik tp tm mso bg en wd va gd rs mu rm ss msz msh mho mhn mhz kd nb tn tc 0 ip, wMr G rw la ns sd to he sw nh ki te mi ar z, wI G mho 4 hof, wI G mhn 4 hnf, wI G tc 30 tcf]) (rest := []) (st' := [.int (ki j)]) 14 (c_X6_kindOn_h l G s j o rw fr kp tr ik tp tm mso bg en wd va gd rs mu rm ss msz msh mho mhn mhz kd nb tn tc 0 ip la ns sd to he sw nh ki te mi ar z hof hnf (by first | omega | assumption) (by first | omega | assumption) (by first | omega | assumption) (by first | omega | assumption) (by first | omega | assumption)) [0, 1, 2, 3] 0 rfl rfl rfl [[o], [rw], [mho], [mhn]] rfl rfl rfl rfl rfl rfl (Nat.le_of_ble_eq_true rfl) rfl dX6_act_14 ?_
  refine J_topi (y := 4) 17 hk ?_
  refine J_goto (tgt := 21) 17 dX6_act_17 (by decide) ?_
  refine J_istore (lv' := [some (.ref o), some (.int (nI s)), some (.int 2), some (.int x), some (.int 4), none]) 21 dX6_act_21 (by decide) rfl ?_
  refine J_iload_n 23 2 dX6_act_23 rfl rfl ?_
  refine J_iconst (v := 0) 24 dX6_act_24 rfl ?_
  refine J_iconst (v := 3) 25 dX6_act_25 rfl ?_
  refine kb_RX6_57 (bs' := [wMo o rw fr kp tr ik tp tm mso bg en wd va gd rs mu rm ss msz msh mho mhn mhz kd nb tn tc 0 ip, wMr G rw la ns sd to he sw nh ki te mi ar z, wI G mho 4 hof, wI G mhn 4 hnf, wI G tc 30 tcf]) (rest := []) (st' := [.int 1]) 26 (c_X6_in_t l G 2 0 3 (by decide)) [] rfl rfl [] rfl rfl rfl rfl rfl rfl (Nat.le_of_ble_eq_true rfl) rfl dX6_act_26 ?_
  refine J_if_eq (tgt := 42) 29 dX6_act_29 (by decide) (fun c_2_ => absurd c_2_ (by decide)) (fun _ => ?_)
  refine J_iload 32 dX6_act_32 rfl ?_
  refine J_iconst (v := 0) 34 dX6_act_34 rfl ?_
  refine J_iconst (v := 5) 35 dX6_act_35 rfl ?_
  refine kb_RX6_57 (bs' := [wMo o rw fr kp tr ik tp tm mso bg en wd va gd rs mu rm ss msz msh mho mhn mhz kd nb tn tc 0 ip, wMr G rw la ns sd to he sw nh ki te mi ar z, wI G mho 4 hof, wI G mhn 4 hnf, wI G tc 30 tcf]) (rest := []) (st' := [.int 1]) 36 (c_X6_in_t l G 4 0 5 (by decide)) [] rfl rfl [] rfl rfl rfl rfl rfl rfl (Nat.le_of_ble_eq_true rfl) rfl dX6_act_36 ?_
  refine J_if_ne (tgt := 44) 39 dX6_act_39 (by decide) (fun _ => ?_) (fun c_3_ => absurd c_3_ (by decide))
  refine J_aload_n 44 0 dX6_act_44 rfl rfl ?_
  refine J_iload 45 dX6_act_45 rfl ?_
  refine p_811 (ws' := (wF [wMo o rw fr kp tr ik tp tm mso bg en wd va gd rs mu rm ss msz msh mho mhn mhz 4 nb tn tc 0 ip, wMr G rw la ns sd to he sw nh ki te mi ar z, wI G mho 4 hof, wI G mhn 4 hnf, wI G tc 30 tcf])) 47 0 rfl rfl rfl (Nat.le_of_ble_eq_true rfl) rfl dX6_act_47 ?_
  refine J_aload_n 50 0 dX6_act_50 rfl rfl ?_
  refine J_aload_n 51 0 dX6_act_51 rfl rfl ?_
  refine g_809 (v := .ref mhn) 52 0 rfl rfl dX6_act_52 ?_
  refine J_iload_n 55 1 dX6_act_55 rfl rfl ?_
  refine J_iald 56 3 s rfl rfl (by omega) (by decide) dX6_act_56 ?_
  refine J_topi (y := nI j) 57 hhn ?_
  refine p_812 (ws' := (wF [wMo o rw fr kp tr ik tp tm mso bg en wd va gd rs mu rm ss msz msh mho mhn mhz 4 (nI j) tn tc 0 ip, wMr G rw la ns sd to he sw nh ki te mi ar z, wI G mho 4 hof, wI G mhn 4 hnf, wI G tc 30 tcf])) 57 0 rfl rfl rfl (Nat.le_of_ble_eq_true rfl) rfl dX6_act_57 ?_
  refine J_aload_n 60 0 dX6_act_60 rfl rfl ?_
  refine J_aload_n 61 0 dX6_act_61 rfl rfl ?_
  refine J_aload_n 62 0 dX6_act_62 rfl rfl ?_
  refine g_812 (v := .int (nI j)) 63 0 rfl rfl dX6_act_63 ?_
  refine J_iconst (v := 1) 66 dX6_act_66 rfl ?_
  refine kb_RX6_187 (bs' := [wMo o rw fr kp tr ik tp tm mso bg en wd va gd rs mu rm ss msz msh mho mhn mhz 4 (nI j) tn tc 0 ip, wMr G rw la ns sd to he sw nh ki te mi ar z, wI G mho 4 hof, wI G mhn 4 hnf, wI G tc 30 tcf]) (rest := [.ref o]) (st' := [.int (te j), .ref o]) 67 (c_X6_its_1 l G j o rw fr kp tr ik tp tm mso bg en wd va gd rs mu rm ss msz msh mho mhn mhz 4 (nI j) tn tc 0 ip la ns sd to he sw nh ki te mi ar z (by first | omega | assumption)) [0, 1] 0 rfl rfl rfl [[o], [rw]] rfl rfl rfl rfl rfl rfl (Nat.le_of_ble_eq_true rfl) rfl dX6_act_67 ?_
  refine p_813 (ws' := (wF [wMo o rw fr kp tr ik tp tm mso bg en wd va gd rs mu rm ss msz msh mho mhn mhz 4 (nI j) (te j) tc 0 ip, wMr G rw la ns sd to he sw nh ki te mi ar z, wI G mho 4 hof, wI G mhn 4 hnf, wI G tc 30 tcf])) 70 0 rfl rfl rfl (Nat.le_of_ble_eq_true rfl) rfl dX6_act_70 ?_
  refine J_aload_n 73 0 dX6_act_73 rfl rfl ?_
  refine J_iconst (v := 0) 74 dX6_act_74 rfl ?_
  refine p_816 (ws' := (wF [wMo o rw fr kp tr ik tp tm mso bg en wd va gd rs mu rm ss msz msh mho mhn mhz 4 (nI j) (te j) tc 0 0, wMr G rw la ns sd to he sw nh ki te mi ar z, wI G mho 4 hof, wI G mhn 4 hnf, wI G tc 30 tcf])) 75 0 rfl rfl rfl (Nat.le_of_ble_eq_true rfl) rfl dX6_act_75 ?_
  refine J_iload_n 78 2 dX6_act_78 rfl rfl ?_
  refine J_if_ne (tgt := 90) 79 dX6_act_79 (by decide) (fun _ => ?_) (fun c_4_ => absurd c_4_ (by decide))
  refine J_iload_n 90 2 dX6_act_90 rfl rfl ?_
  refine J_iconst (v := 1) 91 dX6_act_91 rfl ?_
  refine J_icmp_ne (tgt := 103) 92 dX6_act_92 (by decide) (fun _ => ?_) (fun c_5_ => absurd c_5_ (by decide))
  refine J_iload_n 103 2 dX6_act_103 rfl rfl ?_
  refine J_iconst (v := 2) 104 dX6_act_104 rfl ?_
  refine J_icmp_ne (tgt := 116) 105 dX6_act_105 (by decide) (fun c_6_ => absurd c_6_ (by decide)) (fun _ => ?_)
  refine J_aload_n 108 0 dX6_act_108 rfl rfl ?_
  refine J_iload_n 109 3 dX6_act_109 rfl rfl ?_
  refine kb_RX6_335 (bs' := [wMo o rw fr kp tr ik tp tm mso bg en wd va gd rs mu rm ss msz msh mho mhn mhz 4 (nI j) (te j) tc (0 + 1) 1, wMr G rw la ns sd to he sw nh ki te mi ar z, wI G mho 4 hof, wI G mhn 4 hnf, wI G tc 30 (pF [12] tcf 0)]) (rest := []) (st' := [.int 0]) 110 (c_X6_partsIt_4z l G x o rw fr kp tr ik tp tm mso bg en wd va gd rs mu rm ss msz msh mho mhn mhz (nI j) (te j) tc 0 tcf (by decide) hz) [0, 4] 0 rfl rfl rfl [[o], [tc]] rfl rfl rfl rfl rfl rfl (Nat.le_of_ble_eq_true rfl) rfl dX6_act_110 ?_
  refine J_goto (tgt := 121) 113 dX6_act_113 (by decide) ?_
  refine J_istore (lv' := [some (.ref o), some (.int (nI s)), some (.int 2), some (.int x), some (.int 4), some (.int 0)]) 121 dX6_act_121 (by decide) rfl ?_
  refine J_aload_n 123 0 dX6_act_123 rfl rfl ?_
  refine g_816 (v := .int 1) 124 0 rfl rfl dX6_act_124 ?_
  refine J_if_eq (tgt := 135) 127 dX6_act_127 (by decide) (fun c_7_ => absurd c_7_ (by decide)) (fun _ => ?_)
  refine J_bipush (v := (-15)) 130 dX6_act_130 rfl ?_
  refine J_goto (tgt := 137) 132 dX6_act_132 (by decide) ?_
  exact J_iret 137 dX6_act_137 rfl (cg1 (fun (x0_ : Nat) => (wF [wMo o rw fr kp tr ik tp tm mso bg en wd va gd rs mu rm ss msz msh mho mhn mhz 4 (nI j) (te j) tc x0_ 1, wMr G rw la ns sd to he sw nh ki te mi ar z, wI G mho 4 hof, wI G mhn 4 hnf, wI G tc 30 (pF [12] tcf 0)])) (0 + 1) 1 rfl)
set_option maxRecDepth 100000 in
set_option maxHeartbeats 4000000 in
theorem c_X6_act_4_3 (l : Launch) (G : Gd) (s : Nat) (x : Int32) (j : Nat) (o : Nat) (rw : Nat) (fr : Nat) (kp : Nat) (tr : Nat) (ik : Int32) (tp : Nat) (tm : Nat) (mso : Int32) (bg : Nat) (en : Nat) (wd : Int64) (va : Int32) (gd : Int32) (rs : Nat) (mu : Nat) (rm : Nat) (ss : Nat) (msz : Nat) (msh : Nat) (mho : Nat) (mhn : Nat) (mhz : Nat) (kd : Int32) (nb : Int32) (tn : Int32) (tc : Nat) (bo : Nat) (ip : Int32) (la : Nat → Int32) (ns : Nat) (sd : Nat) (to : Nat → Int32) (he : Nat → Int32) (sw : Nat → Int32) (nh : Nat) (ki : Nat → Int32) (te : Nat → Int32) (mi : Nat → Int32) (ar : Nat → Int32) (z : Int32) (hof : Nat → Int32) (hnf : Nat → Int32) (tcf : Nat → Int32) (hs : s ≤ 3) (hho : hof s = 0) (hhn : hnf s = nI j) (hj : j < nh) (hnh : nh ≤ 8) (hk : ki j = 4) (hz : ¬ te j = nI j) : Ct l G yX6_act cX6_act 6 (some (FieldType.int)) 8 [.ref o, .int (nI s), .int 3, .int x] (wF [wMo o rw fr kp tr ik tp tm mso bg en wd va gd rs mu rm ss msz msh mho mhn mhz kd nb tn tc bo ip, wMr G rw la ns sd to he sw nh ki te mi ar z, wI G mho 4 hof, wI G mhn 4 hnf, wI G tc 30 tcf]) (some (.int (((((0 - ((x * 5 + (nI j)) - 4)) - (te j)) ^^^ (0 - (((te j) * 5 + (nI j)) - 4))) ^^^ 150) + ((nI j) / ((te j) - (nI j)))))) (wF [wMo o rw fr kp tr ik tp tm mso bg en wd va gd rs mu rm ss msz msh mho mhn mhz 4 (nI j) (te j) tc 11 0, wMr G rw la ns sd to he sw nh ki te mi ar z, wI G mho 4 hof, wI G mhn 4 hnf, wI G tc 30 (pF [31, 13, 41, 11, 40, 30, 10, 40, 30, 10, 12] tcf 0)]) := by
  refine Ct.of "GooseArmsModel" [some (.ref o), some (.int (nI s)), some (.int 3), some (.int x), none, none] (by decide +kernel) rfl (Nat.le_of_ble_eq_true rfl) rfl ?_
  refine J_aload_n 0 0 dX6_act_0 rfl rfl ?_
  refine J_iconst (v := 0) 1 dX6_act_1 rfl ?_
  refine p_815 (ws' := (wF [wMo o rw fr kp tr ik tp tm mso bg en wd va gd rs mu rm ss msz msh mho mhn mhz kd nb tn tc 0 ip, wMr G rw la ns sd to he sw nh ki te mi ar z, wI G mho 4 hof, wI G mhn 4 hnf, wI G tc 30 tcf])) 2 0 rfl rfl rfl (Nat.le_of_ble_eq_true rfl) rfl dX6_act_2 ?_
  refine J_iload_n 5 1 dX6_act_5 rfl rfl ?_
  refine kb_RX6_262 (bs' := [wMo o rw fr kp tr ik tp tm mso bg en wd va gd rs mu rm ss msz msh mho mhn mhz kd nb tn tc 0 ip, wMr G rw la ns sd to he sw nh ki te mi ar z, wI G mho 4 hof, wI G mhn 4 hnf, wI G tc 30 tcf]) (rest := []) (st' := [.int 1]) 6 (c_X6_isShelf_t l G s (by first | omega | assumption)) [] rfl rfl [] rfl rfl rfl rfl rfl rfl (Nat.le_of_ble_eq_true rfl) rfl dX6_act_6 ?_
  refine J_if_eq (tgt := 20) 9 dX6_act_9 (by decide) (fun c_1_ => absurd c_1_ (by decide)) (fun _ => ?_)
  refine J_aload_n 12 0 dX6_act_12 rfl rfl ?_
  refine J_iload_n 13 1 dX6_act_13 rfl rfl ?_
  refine kb_RX6_290 (bs' := [wMo o rw fr kp tr ik tp tm mso bg en wd va gd rs mu rm ss msz msh mho mhn mhz kd nb tn tc 0 ip, wMr G rw la ns sd to he sw nh ki te mi ar z, wI G mho 4 hof, wI G mhn 4 hnf, wI G tc 30 tcf]) (rest := []) (st' := [.int (ki j)]) 14 (c_X6_kindOn_h l G s j o rw fr kp tr ik tp tm mso bg en wd va gd rs mu rm ss msz msh mho mhn mhz kd nb tn tc 0 ip la ns sd to he sw nh ki te mi ar z hof hnf (by first | omega | assumption) (by first | omega | assumption) (by first | omega | assumption) (by first | omega | assumption) (by first | omega | assumption)) [0, 1, 2, 3] 0 rfl rfl rfl [[o], [rw], [mho], [mhn]] rfl rfl rfl rfl rfl rfl (Nat.le_of_ble_eq_true rfl) rfl dX6_act_14 ?_
  refine J_topi (y := 4) 17 hk ?_
  refine J_goto (tgt := 21) 17 dX6_act_17 (by decide) ?_
  refine J_istore (lv' := [some (.ref o), some (.int (nI s)), some (.int 3), some (.int x), some (.int 4), none]) 21 dX6_act_21 (by decide) rfl ?_
  refine J_iload_n 23 2 dX6_act_23 rfl rfl ?_
  refine J_iconst (v := 0) 24 dX6_act_24 rfl ?_
  refine J_iconst (v := 3) 25 dX6_act_25 rfl ?_
  refine kb_RX6_57 (bs' := [wMo o rw fr kp tr ik tp tm mso bg en wd va gd rs mu rm ss msz msh mho mhn mhz kd nb tn tc 0 ip, wMr G rw la ns sd to he sw nh ki te mi ar z, wI G mho 4 hof, wI G mhn 4 hnf, wI G tc 30 tcf]) (rest := []) (st' := [.int 1]) 26 (c_X6_in_t l G 3 0 3 (by decide)) [] rfl rfl [] rfl rfl rfl rfl rfl rfl (Nat.le_of_ble_eq_true rfl) rfl dX6_act_26 ?_
  refine J_if_eq (tgt := 42) 29 dX6_act_29 (by decide) (fun c_2_ => absurd c_2_ (by decide)) (fun _ => ?_)
  refine J_iload 32 dX6_act_32 rfl ?_
  refine J_iconst (v := 0) 34 dX6_act_34 rfl ?_
  refine J_iconst (v := 5) 35 dX6_act_35 rfl ?_
  refine kb_RX6_57 (bs' := [wMo o rw fr kp tr ik tp tm mso bg en wd va gd rs mu rm ss msz msh mho mhn mhz kd nb tn tc 0 ip, wMr G rw la ns sd to he sw nh ki te mi ar z, wI G mho 4 hof, wI G mhn 4 hnf, wI G tc 30 tcf]) (rest := []) (st' := [.int 1]) 36 (c_X6_in_t l G 4 0 5 (by decide)) [] rfl rfl [] rfl rfl rfl rfl rfl rfl (Nat.le_of_ble_eq_true rfl) rfl dX6_act_36 ?_
  refine J_if_ne (tgt := 44) 39 dX6_act_39 (by decide) (fun _ => ?_) (fun c_3_ => absurd c_3_ (by decide))
  refine J_aload_n 44 0 dX6_act_44 rfl rfl ?_
  refine J_iload 45 dX6_act_45 rfl ?_
  refine p_811 (ws' := (wF [wMo o rw fr kp tr ik tp tm mso bg en wd va gd rs mu rm ss msz msh mho mhn mhz 4 nb tn tc 0 ip, wMr G rw la ns sd to he sw nh ki te mi ar z, wI G mho 4 hof, wI G mhn 4 hnf, wI G tc 30 tcf])) 47 0 rfl rfl rfl (Nat.le_of_ble_eq_true rfl) rfl dX6_act_47 ?_
  refine J_aload_n 50 0 dX6_act_50 rfl rfl ?_
  refine J_aload_n 51 0 dX6_act_51 rfl rfl ?_
  refine g_809 (v := .ref mhn) 52 0 rfl rfl dX6_act_52 ?_
  refine J_iload_n 55 1 dX6_act_55 rfl rfl ?_
  refine J_iald 56 3 s rfl rfl (by omega) (by decide) dX6_act_56 ?_
  refine J_topi (y := nI j) 57 hhn ?_
  refine p_812 (ws' := (wF [wMo o rw fr kp tr ik tp tm mso bg en wd va gd rs mu rm ss msz msh mho mhn mhz 4 (nI j) tn tc 0 ip, wMr G rw la ns sd to he sw nh ki te mi ar z, wI G mho 4 hof, wI G mhn 4 hnf, wI G tc 30 tcf])) 57 0 rfl rfl rfl (Nat.le_of_ble_eq_true rfl) rfl dX6_act_57 ?_
  refine J_aload_n 60 0 dX6_act_60 rfl rfl ?_
  refine J_aload_n 61 0 dX6_act_61 rfl rfl ?_
  refine J_aload_n 62 0 dX6_act_62 rfl rfl ?_
  refine g_812 (v := .int (nI j)) 63 0 rfl rfl dX6_act_63 ?_
  refine J_iconst (v := 1) 66 dX6_act_66 rfl ?_
  refine kb_RX6_187 (bs' := [wMo o rw fr kp tr ik tp tm mso bg en wd va gd rs mu rm ss msz msh mho mhn mhz 4 (nI j) tn tc 0 ip, wMr G rw la ns sd to he sw nh ki te mi ar z, wI G mho 4 hof, wI G mhn 4 hnf, wI G tc 30 tcf]) (rest := [.ref o]) (st' := [.int (te j), .ref o]) 67 (c_X6_its_1 l G j o rw fr kp tr ik tp tm mso bg en wd va gd rs mu rm ss msz msh mho mhn mhz 4 (nI j) tn tc 0 ip la ns sd to he sw nh ki te mi ar z (by first | omega | assumption)) [0, 1] 0 rfl rfl rfl [[o], [rw]] rfl rfl rfl rfl rfl rfl (Nat.le_of_ble_eq_true rfl) rfl dX6_act_67 ?_
  refine p_813 (ws' := (wF [wMo o rw fr kp tr ik tp tm mso bg en wd va gd rs mu rm ss msz msh mho mhn mhz 4 (nI j) (te j) tc 0 ip, wMr G rw la ns sd to he sw nh ki te mi ar z, wI G mho 4 hof, wI G mhn 4 hnf, wI G tc 30 tcf])) 70 0 rfl rfl rfl (Nat.le_of_ble_eq_true rfl) rfl dX6_act_70 ?_
  refine J_aload_n 73 0 dX6_act_73 rfl rfl ?_
  refine J_iconst (v := 0) 74 dX6_act_74 rfl ?_
  refine p_816 (ws' := (wF [wMo o rw fr kp tr ik tp tm mso bg en wd va gd rs mu rm ss msz msh mho mhn mhz 4 (nI j) (te j) tc 0 0, wMr G rw la ns sd to he sw nh ki te mi ar z, wI G mho 4 hof, wI G mhn 4 hnf, wI G tc 30 tcf])) 75 0 rfl rfl rfl (Nat.le_of_ble_eq_true rfl) rfl dX6_act_75 ?_
  refine J_iload_n 78 2 dX6_act_78 rfl rfl ?_
  refine J_if_ne (tgt := 90) 79 dX6_act_79 (by decide) (fun _ => ?_) (fun c_4_ => absurd c_4_ (by decide))
  refine J_iload_n 90 2 dX6_act_90 rfl rfl ?_
  refine J_iconst (v := 1) 91 dX6_act_91 rfl ?_
  refine J_icmp_ne (tgt := 103) 92 dX6_act_92 (by decide) (fun _ => ?_) (fun c_5_ => absurd c_5_ (by decide))
  refine J_iload_n 103 2 dX6_act_103 rfl rfl ?_
  refine J_iconst (v := 2) 104 dX6_act_104 rfl ?_
  refine J_icmp_ne (tgt := 116) 105 dX6_act_105 (by decide) (fun _ => ?_) (fun c_6_ => absurd c_6_ (by decide))
  refine J_aload_n 116 0 dX6_act_116 rfl rfl ?_
  refine J_iload_n 117 3 dX6_act_117 rfl rfl ?_
  refine kb_RX6_338 (bs' := [wMo o rw fr kp tr ik tp tm mso bg en wd va gd rs mu rm ss msz msh mho mhn mhz 4 (nI j) (te j) tc (0 + 11) 0, wMr G rw la ns sd to he sw nh ki te mi ar z, wI G mho 4 hof, wI G mhn 4 hnf, wI G tc 30 (pF [31, 13, 41, 11, 40, 30, 10, 40, 30, 10, 12] tcf 0)]) (rest := []) (st' := [.int (((((0 - ((x * 5 + (nI j)) - 4)) - (te j)) ^^^ (0 - (((te j) * 5 + (nI j)) - 4))) ^^^ 150) + ((nI j) / ((te j) - (nI j))))]) 118 (c_X6_swearsIt_4 l G x o rw fr kp tr ik tp tm mso bg en wd va gd rs mu rm ss msz msh mho mhn mhz (nI j) (te j) tc 0 tcf (by decide) hz) [0, 4] 0 rfl rfl rfl [[o], [tc]] rfl rfl rfl rfl rfl rfl (Nat.le_of_ble_eq_true rfl) rfl dX6_act_118 ?_
  refine J_istore (lv' := [some (.ref o), some (.int (nI s)), some (.int 3), some (.int x), some (.int 4), some (.int (((((0 - ((x * 5 + (nI j)) - 4)) - (te j)) ^^^ (0 - (((te j) * 5 + (nI j)) - 4))) ^^^ 150) + ((nI j) / ((te j) - (nI j)))))]) 121 dX6_act_121 (by decide) rfl ?_
  refine J_aload_n 123 0 dX6_act_123 rfl rfl ?_
  refine g_816 (v := .int 0) 124 0 rfl rfl dX6_act_124 ?_
  refine J_if_eq (tgt := 135) 127 dX6_act_127 (by decide) (fun _ => ?_) (fun c_7_ => absurd c_7_ (by decide))
  refine J_iload 135 dX6_act_135 rfl ?_
  exact J_iret 137 dX6_act_137 rfl (cg1 (fun (x0_ : Nat) => (wF [wMo o rw fr kp tr ik tp tm mso bg en wd va gd rs mu rm ss msz msh mho mhn mhz 4 (nI j) (te j) tc x0_ 0, wMr G rw la ns sd to he sw nh ki te mi ar z, wI G mho 4 hof, wI G mhn 4 hnf, wI G tc 30 (pF [31, 13, 41, 11, 40, 30, 10, 40, 30, 10, 12] tcf 0)])) (0 + 11) 11 rfl)
set_option maxRecDepth 100000 in
set_option maxHeartbeats 4000000 in
theorem c_X6_act_4_3z (l : Launch) (G : Gd) (s : Nat) (x : Int32) (j : Nat) (o : Nat) (rw : Nat) (fr : Nat) (kp : Nat) (tr : Nat) (ik : Int32) (tp : Nat) (tm : Nat) (mso : Int32) (bg : Nat) (en : Nat) (wd : Int64) (va : Int32) (gd : Int32) (rs : Nat) (mu : Nat) (rm : Nat) (ss : Nat) (msz : Nat) (msh : Nat) (mho : Nat) (mhn : Nat) (mhz : Nat) (kd : Int32) (nb : Int32) (tn : Int32) (tc : Nat) (bo : Nat) (ip : Int32) (la : Nat → Int32) (ns : Nat) (sd : Nat) (to : Nat → Int32) (he : Nat → Int32) (sw : Nat → Int32) (nh : Nat) (ki : Nat → Int32) (te : Nat → Int32) (mi : Nat → Int32) (ar : Nat → Int32) (z : Int32) (hof : Nat → Int32) (hnf : Nat → Int32) (tcf : Nat → Int32) (hs : s ≤ 3) (hho : hof s = 0) (hhn : hnf s = nI j) (hj : j < nh) (hnh : nh ≤ 8) (hk : ki j = 4) (hz : te j = nI j) : Ct l G yX6_act cX6_act 6 (some (FieldType.int)) 8 [.ref o, .int (nI s), .int 3, .int x] (wF [wMo o rw fr kp tr ik tp tm mso bg en wd va gd rs mu rm ss msz msh mho mhn mhz kd nb tn tc bo ip, wMr G rw la ns sd to he sw nh ki te mi ar z, wI G mho 4 hof, wI G mhn 4 hnf, wI G tc 30 tcf]) (some (.int (-15))) (wF [wMo o rw fr kp tr ik tp tm mso bg en wd va gd rs mu rm ss msz msh mho mhn mhz 4 (nI j) (te j) tc 11 1, wMr G rw la ns sd to he sw nh ki te mi ar z, wI G mho 4 hof, wI G mhn 4 hnf, wI G tc 30 (pF [31, 13, 41, 11, 40, 30, 10, 40, 30, 10, 12] tcf 0)]) := by
  refine Ct.of "GooseArmsModel" [some (.ref o), some (.int (nI s)), some (.int 3), some (.int x), none, none] (by decide +kernel) rfl (Nat.le_of_ble_eq_true rfl) rfl ?_
  refine J_aload_n 0 0 dX6_act_0 rfl rfl ?_
  refine J_iconst (v := 0) 1 dX6_act_1 rfl ?_
  refine p_815 (ws' := (wF [wMo o rw fr kp tr ik tp tm mso bg en wd va gd rs mu rm ss msz msh mho mhn mhz kd nb tn tc 0 ip, wMr G rw la ns sd to he sw nh ki te mi ar z, wI G mho 4 hof, wI G mhn 4 hnf, wI G tc 30 tcf])) 2 0 rfl rfl rfl (Nat.le_of_ble_eq_true rfl) rfl dX6_act_2 ?_
  refine J_iload_n 5 1 dX6_act_5 rfl rfl ?_
  refine kb_RX6_262 (bs' := [wMo o rw fr kp tr ik tp tm mso bg en wd va gd rs mu rm ss msz msh mho mhn mhz kd nb tn tc 0 ip, wMr G rw la ns sd to he sw nh ki te mi ar z, wI G mho 4 hof, wI G mhn 4 hnf, wI G tc 30 tcf]) (rest := []) (st' := [.int 1]) 6 (c_X6_isShelf_t l G s (by first | omega | assumption)) [] rfl rfl [] rfl rfl rfl rfl rfl rfl (Nat.le_of_ble_eq_true rfl) rfl dX6_act_6 ?_
  refine J_if_eq (tgt := 20) 9 dX6_act_9 (by decide) (fun c_1_ => absurd c_1_ (by decide)) (fun _ => ?_)
  refine J_aload_n 12 0 dX6_act_12 rfl rfl ?_
  refine J_iload_n 13 1 dX6_act_13 rfl rfl ?_
  refine kb_RX6_290 (bs' := [wMo o rw fr kp tr ik tp tm mso bg en wd va gd rs mu rm ss msz msh mho mhn mhz kd nb tn tc 0 ip, wMr G rw la ns sd to he sw nh ki te mi ar z, wI G mho 4 hof, wI G mhn 4 hnf, wI G tc 30 tcf]) (rest := []) (st' := [.int (ki j)]) 14 (c_X6_kindOn_h l G s j o rw fr kp tr ik tp tm mso bg en wd va gd rs mu rm ss msz msh mho mhn mhz kd nb tn tc 0 ip la ns sd to he sw nh ki te mi ar z hof hnf (by first | omega | assumption) (by first | omega | assumption) (by first | omega | assumption) (by first | omega | assumption) (by first | omega | assumption)) [0, 1, 2, 3] 0 rfl rfl rfl [[o], [rw], [mho], [mhn]] rfl rfl rfl rfl rfl rfl (Nat.le_of_ble_eq_true rfl) rfl dX6_act_14 ?_
  refine J_topi (y := 4) 17 hk ?_
  refine J_goto (tgt := 21) 17 dX6_act_17 (by decide) ?_
  refine J_istore (lv' := [some (.ref o), some (.int (nI s)), some (.int 3), some (.int x), some (.int 4), none]) 21 dX6_act_21 (by decide) rfl ?_
  refine J_iload_n 23 2 dX6_act_23 rfl rfl ?_
  refine J_iconst (v := 0) 24 dX6_act_24 rfl ?_
  refine J_iconst (v := 3) 25 dX6_act_25 rfl ?_
  refine kb_RX6_57 (bs' := [wMo o rw fr kp tr ik tp tm mso bg en wd va gd rs mu rm ss msz msh mho mhn mhz kd nb tn tc 0 ip, wMr G rw la ns sd to he sw nh ki te mi ar z, wI G mho 4 hof, wI G mhn 4 hnf, wI G tc 30 tcf]) (rest := []) (st' := [.int 1]) 26 (c_X6_in_t l G 3 0 3 (by decide)) [] rfl rfl [] rfl rfl rfl rfl rfl rfl (Nat.le_of_ble_eq_true rfl) rfl dX6_act_26 ?_
  refine J_if_eq (tgt := 42) 29 dX6_act_29 (by decide) (fun c_2_ => absurd c_2_ (by decide)) (fun _ => ?_)
  refine J_iload 32 dX6_act_32 rfl ?_
  refine J_iconst (v := 0) 34 dX6_act_34 rfl ?_
  refine J_iconst (v := 5) 35 dX6_act_35 rfl ?_
  refine kb_RX6_57 (bs' := [wMo o rw fr kp tr ik tp tm mso bg en wd va gd rs mu rm ss msz msh mho mhn mhz kd nb tn tc 0 ip, wMr G rw la ns sd to he sw nh ki te mi ar z, wI G mho 4 hof, wI G mhn 4 hnf, wI G tc 30 tcf]) (rest := []) (st' := [.int 1]) 36 (c_X6_in_t l G 4 0 5 (by decide)) [] rfl rfl [] rfl rfl rfl rfl rfl rfl (Nat.le_of_ble_eq_true rfl) rfl dX6_act_36 ?_
  refine J_if_ne (tgt := 44) 39 dX6_act_39 (by decide) (fun _ => ?_) (fun c_3_ => absurd c_3_ (by decide))
  refine J_aload_n 44 0 dX6_act_44 rfl rfl ?_
  refine J_iload 45 dX6_act_45 rfl ?_
  refine p_811 (ws' := (wF [wMo o rw fr kp tr ik tp tm mso bg en wd va gd rs mu rm ss msz msh mho mhn mhz 4 nb tn tc 0 ip, wMr G rw la ns sd to he sw nh ki te mi ar z, wI G mho 4 hof, wI G mhn 4 hnf, wI G tc 30 tcf])) 47 0 rfl rfl rfl (Nat.le_of_ble_eq_true rfl) rfl dX6_act_47 ?_
  refine J_aload_n 50 0 dX6_act_50 rfl rfl ?_
  refine J_aload_n 51 0 dX6_act_51 rfl rfl ?_
  refine g_809 (v := .ref mhn) 52 0 rfl rfl dX6_act_52 ?_
  refine J_iload_n 55 1 dX6_act_55 rfl rfl ?_
  refine J_iald 56 3 s rfl rfl (by omega) (by decide) dX6_act_56 ?_
  refine J_topi (y := nI j) 57 hhn ?_
  refine p_812 (ws' := (wF [wMo o rw fr kp tr ik tp tm mso bg en wd va gd rs mu rm ss msz msh mho mhn mhz 4 (nI j) tn tc 0 ip, wMr G rw la ns sd to he sw nh ki te mi ar z, wI G mho 4 hof, wI G mhn 4 hnf, wI G tc 30 tcf])) 57 0 rfl rfl rfl (Nat.le_of_ble_eq_true rfl) rfl dX6_act_57 ?_
  refine J_aload_n 60 0 dX6_act_60 rfl rfl ?_
  refine J_aload_n 61 0 dX6_act_61 rfl rfl ?_
  refine J_aload_n 62 0 dX6_act_62 rfl rfl ?_
  refine g_812 (v := .int (nI j)) 63 0 rfl rfl dX6_act_63 ?_
  refine J_iconst (v := 1) 66 dX6_act_66 rfl ?_
  refine kb_RX6_187 (bs' := [wMo o rw fr kp tr ik tp tm mso bg en wd va gd rs mu rm ss msz msh mho mhn mhz 4 (nI j) tn tc 0 ip, wMr G rw la ns sd to he sw nh ki te mi ar z, wI G mho 4 hof, wI G mhn 4 hnf, wI G tc 30 tcf]) (rest := [.ref o]) (st' := [.int (te j), .ref o]) 67 (c_X6_its_1 l G j o rw fr kp tr ik tp tm mso bg en wd va gd rs mu rm ss msz msh mho mhn mhz 4 (nI j) tn tc 0 ip la ns sd to he sw nh ki te mi ar z (by first | omega | assumption)) [0, 1] 0 rfl rfl rfl [[o], [rw]] rfl rfl rfl rfl rfl rfl (Nat.le_of_ble_eq_true rfl) rfl dX6_act_67 ?_
  refine p_813 (ws' := (wF [wMo o rw fr kp tr ik tp tm mso bg en wd va gd rs mu rm ss msz msh mho mhn mhz 4 (nI j) (te j) tc 0 ip, wMr G rw la ns sd to he sw nh ki te mi ar z, wI G mho 4 hof, wI G mhn 4 hnf, wI G tc 30 tcf])) 70 0 rfl rfl rfl (Nat.le_of_ble_eq_true rfl) rfl dX6_act_70 ?_
  refine J_aload_n 73 0 dX6_act_73 rfl rfl ?_
  refine J_iconst (v := 0) 74 dX6_act_74 rfl ?_
  refine p_816 (ws' := (wF [wMo o rw fr kp tr ik tp tm mso bg en wd va gd rs mu rm ss msz msh mho mhn mhz 4 (nI j) (te j) tc 0 0, wMr G rw la ns sd to he sw nh ki te mi ar z, wI G mho 4 hof, wI G mhn 4 hnf, wI G tc 30 tcf])) 75 0 rfl rfl rfl (Nat.le_of_ble_eq_true rfl) rfl dX6_act_75 ?_
  refine J_iload_n 78 2 dX6_act_78 rfl rfl ?_
  refine J_if_ne (tgt := 90) 79 dX6_act_79 (by decide) (fun _ => ?_) (fun c_4_ => absurd c_4_ (by decide))
  refine J_iload_n 90 2 dX6_act_90 rfl rfl ?_
  refine J_iconst (v := 1) 91 dX6_act_91 rfl ?_
  refine J_icmp_ne (tgt := 103) 92 dX6_act_92 (by decide) (fun _ => ?_) (fun c_5_ => absurd c_5_ (by decide))
  refine J_iload_n 103 2 dX6_act_103 rfl rfl ?_
  refine J_iconst (v := 2) 104 dX6_act_104 rfl ?_
  refine J_icmp_ne (tgt := 116) 105 dX6_act_105 (by decide) (fun _ => ?_) (fun c_6_ => absurd c_6_ (by decide))
  refine J_aload_n 116 0 dX6_act_116 rfl rfl ?_
  refine J_iload_n 117 3 dX6_act_117 rfl rfl ?_
  refine kb_RX6_338 (bs' := [wMo o rw fr kp tr ik tp tm mso bg en wd va gd rs mu rm ss msz msh mho mhn mhz 4 (nI j) (te j) tc (0 + 11) 1, wMr G rw la ns sd to he sw nh ki te mi ar z, wI G mho 4 hof, wI G mhn 4 hnf, wI G tc 30 (pF [31, 13, 41, 11, 40, 30, 10, 40, 30, 10, 12] tcf 0)]) (rest := []) (st' := [.int (((((0 - ((x * 5 + (nI j)) - 4)) - (te j)) ^^^ (0 - (((te j) * 5 + (nI j)) - 4))) ^^^ 150) + 0)]) 118 (c_X6_swearsIt_4z l G x o rw fr kp tr ik tp tm mso bg en wd va gd rs mu rm ss msz msh mho mhn mhz (nI j) (te j) tc 0 tcf (by decide) hz) [0, 4] 0 rfl rfl rfl [[o], [tc]] rfl rfl rfl rfl rfl rfl (Nat.le_of_ble_eq_true rfl) rfl dX6_act_118 ?_
  refine J_istore (lv' := [some (.ref o), some (.int (nI s)), some (.int 3), some (.int x), some (.int 4), some (.int (((((0 - ((x * 5 + (nI j)) - 4)) - (te j)) ^^^ (0 - (((te j) * 5 + (nI j)) - 4))) ^^^ 150) + 0))]) 121 dX6_act_121 (by decide) rfl ?_
  refine J_aload_n 123 0 dX6_act_123 rfl rfl ?_
  refine g_816 (v := .int 1) 124 0 rfl rfl dX6_act_124 ?_
  refine J_if_eq (tgt := 135) 127 dX6_act_127 (by decide) (fun c_7_ => absurd c_7_ (by decide)) (fun _ => ?_)
  refine J_bipush (v := (-15)) 130 dX6_act_130 rfl ?_
  refine J_goto (tgt := 137) 132 dX6_act_132 (by decide) ?_
  exact J_iret 137 dX6_act_137 rfl (cg1 (fun (x0_ : Nat) => (wF [wMo o rw fr kp tr ik tp tm mso bg en wd va gd rs mu rm ss msz msh mho mhn mhz 4 (nI j) (te j) tc x0_ 1, wMr G rw la ns sd to he sw nh ki te mi ar z, wI G mho 4 hof, wI G mhn 4 hnf, wI G tc 30 (pF [31, 13, 41, 11, 40, 30, 10, 40, 30, 10, 12] tcf 0)])) (0 + 11) 11 rfl)
set_option maxRecDepth 100000 in
set_option maxHeartbeats 4000000 in
theorem c_X6_act_5_0 (l : Launch) (G : Gd) (s : Nat) (x : Int32) (j : Nat) (o : Nat) (rw : Nat) (fr : Nat) (kp : Nat) (tr : Nat) (ik : Int32) (tp : Nat) (tm : Nat) (mso : Int32) (bg : Nat) (en : Nat) (wd : Int64) (va : Int32) (gd : Int32) (rs : Nat) (mu : Nat) (rm : Nat) (ss : Nat) (msz : Nat) (msh : Nat) (mho : Nat) (mhn : Nat) (mhz : Nat) (kd : Int32) (nb : Int32) (tn : Int32) (tc : Nat) (bo : Nat) (ip : Int32) (la : Nat → Int32) (ns : Nat) (sd : Nat) (to : Nat → Int32) (he : Nat → Int32) (sw : Nat → Int32) (nh : Nat) (ki : Nat → Int32) (te : Nat → Int32) (mi : Nat → Int32) (ar : Nat → Int32) (z : Int32) (hof : Nat → Int32) (hnf : Nat → Int32) (tcf : Nat → Int32) (hs : s ≤ 3) (hho : hof s = 0) (hhn : hnf s = nI j) (hj : j < nh) (hnh : nh ≤ 8) (hk : ki j = 5) : Ct l G yX6_act cX6_act 6 (some (FieldType.int)) 8 [.ref o, .int (nI s), .int 0, .int x] (wF [wMo o rw fr kp tr ik tp tm mso bg en wd va gd rs mu rm ss msz msh mho mhn mhz kd nb tn tc bo ip, wMr G rw la ns sd to he sw nh ki te mi ar z, wI G mho 4 hof, wI G mhn 4 hnf, wI G tc 30 tcf]) (some (.int (x * 5 + (nI j)))) (wF [wMo o rw fr kp tr ik tp tm mso bg en wd va gd rs mu rm ss msz msh mho mhn mhz 5 (nI j) (te j) tc 1 0, wMr G rw la ns sd to he sw nh ki te mi ar z, wI G mho 4 hof, wI G mhn 4 hnf, wI G tc 30 (pF [10] tcf 0)]) := by
  refine Ct.of "GooseArmsModel" [some (.ref o), some (.int (nI s)), some (.int 0), some (.int x), none, none] (by decide +kernel) rfl (Nat.le_of_ble_eq_true rfl) rfl ?_
  refine J_aload_n 0 0 dX6_act_0 rfl rfl ?_
  refine J_iconst (v := 0) 1 dX6_act_1 rfl ?_
  refine p_815 (ws' := (wF [wMo o rw fr kp tr ik tp tm mso bg en wd va gd rs mu rm ss msz msh mho mhn mhz kd nb tn tc 0 ip, wMr G rw la ns sd to he sw nh ki te mi ar z, wI G mho 4 hof, wI G mhn 4 hnf, wI G tc 30 tcf])) 2 0 rfl rfl rfl (Nat.le_of_ble_eq_true rfl) rfl dX6_act_2 ?_
  refine J_iload_n 5 1 dX6_act_5 rfl rfl ?_
  refine kb_RX6_262 (bs' := [wMo o rw fr kp tr ik tp tm mso bg en wd va gd rs mu rm ss msz msh mho mhn mhz kd nb tn tc 0 ip, wMr G rw la ns sd to he sw nh ki te mi ar z, wI G mho 4 hof, wI G mhn 4 hnf, wI G tc 30 tcf]) (rest := []) (st' := [.int 1]) 6 (c_X6_isShelf_t l G s (by first | omega | assumption)) [] rfl rfl [] rfl rfl rfl rfl rfl rfl (Nat.le_of_ble_eq_true rfl) rfl dX6_act_6 ?_
  refine J_if_eq (tgt := 20) 9 dX6_act_9 (by decide) (fun c_1_ => absurd c_1_ (by decide)) (fun _ => ?_)
  refine J_aload_n 12 0 dX6_act_12 rfl rfl ?_
  refine J_iload_n 13 1 dX6_act_13 rfl rfl ?_
  refine kb_RX6_290 (bs' := [wMo o rw fr kp tr ik tp tm mso bg en wd va gd rs mu rm ss msz msh mho mhn mhz kd nb tn tc 0 ip, wMr G rw la ns sd to he sw nh ki te mi ar z, wI G mho 4 hof, wI G mhn 4 hnf, wI G tc 30 tcf]) (rest := []) (st' := [.int (ki j)]) 14 (c_X6_kindOn_h l G s j o rw fr kp tr ik tp tm mso bg en wd va gd rs mu rm ss msz msh mho mhn mhz kd nb tn tc 0 ip la ns sd to he sw nh ki te mi ar z hof hnf (by first | omega | assumption) (by first | omega | assumption) (by first | omega | assumption) (by first | omega | assumption) (by first | omega | assumption)) [0, 1, 2, 3] 0 rfl rfl rfl [[o], [rw], [mho], [mhn]] rfl rfl rfl rfl rfl rfl (Nat.le_of_ble_eq_true rfl) rfl dX6_act_14 ?_
  refine J_topi (y := 5) 17 hk ?_
  refine J_goto (tgt := 21) 17 dX6_act_17 (by decide) ?_
  refine J_istore (lv' := [some (.ref o), some (.int (nI s)), some (.int 0), some (.int x), some (.int 5), none]) 21 dX6_act_21 (by decide) rfl ?_
  refine J_iload_n 23 2 dX6_act_23 rfl rfl ?_
  refine J_iconst (v := 0) 24 dX6_act_24 rfl ?_
  refine J_iconst (v := 3) 25 dX6_act_25 rfl ?_
  refine kb_RX6_57 (bs' := [wMo o rw fr kp tr ik tp tm mso bg en wd va gd rs mu rm ss msz msh mho mhn mhz kd nb tn tc 0 ip, wMr G rw la ns sd to he sw nh ki te mi ar z, wI G mho 4 hof, wI G mhn 4 hnf, wI G tc 30 tcf]) (rest := []) (st' := [.int 1]) 26 (c_X6_in_t l G 0 0 3 (by decide)) [] rfl rfl [] rfl rfl rfl rfl rfl rfl (Nat.le_of_ble_eq_true rfl) rfl dX6_act_26 ?_
  refine J_if_eq (tgt := 42) 29 dX6_act_29 (by decide) (fun c_2_ => absurd c_2_ (by decide)) (fun _ => ?_)
  refine J_iload 32 dX6_act_32 rfl ?_
  refine J_iconst (v := 0) 34 dX6_act_34 rfl ?_
  refine J_iconst (v := 5) 35 dX6_act_35 rfl ?_
  refine kb_RX6_57 (bs' := [wMo o rw fr kp tr ik tp tm mso bg en wd va gd rs mu rm ss msz msh mho mhn mhz kd nb tn tc 0 ip, wMr G rw la ns sd to he sw nh ki te mi ar z, wI G mho 4 hof, wI G mhn 4 hnf, wI G tc 30 tcf]) (rest := []) (st' := [.int 1]) 36 (c_X6_in_t l G 5 0 5 (by decide)) [] rfl rfl [] rfl rfl rfl rfl rfl rfl (Nat.le_of_ble_eq_true rfl) rfl dX6_act_36 ?_
  refine J_if_ne (tgt := 44) 39 dX6_act_39 (by decide) (fun _ => ?_) (fun c_3_ => absurd c_3_ (by decide))
  refine J_aload_n 44 0 dX6_act_44 rfl rfl ?_
  refine J_iload 45 dX6_act_45 rfl ?_
  refine p_811 (ws' := (wF [wMo o rw fr kp tr ik tp tm mso bg en wd va gd rs mu rm ss msz msh mho mhn mhz 5 nb tn tc 0 ip, wMr G rw la ns sd to he sw nh ki te mi ar z, wI G mho 4 hof, wI G mhn 4 hnf, wI G tc 30 tcf])) 47 0 rfl rfl rfl (Nat.le_of_ble_eq_true rfl) rfl dX6_act_47 ?_
  refine J_aload_n 50 0 dX6_act_50 rfl rfl ?_
  refine J_aload_n 51 0 dX6_act_51 rfl rfl ?_
  refine g_809 (v := .ref mhn) 52 0 rfl rfl dX6_act_52 ?_
  refine J_iload_n 55 1 dX6_act_55 rfl rfl ?_
  refine J_iald 56 3 s rfl rfl (by omega) (by decide) dX6_act_56 ?_
  refine J_topi (y := nI j) 57 hhn ?_
  refine p_812 (ws' := (wF [wMo o rw fr kp tr ik tp tm mso bg en wd va gd rs mu rm ss msz msh mho mhn mhz 5 (nI j) tn tc 0 ip, wMr G rw la ns sd to he sw nh ki te mi ar z, wI G mho 4 hof, wI G mhn 4 hnf, wI G tc 30 tcf])) 57 0 rfl rfl rfl (Nat.le_of_ble_eq_true rfl) rfl dX6_act_57 ?_
  refine J_aload_n 60 0 dX6_act_60 rfl rfl ?_
  refine J_aload_n 61 0 dX6_act_61 rfl rfl ?_
  refine J_aload_n 62 0 dX6_act_62 rfl rfl ?_
  refine g_812 (v := .int (nI j)) 63 0 rfl rfl dX6_act_63 ?_
  refine J_iconst (v := 1) 66 dX6_act_66 rfl ?_
  refine kb_RX6_187 (bs' := [wMo o rw fr kp tr ik tp tm mso bg en wd va gd rs mu rm ss msz msh mho mhn mhz 5 (nI j) tn tc 0 ip, wMr G rw la ns sd to he sw nh ki te mi ar z, wI G mho 4 hof, wI G mhn 4 hnf, wI G tc 30 tcf]) (rest := [.ref o]) (st' := [.int (te j), .ref o]) 67 (c_X6_its_1 l G j o rw fr kp tr ik tp tm mso bg en wd va gd rs mu rm ss msz msh mho mhn mhz 5 (nI j) tn tc 0 ip la ns sd to he sw nh ki te mi ar z (by first | omega | assumption)) [0, 1] 0 rfl rfl rfl [[o], [rw]] rfl rfl rfl rfl rfl rfl (Nat.le_of_ble_eq_true rfl) rfl dX6_act_67 ?_
  refine p_813 (ws' := (wF [wMo o rw fr kp tr ik tp tm mso bg en wd va gd rs mu rm ss msz msh mho mhn mhz 5 (nI j) (te j) tc 0 ip, wMr G rw la ns sd to he sw nh ki te mi ar z, wI G mho 4 hof, wI G mhn 4 hnf, wI G tc 30 tcf])) 70 0 rfl rfl rfl (Nat.le_of_ble_eq_true rfl) rfl dX6_act_70 ?_
  refine J_aload_n 73 0 dX6_act_73 rfl rfl ?_
  refine J_iconst (v := 0) 74 dX6_act_74 rfl ?_
  refine p_816 (ws' := (wF [wMo o rw fr kp tr ik tp tm mso bg en wd va gd rs mu rm ss msz msh mho mhn mhz 5 (nI j) (te j) tc 0 0, wMr G rw la ns sd to he sw nh ki te mi ar z, wI G mho 4 hof, wI G mhn 4 hnf, wI G tc 30 tcf])) 75 0 rfl rfl rfl (Nat.le_of_ble_eq_true rfl) rfl dX6_act_75 ?_
  refine J_iload_n 78 2 dX6_act_78 rfl rfl ?_
  refine J_if_ne (tgt := 90) 79 dX6_act_79 (by decide) (fun c_4_ => absurd c_4_ (by decide)) (fun _ => ?_)
  refine J_aload_n 82 0 dX6_act_82 rfl rfl ?_
  refine J_iload_n 83 3 dX6_act_83 rfl rfl ?_
  refine kb_RX6_317 (bs' := [wMo o rw fr kp tr ik tp tm mso bg en wd va gd rs mu rm ss msz msh mho mhn mhz 5 (nI j) (te j) tc (0 + 1) 0, wMr G rw la ns sd to he sw nh ki te mi ar z, wI G mho 4 hof, wI G mhn 4 hnf, wI G tc 30 (pF [10] tcf 0)]) (rest := []) (st' := [.int (x * 5 + (nI j))]) 84 (c_X6_shakesIt_5 l G x o rw fr kp tr ik tp tm mso bg en wd va gd rs mu rm ss msz msh mho mhn mhz (nI j) (te j) tc 0 tcf (by decide)) [0, 4] 0 rfl rfl rfl [[o], [tc]] rfl rfl rfl rfl rfl rfl (Nat.le_of_ble_eq_true rfl) rfl dX6_act_84 ?_
  refine J_goto (tgt := 121) 87 dX6_act_87 (by decide) ?_
  refine J_istore (lv' := [some (.ref o), some (.int (nI s)), some (.int 0), some (.int x), some (.int 5), some (.int (x * 5 + (nI j)))]) 121 dX6_act_121 (by decide) rfl ?_
  refine J_aload_n 123 0 dX6_act_123 rfl rfl ?_
  refine g_816 (v := .int 0) 124 0 rfl rfl dX6_act_124 ?_
  refine J_if_eq (tgt := 135) 127 dX6_act_127 (by decide) (fun _ => ?_) (fun c_5_ => absurd c_5_ (by decide))
  refine J_iload 135 dX6_act_135 rfl ?_
  exact J_iret 137 dX6_act_137 rfl (cg1 (fun (x0_ : Nat) => (wF [wMo o rw fr kp tr ik tp tm mso bg en wd va gd rs mu rm ss msz msh mho mhn mhz 5 (nI j) (te j) tc x0_ 0, wMr G rw la ns sd to he sw nh ki te mi ar z, wI G mho 4 hof, wI G mhn 4 hnf, wI G tc 30 (pF [10] tcf 0)])) (0 + 1) 1 rfl)
set_option maxRecDepth 100000 in
set_option maxHeartbeats 4000000 in
theorem c_X6_act_5_1 (l : Launch) (G : Gd) (s : Nat) (x : Int32) (j : Nat) (o : Nat) (rw : Nat) (fr : Nat) (kp : Nat) (tr : Nat) (ik : Int32) (tp : Nat) (tm : Nat) (mso : Int32) (bg : Nat) (en : Nat) (wd : Int64) (va : Int32) (gd : Int32) (rs : Nat) (mu : Nat) (rm : Nat) (ss : Nat) (msz : Nat) (msh : Nat) (mho : Nat) (mhn : Nat) (mhz : Nat) (kd : Int32) (nb : Int32) (tn : Int32) (tc : Nat) (bo : Nat) (ip : Int32) (la : Nat → Int32) (ns : Nat) (sd : Nat) (to : Nat → Int32) (he : Nat → Int32) (sw : Nat → Int32) (nh : Nat) (ki : Nat → Int32) (te : Nat → Int32) (mi : Nat → Int32) (ar : Nat → Int32) (z : Int32) (hof : Nat → Int32) (hnf : Nat → Int32) (tcf : Nat → Int32) (hs : s ≤ 3) (hho : hof s = 0) (hhn : hnf s = nI j) (hj : j < nh) (hnh : nh ≤ 8) (hk : ki j = 5) : Ct l G yX6_act cX6_act 6 (some (FieldType.int)) 8 [.ref o, .int (nI s), .int 1, .int x] (wF [wMo o rw fr kp tr ik tp tm mso bg en wd va gd rs mu rm ss msz msh mho mhn mhz kd nb tn tc bo ip, wMr G rw la ns sd to he sw nh ki te mi ar z, wI G mho 4 hof, wI G mhn 4 hnf, wI G tc 30 tcf]) (some (.int ((x * 5 + (nI j)) - (te j)))) (wF [wMo o rw fr kp tr ik tp tm mso bg en wd va gd rs mu rm ss msz msh mho mhn mhz 5 (nI j) (te j) tc 2 0, wMr G rw la ns sd to he sw nh ki te mi ar z, wI G mho 4 hof, wI G mhn 4 hnf, wI G tc 30 (pF [11, 10] tcf 0)]) := by
  refine Ct.of "GooseArmsModel" [some (.ref o), some (.int (nI s)), some (.int 1), some (.int x), none, none] (by decide +kernel) rfl (Nat.le_of_ble_eq_true rfl) rfl ?_
  refine J_aload_n 0 0 dX6_act_0 rfl rfl ?_
  refine J_iconst (v := 0) 1 dX6_act_1 rfl ?_
  refine p_815 (ws' := (wF [wMo o rw fr kp tr ik tp tm mso bg en wd va gd rs mu rm ss msz msh mho mhn mhz kd nb tn tc 0 ip, wMr G rw la ns sd to he sw nh ki te mi ar z, wI G mho 4 hof, wI G mhn 4 hnf, wI G tc 30 tcf])) 2 0 rfl rfl rfl (Nat.le_of_ble_eq_true rfl) rfl dX6_act_2 ?_
  refine J_iload_n 5 1 dX6_act_5 rfl rfl ?_
  refine kb_RX6_262 (bs' := [wMo o rw fr kp tr ik tp tm mso bg en wd va gd rs mu rm ss msz msh mho mhn mhz kd nb tn tc 0 ip, wMr G rw la ns sd to he sw nh ki te mi ar z, wI G mho 4 hof, wI G mhn 4 hnf, wI G tc 30 tcf]) (rest := []) (st' := [.int 1]) 6 (c_X6_isShelf_t l G s (by first | omega | assumption)) [] rfl rfl [] rfl rfl rfl rfl rfl rfl (Nat.le_of_ble_eq_true rfl) rfl dX6_act_6 ?_
  refine J_if_eq (tgt := 20) 9 dX6_act_9 (by decide) (fun c_1_ => absurd c_1_ (by decide)) (fun _ => ?_)
  refine J_aload_n 12 0 dX6_act_12 rfl rfl ?_
  refine J_iload_n 13 1 dX6_act_13 rfl rfl ?_
  refine kb_RX6_290 (bs' := [wMo o rw fr kp tr ik tp tm mso bg en wd va gd rs mu rm ss msz msh mho mhn mhz kd nb tn tc 0 ip, wMr G rw la ns sd to he sw nh ki te mi ar z, wI G mho 4 hof, wI G mhn 4 hnf, wI G tc 30 tcf]) (rest := []) (st' := [.int (ki j)]) 14 (c_X6_kindOn_h l G s j o rw fr kp tr ik tp tm mso bg en wd va gd rs mu rm ss msz msh mho mhn mhz kd nb tn tc 0 ip la ns sd to he sw nh ki te mi ar z hof hnf (by first | omega | assumption) (by first | omega | assumption) (by first | omega | assumption) (by first | omega | assumption) (by first | omega | assumption)) [0, 1, 2, 3] 0 rfl rfl rfl [[o], [rw], [mho], [mhn]] rfl rfl rfl rfl rfl rfl (Nat.le_of_ble_eq_true rfl) rfl dX6_act_14 ?_
  refine J_topi (y := 5) 17 hk ?_
  refine J_goto (tgt := 21) 17 dX6_act_17 (by decide) ?_
  refine J_istore (lv' := [some (.ref o), some (.int (nI s)), some (.int 1), some (.int x), some (.int 5), none]) 21 dX6_act_21 (by decide) rfl ?_
  refine J_iload_n 23 2 dX6_act_23 rfl rfl ?_
  refine J_iconst (v := 0) 24 dX6_act_24 rfl ?_
  refine J_iconst (v := 3) 25 dX6_act_25 rfl ?_
  refine kb_RX6_57 (bs' := [wMo o rw fr kp tr ik tp tm mso bg en wd va gd rs mu rm ss msz msh mho mhn mhz kd nb tn tc 0 ip, wMr G rw la ns sd to he sw nh ki te mi ar z, wI G mho 4 hof, wI G mhn 4 hnf, wI G tc 30 tcf]) (rest := []) (st' := [.int 1]) 26 (c_X6_in_t l G 1 0 3 (by decide)) [] rfl rfl [] rfl rfl rfl rfl rfl rfl (Nat.le_of_ble_eq_true rfl) rfl dX6_act_26 ?_
  refine J_if_eq (tgt := 42) 29 dX6_act_29 (by decide) (fun c_2_ => absurd c_2_ (by decide)) (fun _ => ?_)
  refine J_iload 32 dX6_act_32 rfl ?_
  refine J_iconst (v := 0) 34 dX6_act_34 rfl ?_
  refine J_iconst (v := 5) 35 dX6_act_35 rfl ?_
  refine kb_RX6_57 (bs' := [wMo o rw fr kp tr ik tp tm mso bg en wd va gd rs mu rm ss msz msh mho mhn mhz kd nb tn tc 0 ip, wMr G rw la ns sd to he sw nh ki te mi ar z, wI G mho 4 hof, wI G mhn 4 hnf, wI G tc 30 tcf]) (rest := []) (st' := [.int 1]) 36 (c_X6_in_t l G 5 0 5 (by decide)) [] rfl rfl [] rfl rfl rfl rfl rfl rfl (Nat.le_of_ble_eq_true rfl) rfl dX6_act_36 ?_
  refine J_if_ne (tgt := 44) 39 dX6_act_39 (by decide) (fun _ => ?_) (fun c_3_ => absurd c_3_ (by decide))
  refine J_aload_n 44 0 dX6_act_44 rfl rfl ?_
  refine J_iload 45 dX6_act_45 rfl ?_
  refine p_811 (ws' := (wF [wMo o rw fr kp tr ik tp tm mso bg en wd va gd rs mu rm ss msz msh mho mhn mhz 5 nb tn tc 0 ip, wMr G rw la ns sd to he sw nh ki te mi ar z, wI G mho 4 hof, wI G mhn 4 hnf, wI G tc 30 tcf])) 47 0 rfl rfl rfl (Nat.le_of_ble_eq_true rfl) rfl dX6_act_47 ?_
  refine J_aload_n 50 0 dX6_act_50 rfl rfl ?_
  refine J_aload_n 51 0 dX6_act_51 rfl rfl ?_
  refine g_809 (v := .ref mhn) 52 0 rfl rfl dX6_act_52 ?_
  refine J_iload_n 55 1 dX6_act_55 rfl rfl ?_
  refine J_iald 56 3 s rfl rfl (by omega) (by decide) dX6_act_56 ?_
  refine J_topi (y := nI j) 57 hhn ?_
  refine p_812 (ws' := (wF [wMo o rw fr kp tr ik tp tm mso bg en wd va gd rs mu rm ss msz msh mho mhn mhz 5 (nI j) tn tc 0 ip, wMr G rw la ns sd to he sw nh ki te mi ar z, wI G mho 4 hof, wI G mhn 4 hnf, wI G tc 30 tcf])) 57 0 rfl rfl rfl (Nat.le_of_ble_eq_true rfl) rfl dX6_act_57 ?_
  refine J_aload_n 60 0 dX6_act_60 rfl rfl ?_
  refine J_aload_n 61 0 dX6_act_61 rfl rfl ?_
  refine J_aload_n 62 0 dX6_act_62 rfl rfl ?_
  refine g_812 (v := .int (nI j)) 63 0 rfl rfl dX6_act_63 ?_
  refine J_iconst (v := 1) 66 dX6_act_66 rfl ?_
  refine kb_RX6_187 (bs' := [wMo o rw fr kp tr ik tp tm mso bg en wd va gd rs mu rm ss msz msh mho mhn mhz 5 (nI j) tn tc 0 ip, wMr G rw la ns sd to he sw nh ki te mi ar z, wI G mho 4 hof, wI G mhn 4 hnf, wI G tc 30 tcf]) (rest := [.ref o]) (st' := [.int (te j), .ref o]) 67 (c_X6_its_1 l G j o rw fr kp tr ik tp tm mso bg en wd va gd rs mu rm ss msz msh mho mhn mhz 5 (nI j) tn tc 0 ip la ns sd to he sw nh ki te mi ar z (by first | omega | assumption)) [0, 1] 0 rfl rfl rfl [[o], [rw]] rfl rfl rfl rfl rfl rfl (Nat.le_of_ble_eq_true rfl) rfl dX6_act_67 ?_
  refine p_813 (ws' := (wF [wMo o rw fr kp tr ik tp tm mso bg en wd va gd rs mu rm ss msz msh mho mhn mhz 5 (nI j) (te j) tc 0 ip, wMr G rw la ns sd to he sw nh ki te mi ar z, wI G mho 4 hof, wI G mhn 4 hnf, wI G tc 30 tcf])) 70 0 rfl rfl rfl (Nat.le_of_ble_eq_true rfl) rfl dX6_act_70 ?_
  refine J_aload_n 73 0 dX6_act_73 rfl rfl ?_
  refine J_iconst (v := 0) 74 dX6_act_74 rfl ?_
  refine p_816 (ws' := (wF [wMo o rw fr kp tr ik tp tm mso bg en wd va gd rs mu rm ss msz msh mho mhn mhz 5 (nI j) (te j) tc 0 0, wMr G rw la ns sd to he sw nh ki te mi ar z, wI G mho 4 hof, wI G mhn 4 hnf, wI G tc 30 tcf])) 75 0 rfl rfl rfl (Nat.le_of_ble_eq_true rfl) rfl dX6_act_75 ?_
  refine J_iload_n 78 2 dX6_act_78 rfl rfl ?_
  refine J_if_ne (tgt := 90) 79 dX6_act_79 (by decide) (fun _ => ?_) (fun c_4_ => absurd c_4_ (by decide))
  refine J_iload_n 90 2 dX6_act_90 rfl rfl ?_
  refine J_iconst (v := 1) 91 dX6_act_91 rfl ?_
  refine J_icmp_ne (tgt := 103) 92 dX6_act_92 (by decide) (fun c_5_ => absurd c_5_ (by decide)) (fun _ => ?_)
  refine J_aload_n 95 0 dX6_act_95 rfl rfl ?_
  refine J_iload_n 96 3 dX6_act_96 rfl rfl ?_
  refine kb_RX6_329 (bs' := [wMo o rw fr kp tr ik tp tm mso bg en wd va gd rs mu rm ss msz msh mho mhn mhz 5 (nI j) (te j) tc (0 + 2) 0, wMr G rw la ns sd to he sw nh ki te mi ar z, wI G mho 4 hof, wI G mhn 4 hnf, wI G tc 30 (pF [11, 10] tcf 0)]) (rest := []) (st' := [.int ((x * 5 + (nI j)) - (te j))]) 97 (c_X6_readsIt_5 l G x o rw fr kp tr ik tp tm mso bg en wd va gd rs mu rm ss msz msh mho mhn mhz (nI j) (te j) tc 0 tcf (by decide)) [0, 4] 0 rfl rfl rfl [[o], [tc]] rfl rfl rfl rfl rfl rfl (Nat.le_of_ble_eq_true rfl) rfl dX6_act_97 ?_
  refine J_goto (tgt := 121) 100 dX6_act_100 (by decide) ?_
  refine J_istore (lv' := [some (.ref o), some (.int (nI s)), some (.int 1), some (.int x), some (.int 5), some (.int ((x * 5 + (nI j)) - (te j)))]) 121 dX6_act_121 (by decide) rfl ?_
  refine J_aload_n 123 0 dX6_act_123 rfl rfl ?_
  refine g_816 (v := .int 0) 124 0 rfl rfl dX6_act_124 ?_
  refine J_if_eq (tgt := 135) 127 dX6_act_127 (by decide) (fun _ => ?_) (fun c_6_ => absurd c_6_ (by decide))
  refine J_iload 135 dX6_act_135 rfl ?_
  exact J_iret 137 dX6_act_137 rfl (cg1 (fun (x0_ : Nat) => (wF [wMo o rw fr kp tr ik tp tm mso bg en wd va gd rs mu rm ss msz msh mho mhn mhz 5 (nI j) (te j) tc x0_ 0, wMr G rw la ns sd to he sw nh ki te mi ar z, wI G mho 4 hof, wI G mhn 4 hnf, wI G tc 30 (pF [11, 10] tcf 0)])) (0 + 2) 2 rfl)
set_option maxRecDepth 100000 in
set_option maxHeartbeats 4000000 in
theorem c_X6_act_5_2 (l : Launch) (G : Gd) (s : Nat) (x : Int32) (j : Nat) (o : Nat) (rw : Nat) (fr : Nat) (kp : Nat) (tr : Nat) (ik : Int32) (tp : Nat) (tm : Nat) (mso : Int32) (bg : Nat) (en : Nat) (wd : Int64) (va : Int32) (gd : Int32) (rs : Nat) (mu : Nat) (rm : Nat) (ss : Nat) (msz : Nat) (msh : Nat) (mho : Nat) (mhn : Nat) (mhz : Nat) (kd : Int32) (nb : Int32) (tn : Int32) (tc : Nat) (bo : Nat) (ip : Int32) (la : Nat → Int32) (ns : Nat) (sd : Nat) (to : Nat → Int32) (he : Nat → Int32) (sw : Nat → Int32) (nh : Nat) (ki : Nat → Int32) (te : Nat → Int32) (mi : Nat → Int32) (ar : Nat → Int32) (z : Int32) (hof : Nat → Int32) (hnf : Nat → Int32) (tcf : Nat → Int32) (hs : s ≤ 3) (hho : hof s = 0) (hhn : hnf s = nI j) (hj : j < nh) (hnh : nh ≤ 8) (hk : ki j = 5) (hz : ¬ te j = nI j) : Ct l G yX6_act cX6_act 6 (some (FieldType.int)) 8 [.ref o, .int (nI s), .int 2, .int x] (wF [wMo o rw fr kp tr ik tp tm mso bg en wd va gd rs mu rm ss msz msh mho mhn mhz kd nb tn tc bo ip, wMr G rw la ns sd to he sw nh ki te mi ar z, wI G mho 4 hof, wI G mhn 4 hnf, wI G tc 30 tcf]) (some (.int ((x / ((te j) - (nI j))) - ((nI j) * 5 + (nI j))))) (wF [wMo o rw fr kp tr ik tp tm mso bg en wd va gd rs mu rm ss msz msh mho mhn mhz 5 (nI j) (te j) tc 3 0, wMr G rw la ns sd to he sw nh ki te mi ar z, wI G mho 4 hof, wI G mhn 4 hnf, wI G tc 30 (pF [61, 12, 10] tcf 0)]) := by
  refine Ct.of "GooseArmsModel" [some (.ref o), some (.int (nI s)), some (.int 2), some (.int x), none, none] (by decide +kernel) rfl (Nat.le_of_ble_eq_true rfl) rfl ?_
  refine J_aload_n 0 0 dX6_act_0 rfl rfl ?_
  refine J_iconst (v := 0) 1 dX6_act_1 rfl ?_
  refine p_815 (ws' := (wF [wMo o rw fr kp tr ik tp tm mso bg en wd va gd rs mu rm ss msz msh mho mhn mhz kd nb tn tc 0 ip, wMr G rw la ns sd to he sw nh ki te mi ar z, wI G mho 4 hof, wI G mhn 4 hnf, wI G tc 30 tcf])) 2 0 rfl rfl rfl (Nat.le_of_ble_eq_true rfl) rfl dX6_act_2 ?_
  refine J_iload_n 5 1 dX6_act_5 rfl rfl ?_
  refine kb_RX6_262 (bs' := [wMo o rw fr kp tr ik tp tm mso bg en wd va gd rs mu rm ss msz msh mho mhn mhz kd nb tn tc 0 ip, wMr G rw la ns sd to he sw nh ki te mi ar z, wI G mho 4 hof, wI G mhn 4 hnf, wI G tc 30 tcf]) (rest := []) (st' := [.int 1]) 6 (c_X6_isShelf_t l G s (by first | omega | assumption)) [] rfl rfl [] rfl rfl rfl rfl rfl rfl (Nat.le_of_ble_eq_true rfl) rfl dX6_act_6 ?_
  refine J_if_eq (tgt := 20) 9 dX6_act_9 (by decide) (fun c_1_ => absurd c_1_ (by decide)) (fun _ => ?_)
  refine J_aload_n 12 0 dX6_act_12 rfl rfl ?_
  refine J_iload_n 13 1 dX6_act_13 rfl rfl ?_
  refine kb_RX6_290 (bs' := [wMo o rw fr kp tr ik tp tm mso bg en wd va gd rs mu rm ss msz msh mho mhn mhz kd nb tn tc 0 ip, wMr G rw la ns sd to he sw nh ki te mi ar z, wI G mho 4 hof, wI G mhn 4 hnf, wI G tc 30 tcf]) (rest := []) (st' := [.int (ki j)]) 14 (c_X6_kindOn_h l G s j o rw fr kp tr ik tp tm mso bg en wd va gd rs mu rm ss msz msh mho mhn mhz kd nb tn tc 0 ip la ns sd to he sw nh ki te mi ar z hof hnf (by first | omega | assumption) (by first | omega | assumption) (by first | omega | assumption) (by first | omega | assumption) (by first | omega | assumption)) [0, 1, 2, 3] 0 rfl rfl rfl [[o], [rw], [mho], [mhn]] rfl rfl rfl rfl rfl rfl (Nat.le_of_ble_eq_true rfl) rfl dX6_act_14 ?_
  refine J_topi (y := 5) 17 hk ?_
  refine J_goto (tgt := 21) 17 dX6_act_17 (by decide) ?_
  refine J_istore (lv' := [some (.ref o), some (.int (nI s)), some (.int 2), some (.int x), some (.int 5), none]) 21 dX6_act_21 (by decide) rfl ?_
  refine J_iload_n 23 2 dX6_act_23 rfl rfl ?_
  refine J_iconst (v := 0) 24 dX6_act_24 rfl ?_
  refine J_iconst (v := 3) 25 dX6_act_25 rfl ?_
  refine kb_RX6_57 (bs' := [wMo o rw fr kp tr ik tp tm mso bg en wd va gd rs mu rm ss msz msh mho mhn mhz kd nb tn tc 0 ip, wMr G rw la ns sd to he sw nh ki te mi ar z, wI G mho 4 hof, wI G mhn 4 hnf, wI G tc 30 tcf]) (rest := []) (st' := [.int 1]) 26 (c_X6_in_t l G 2 0 3 (by decide)) [] rfl rfl [] rfl rfl rfl rfl rfl rfl (Nat.le_of_ble_eq_true rfl) rfl dX6_act_26 ?_
  refine J_if_eq (tgt := 42) 29 dX6_act_29 (by decide) (fun c_2_ => absurd c_2_ (by decide)) (fun _ => ?_)
  refine J_iload 32 dX6_act_32 rfl ?_
  refine J_iconst (v := 0) 34 dX6_act_34 rfl ?_
  refine J_iconst (v := 5) 35 dX6_act_35 rfl ?_
  refine kb_RX6_57 (bs' := [wMo o rw fr kp tr ik tp tm mso bg en wd va gd rs mu rm ss msz msh mho mhn mhz kd nb tn tc 0 ip, wMr G rw la ns sd to he sw nh ki te mi ar z, wI G mho 4 hof, wI G mhn 4 hnf, wI G tc 30 tcf]) (rest := []) (st' := [.int 1]) 36 (c_X6_in_t l G 5 0 5 (by decide)) [] rfl rfl [] rfl rfl rfl rfl rfl rfl (Nat.le_of_ble_eq_true rfl) rfl dX6_act_36 ?_
  refine J_if_ne (tgt := 44) 39 dX6_act_39 (by decide) (fun _ => ?_) (fun c_3_ => absurd c_3_ (by decide))
  refine J_aload_n 44 0 dX6_act_44 rfl rfl ?_
  refine J_iload 45 dX6_act_45 rfl ?_
  refine p_811 (ws' := (wF [wMo o rw fr kp tr ik tp tm mso bg en wd va gd rs mu rm ss msz msh mho mhn mhz 5 nb tn tc 0 ip, wMr G rw la ns sd to he sw nh ki te mi ar z, wI G mho 4 hof, wI G mhn 4 hnf, wI G tc 30 tcf])) 47 0 rfl rfl rfl (Nat.le_of_ble_eq_true rfl) rfl dX6_act_47 ?_
  refine J_aload_n 50 0 dX6_act_50 rfl rfl ?_
  refine J_aload_n 51 0 dX6_act_51 rfl rfl ?_
  refine g_809 (v := .ref mhn) 52 0 rfl rfl dX6_act_52 ?_
  refine J_iload_n 55 1 dX6_act_55 rfl rfl ?_
  refine J_iald 56 3 s rfl rfl (by omega) (by decide) dX6_act_56 ?_
  refine J_topi (y := nI j) 57 hhn ?_
  refine p_812 (ws' := (wF [wMo o rw fr kp tr ik tp tm mso bg en wd va gd rs mu rm ss msz msh mho mhn mhz 5 (nI j) tn tc 0 ip, wMr G rw la ns sd to he sw nh ki te mi ar z, wI G mho 4 hof, wI G mhn 4 hnf, wI G tc 30 tcf])) 57 0 rfl rfl rfl (Nat.le_of_ble_eq_true rfl) rfl dX6_act_57 ?_
  refine J_aload_n 60 0 dX6_act_60 rfl rfl ?_
  refine J_aload_n 61 0 dX6_act_61 rfl rfl ?_
  refine J_aload_n 62 0 dX6_act_62 rfl rfl ?_
  refine g_812 (v := .int (nI j)) 63 0 rfl rfl dX6_act_63 ?_
  refine J_iconst (v := 1) 66 dX6_act_66 rfl ?_
  refine kb_RX6_187 (bs' := [wMo o rw fr kp tr ik tp tm mso bg en wd va gd rs mu rm ss msz msh mho mhn mhz 5 (nI j) tn tc 0 ip, wMr G rw la ns sd to he sw nh ki te mi ar z, wI G mho 4 hof, wI G mhn 4 hnf, wI G tc 30 tcf]) (rest := [.ref o]) (st' := [.int (te j), .ref o]) 67 (c_X6_its_1 l G j o rw fr kp tr ik tp tm mso bg en wd va gd rs mu rm ss msz msh mho mhn mhz 5 (nI j) tn tc 0 ip la ns sd to he sw nh ki te mi ar z (by first | omega | assumption)) [0, 1] 0 rfl rfl rfl [[o], [rw]] rfl rfl rfl rfl rfl rfl (Nat.le_of_ble_eq_true rfl) rfl dX6_act_67 ?_
  refine p_813 (ws' := (wF [wMo o rw fr kp tr ik tp tm mso bg en wd va gd rs mu rm ss msz msh mho mhn mhz 5 (nI j) (te j) tc 0 ip, wMr G rw la ns sd to he sw nh ki te mi ar z, wI G mho 4 hof, wI G mhn 4 hnf, wI G tc 30 tcf])) 70 0 rfl rfl rfl (Nat.le_of_ble_eq_true rfl) rfl dX6_act_70 ?_
  refine J_aload_n 73 0 dX6_act_73 rfl rfl ?_
  refine J_iconst (v := 0) 74 dX6_act_74 rfl ?_
  refine p_816 (ws' := (wF [wMo o rw fr kp tr ik tp tm mso bg en wd va gd rs mu rm ss msz msh mho mhn mhz 5 (nI j) (te j) tc 0 0, wMr G rw la ns sd to he sw nh ki te mi ar z, wI G mho 4 hof, wI G mhn 4 hnf, wI G tc 30 tcf])) 75 0 rfl rfl rfl (Nat.le_of_ble_eq_true rfl) rfl dX6_act_75 ?_
  refine J_iload_n 78 2 dX6_act_78 rfl rfl ?_
  refine J_if_ne (tgt := 90) 79 dX6_act_79 (by decide) (fun _ => ?_) (fun c_4_ => absurd c_4_ (by decide))
  refine J_iload_n 90 2 dX6_act_90 rfl rfl ?_
  refine J_iconst (v := 1) 91 dX6_act_91 rfl ?_
  refine J_icmp_ne (tgt := 103) 92 dX6_act_92 (by decide) (fun _ => ?_) (fun c_5_ => absurd c_5_ (by decide))
  refine J_iload_n 103 2 dX6_act_103 rfl rfl ?_
  refine J_iconst (v := 2) 104 dX6_act_104 rfl ?_
  refine J_icmp_ne (tgt := 116) 105 dX6_act_105 (by decide) (fun c_6_ => absurd c_6_ (by decide)) (fun _ => ?_)
  refine J_aload_n 108 0 dX6_act_108 rfl rfl ?_
  refine J_iload_n 109 3 dX6_act_109 rfl rfl ?_
  refine kb_RX6_335 (bs' := [wMo o rw fr kp tr ik tp tm mso bg en wd va gd rs mu rm ss msz msh mho mhn mhz 5 (nI j) (te j) tc (0 + 3) 0, wMr G rw la ns sd to he sw nh ki te mi ar z, wI G mho 4 hof, wI G mhn 4 hnf, wI G tc 30 (pF [61, 12, 10] tcf 0)]) (rest := []) (st' := [.int ((x / ((te j) - (nI j))) - ((nI j) * 5 + (nI j)))]) 110 (c_X6_partsIt_5 l G x o rw fr kp tr ik tp tm mso bg en wd va gd rs mu rm ss msz msh mho mhn mhz (nI j) (te j) tc 0 tcf (by decide) hz) [0, 4] 0 rfl rfl rfl [[o], [tc]] rfl rfl rfl rfl rfl rfl (Nat.le_of_ble_eq_true rfl) rfl dX6_act_110 ?_
  refine J_goto (tgt := 121) 113 dX6_act_113 (by decide) ?_
  refine J_istore (lv' := [some (.ref o), some (.int (nI s)), some (.int 2), some (.int x), some (.int 5), some (.int ((x / ((te j) - (nI j))) - ((nI j) * 5 + (nI j))))]) 121 dX6_act_121 (by decide) rfl ?_
  refine J_aload_n 123 0 dX6_act_123 rfl rfl ?_
  refine g_816 (v := .int 0) 124 0 rfl rfl dX6_act_124 ?_
  refine J_if_eq (tgt := 135) 127 dX6_act_127 (by decide) (fun _ => ?_) (fun c_7_ => absurd c_7_ (by decide))
  refine J_iload 135 dX6_act_135 rfl ?_
  exact J_iret 137 dX6_act_137 rfl (cg1 (fun (x0_ : Nat) => (wF [wMo o rw fr kp tr ik tp tm mso bg en wd va gd rs mu rm ss msz msh mho mhn mhz 5 (nI j) (te j) tc x0_ 0, wMr G rw la ns sd to he sw nh ki te mi ar z, wI G mho 4 hof, wI G mhn 4 hnf, wI G tc 30 (pF [61, 12, 10] tcf 0)])) (0 + 3) 3 rfl)
set_option maxRecDepth 100000 in
set_option maxHeartbeats 4000000 in
theorem c_X6_act_5_2z (l : Launch) (G : Gd) (s : Nat) (x : Int32) (j : Nat) (o : Nat) (rw : Nat) (fr : Nat) (kp : Nat) (tr : Nat) (ik : Int32) (tp : Nat) (tm : Nat) (mso : Int32) (bg : Nat) (en : Nat) (wd : Int64) (va : Int32) (gd : Int32) (rs : Nat) (mu : Nat) (rm : Nat) (ss : Nat) (msz : Nat) (msh : Nat) (mho : Nat) (mhn : Nat) (mhz : Nat) (kd : Int32) (nb : Int32) (tn : Int32) (tc : Nat) (bo : Nat) (ip : Int32) (la : Nat → Int32) (ns : Nat) (sd : Nat) (to : Nat → Int32) (he : Nat → Int32) (sw : Nat → Int32) (nh : Nat) (ki : Nat → Int32) (te : Nat → Int32) (mi : Nat → Int32) (ar : Nat → Int32) (z : Int32) (hof : Nat → Int32) (hnf : Nat → Int32) (tcf : Nat → Int32) (hs : s ≤ 3) (hho : hof s = 0) (hhn : hnf s = nI j) (hj : j < nh) (hnh : nh ≤ 8) (hk : ki j = 5) (hz : te j = nI j) : Ct l G yX6_act cX6_act 6 (some (FieldType.int)) 8 [.ref o, .int (nI s), .int 2, .int x] (wF [wMo o rw fr kp tr ik tp tm mso bg en wd va gd rs mu rm ss msz msh mho mhn mhz kd nb tn tc bo ip, wMr G rw la ns sd to he sw nh ki te mi ar z, wI G mho 4 hof, wI G mhn 4 hnf, wI G tc 30 tcf]) (some (.int (-15))) (wF [wMo o rw fr kp tr ik tp tm mso bg en wd va gd rs mu rm ss msz msh mho mhn mhz 5 (nI j) (te j) tc 2 1, wMr G rw la ns sd to he sw nh ki te mi ar z, wI G mho 4 hof, wI G mhn 4 hnf, wI G tc 30 (pF [61, 12] tcf 0)]) := by
  refine Ct.of "GooseArmsModel" [some (.ref o), some (.int (nI s)), some (.int 2), some (.int x), none, none] (by decide +kernel) rfl (Nat.le_of_ble_eq_true rfl) rfl ?_
  refine J_aload_n 0 0 dX6_act_0 rfl rfl ?_
  refine J_iconst (v := 0) 1 dX6_act_1 rfl ?_
  refine p_815 (ws' := (wF [wMo o rw fr kp tr ik tp tm mso bg en wd va gd rs mu rm ss msz msh mho mhn mhz kd nb tn tc 0 ip, wMr G rw la ns sd to he sw nh ki te mi ar z, wI G mho 4 hof, wI G mhn 4 hnf, wI G tc 30 tcf])) 2 0 rfl rfl rfl (Nat.le_of_ble_eq_true rfl) rfl dX6_act_2 ?_
  refine J_iload_n 5 1 dX6_act_5 rfl rfl ?_
  refine kb_RX6_262 (bs' := [wMo o rw fr kp tr ik tp tm mso bg en wd va gd rs mu rm ss msz msh mho mhn mhz kd nb tn tc 0 ip, wMr G rw la ns sd to he sw nh ki te mi ar z, wI G mho 4 hof, wI G mhn 4 hnf, wI G tc 30 tcf]) (rest := []) (st' := [.int 1]) 6 (c_X6_isShelf_t l G s (by first | omega | assumption)) [] rfl rfl [] rfl rfl rfl rfl rfl rfl (Nat.le_of_ble_eq_true rfl) rfl dX6_act_6 ?_
  refine J_if_eq (tgt := 20) 9 dX6_act_9 (by decide) (fun c_1_ => absurd c_1_ (by decide)) (fun _ => ?_)
  refine J_aload_n 12 0 dX6_act_12 rfl rfl ?_
  refine J_iload_n 13 1 dX6_act_13 rfl rfl ?_
  refine kb_RX6_290 (bs' := [wMo o rw fr kp tr ik tp tm mso bg en wd va gd rs mu rm ss msz msh mho mhn mhz kd nb tn tc 0 ip, wMr G rw la ns sd to he sw nh ki te mi ar z, wI G mho 4 hof, wI G mhn 4 hnf, wI G tc 30 tcf]) (rest := []) (st' := [.int (ki j)]) 14 (c_X6_kindOn_h l G s j o rw fr kp tr ik tp tm mso bg en wd va gd rs mu rm ss msz msh mho mhn mhz kd nb tn tc 0 ip la ns sd to he sw nh ki te mi ar z hof hnf (by first | omega | assumption) (by first | omega | assumption) (by first | omega | assumption) (by first | omega | assumption) (by first | omega | assumption)) [0, 1, 2, 3] 0 rfl rfl rfl [[o], [rw], [mho], [mhn]] rfl rfl rfl rfl rfl rfl (Nat.le_of_ble_eq_true rfl) rfl dX6_act_14 ?_
  refine J_topi (y := 5) 17 hk ?_
  refine J_goto (tgt := 21) 17 dX6_act_17 (by decide) ?_
  refine J_istore (lv' := [some (.ref o), some (.int (nI s)), some (.int 2), some (.int x), some (.int 5), none]) 21 dX6_act_21 (by decide) rfl ?_
  refine J_iload_n 23 2 dX6_act_23 rfl rfl ?_
  refine J_iconst (v := 0) 24 dX6_act_24 rfl ?_
  refine J_iconst (v := 3) 25 dX6_act_25 rfl ?_
  refine kb_RX6_57 (bs' := [wMo o rw fr kp tr ik tp tm mso bg en wd va gd rs mu rm ss msz msh mho mhn mhz kd nb tn tc 0 ip, wMr G rw la ns sd to he sw nh ki te mi ar z, wI G mho 4 hof, wI G mhn 4 hnf, wI G tc 30 tcf]) (rest := []) (st' := [.int 1]) 26 (c_X6_in_t l G 2 0 3 (by decide)) [] rfl rfl [] rfl rfl rfl rfl rfl rfl (Nat.le_of_ble_eq_true rfl) rfl dX6_act_26 ?_
  refine J_if_eq (tgt := 42) 29 dX6_act_29 (by decide) (fun c_2_ => absurd c_2_ (by decide)) (fun _ => ?_)
  refine J_iload 32 dX6_act_32 rfl ?_
  refine J_iconst (v := 0) 34 dX6_act_34 rfl ?_
  refine J_iconst (v := 5) 35 dX6_act_35 rfl ?_
  refine kb_RX6_57 (bs' := [wMo o rw fr kp tr ik tp tm mso bg en wd va gd rs mu rm ss msz msh mho mhn mhz kd nb tn tc 0 ip, wMr G rw la ns sd to he sw nh ki te mi ar z, wI G mho 4 hof, wI G mhn 4 hnf, wI G tc 30 tcf]) (rest := []) (st' := [.int 1]) 36 (c_X6_in_t l G 5 0 5 (by decide)) [] rfl rfl [] rfl rfl rfl rfl rfl rfl (Nat.le_of_ble_eq_true rfl) rfl dX6_act_36 ?_
  refine J_if_ne (tgt := 44) 39 dX6_act_39 (by decide) (fun _ => ?_) (fun c_3_ => absurd c_3_ (by decide))
  refine J_aload_n 44 0 dX6_act_44 rfl rfl ?_
  refine J_iload 45 dX6_act_45 rfl ?_
  refine p_811 (ws' := (wF [wMo o rw fr kp tr ik tp tm mso bg en wd va gd rs mu rm ss msz msh mho mhn mhz 5 nb tn tc 0 ip, wMr G rw la ns sd to he sw nh ki te mi ar z, wI G mho 4 hof, wI G mhn 4 hnf, wI G tc 30 tcf])) 47 0 rfl rfl rfl (Nat.le_of_ble_eq_true rfl) rfl dX6_act_47 ?_
  refine J_aload_n 50 0 dX6_act_50 rfl rfl ?_
  refine J_aload_n 51 0 dX6_act_51 rfl rfl ?_
  refine g_809 (v := .ref mhn) 52 0 rfl rfl dX6_act_52 ?_
  refine J_iload_n 55 1 dX6_act_55 rfl rfl ?_
  refine J_iald 56 3 s rfl rfl (by omega) (by decide) dX6_act_56 ?_
  refine J_topi (y := nI j) 57 hhn ?_
  refine p_812 (ws' := (wF [wMo o rw fr kp tr ik tp tm mso bg en wd va gd rs mu rm ss msz msh mho mhn mhz 5 (nI j) tn tc 0 ip, wMr G rw la ns sd to he sw nh ki te mi ar z, wI G mho 4 hof, wI G mhn 4 hnf, wI G tc 30 tcf])) 57 0 rfl rfl rfl (Nat.le_of_ble_eq_true rfl) rfl dX6_act_57 ?_
  refine J_aload_n 60 0 dX6_act_60 rfl rfl ?_
  refine J_aload_n 61 0 dX6_act_61 rfl rfl ?_
  refine J_aload_n 62 0 dX6_act_62 rfl rfl ?_
  refine g_812 (v := .int (nI j)) 63 0 rfl rfl dX6_act_63 ?_
  refine J_iconst (v := 1) 66 dX6_act_66 rfl ?_
  refine kb_RX6_187 (bs' := [wMo o rw fr kp tr ik tp tm mso bg en wd va gd rs mu rm ss msz msh mho mhn mhz 5 (nI j) tn tc 0 ip, wMr G rw la ns sd to he sw nh ki te mi ar z, wI G mho 4 hof, wI G mhn 4 hnf, wI G tc 30 tcf]) (rest := [.ref o]) (st' := [.int (te j), .ref o]) 67 (c_X6_its_1 l G j o rw fr kp tr ik tp tm mso bg en wd va gd rs mu rm ss msz msh mho mhn mhz 5 (nI j) tn tc 0 ip la ns sd to he sw nh ki te mi ar z (by first | omega | assumption)) [0, 1] 0 rfl rfl rfl [[o], [rw]] rfl rfl rfl rfl rfl rfl (Nat.le_of_ble_eq_true rfl) rfl dX6_act_67 ?_
  refine p_813 (ws' := (wF [wMo o rw fr kp tr ik tp tm mso bg en wd va gd rs mu rm ss msz msh mho mhn mhz 5 (nI j) (te j) tc 0 ip, wMr G rw la ns sd to he sw nh ki te mi ar z, wI G mho 4 hof, wI G mhn 4 hnf, wI G tc 30 tcf])) 70 0 rfl rfl rfl (Nat.le_of_ble_eq_true rfl) rfl dX6_act_70 ?_
  refine J_aload_n 73 0 dX6_act_73 rfl rfl ?_
  refine J_iconst (v := 0) 74 dX6_act_74 rfl ?_
  refine p_816 (ws' := (wF [wMo o rw fr kp tr ik tp tm mso bg en wd va gd rs mu rm ss msz msh mho mhn mhz 5 (nI j) (te j) tc 0 0, wMr G rw la ns sd to he sw nh ki te mi ar z, wI G mho 4 hof, wI G mhn 4 hnf, wI G tc 30 tcf])) 75 0 rfl rfl rfl (Nat.le_of_ble_eq_true rfl) rfl dX6_act_75 ?_
  refine J_iload_n 78 2 dX6_act_78 rfl rfl ?_
  refine J_if_ne (tgt := 90) 79 dX6_act_79 (by decide) (fun _ => ?_) (fun c_4_ => absurd c_4_ (by decide))
  refine J_iload_n 90 2 dX6_act_90 rfl rfl ?_
  refine J_iconst (v := 1) 91 dX6_act_91 rfl ?_
  refine J_icmp_ne (tgt := 103) 92 dX6_act_92 (by decide) (fun _ => ?_) (fun c_5_ => absurd c_5_ (by decide))
  refine J_iload_n 103 2 dX6_act_103 rfl rfl ?_
  refine J_iconst (v := 2) 104 dX6_act_104 rfl ?_
  refine J_icmp_ne (tgt := 116) 105 dX6_act_105 (by decide) (fun c_6_ => absurd c_6_ (by decide)) (fun _ => ?_)
  refine J_aload_n 108 0 dX6_act_108 rfl rfl ?_
  refine J_iload_n 109 3 dX6_act_109 rfl rfl ?_
  refine kb_RX6_335 (bs' := [wMo o rw fr kp tr ik tp tm mso bg en wd va gd rs mu rm ss msz msh mho mhn mhz 5 (nI j) (te j) tc (0 + 2) 1, wMr G rw la ns sd to he sw nh ki te mi ar z, wI G mho 4 hof, wI G mhn 4 hnf, wI G tc 30 (pF [61, 12] tcf 0)]) (rest := []) (st' := [.int (0 - 0)]) 110 (c_X6_partsIt_5z l G x o rw fr kp tr ik tp tm mso bg en wd va gd rs mu rm ss msz msh mho mhn mhz (nI j) (te j) tc 0 tcf (by decide) hz) [0, 4] 0 rfl rfl rfl [[o], [tc]] rfl rfl rfl rfl rfl rfl (Nat.le_of_ble_eq_true rfl) rfl dX6_act_110 ?_
  refine J_goto (tgt := 121) 113 dX6_act_113 (by decide) ?_
  refine J_istore (lv' := [some (.ref o), some (.int (nI s)), some (.int 2), some (.int x), some (.int 5), some (.int (0 - 0))]) 121 dX6_act_121 (by decide) rfl ?_
  refine J_aload_n 123 0 dX6_act_123 rfl rfl ?_
  refine g_816 (v := .int 1) 124 0 rfl rfl dX6_act_124 ?_
  refine J_if_eq (tgt := 135) 127 dX6_act_127 (by decide) (fun c_7_ => absurd c_7_ (by decide)) (fun _ => ?_)
  refine J_bipush (v := (-15)) 130 dX6_act_130 rfl ?_
  refine J_goto (tgt := 137) 132 dX6_act_132 (by decide) ?_
  exact J_iret 137 dX6_act_137 rfl (cg1 (fun (x0_ : Nat) => (wF [wMo o rw fr kp tr ik tp tm mso bg en wd va gd rs mu rm ss msz msh mho mhn mhz 5 (nI j) (te j) tc x0_ 1, wMr G rw la ns sd to he sw nh ki te mi ar z, wI G mho 4 hof, wI G mhn 4 hnf, wI G tc 30 (pF [61, 12] tcf 0)])) (0 + 2) 2 rfl)
set_option maxRecDepth 100000 in
set_option maxHeartbeats 4000000 in
theorem c_X6_act_5_3 (l : Launch) (G : Gd) (s : Nat) (x : Int32) (j : Nat) (o : Nat) (rw : Nat) (fr : Nat) (kp : Nat) (tr : Nat) (ik : Int32) (tp : Nat) (tm : Nat) (mso : Int32) (bg : Nat) (en : Nat) (wd : Int64) (va : Int32) (gd : Int32) (rs : Nat) (mu : Nat) (rm : Nat) (ss : Nat) (msz : Nat) (msh : Nat) (mho : Nat) (mhn : Nat) (mhz : Nat) (kd : Int32) (nb : Int32) (tn : Int32) (tc : Nat) (bo : Nat) (ip : Int32) (la : Nat → Int32) (ns : Nat) (sd : Nat) (to : Nat → Int32) (he : Nat → Int32) (sw : Nat → Int32) (nh : Nat) (ki : Nat → Int32) (te : Nat → Int32) (mi : Nat → Int32) (ar : Nat → Int32) (z : Int32) (hof : Nat → Int32) (hnf : Nat → Int32) (tcf : Nat → Int32) (hs : s ≤ 3) (hho : hof s = 0) (hhn : hnf s = nI j) (hj : j < nh) (hnh : nh ≤ 8) (hk : ki j = 5) : Ct l G yX6_act cX6_act 6 (some (FieldType.int)) 8 [.ref o, .int (nI s), .int 3, .int x] (wF [wMo o rw fr kp tr ik tp tm mso bg en wd va gd rs mu rm ss msz msh mho mhn mhz kd nb tn tc bo ip, wMr G rw la ns sd to he sw nh ki te mi ar z, wI G mho 4 hof, wI G mhn 4 hnf, wI G tc 30 tcf]) (some (.int ((((x * 5 + (nI j)) - (te j)) ^^^ 150) * 2))) (wF [wMo o rw fr kp tr ik tp tm mso bg en wd va gd rs mu rm ss msz msh mho mhn mhz 5 (nI j) (te j) tc 4 0, wMr G rw la ns sd to he sw nh ki te mi ar z, wI G mho 4 hof, wI G mhn 4 hnf, wI G tc 30 (pF [60, 13, 11, 10] tcf 0)]) := by
  refine Ct.of "GooseArmsModel" [some (.ref o), some (.int (nI s)), some (.int 3), some (.int x), none, none] (by decide +kernel) rfl (Nat.le_of_ble_eq_true rfl) rfl ?_
  refine J_aload_n 0 0 dX6_act_0 rfl rfl ?_
  refine J_iconst (v := 0) 1 dX6_act_1 rfl ?_
  refine p_815 (ws' := (wF [wMo o rw fr kp tr ik tp tm mso bg en wd va gd rs mu rm ss msz msh mho mhn mhz kd nb tn tc 0 ip, wMr G rw la ns sd to he sw nh ki te mi ar z, wI G mho 4 hof, wI G mhn 4 hnf, wI G tc 30 tcf])) 2 0 rfl rfl rfl (Nat.le_of_ble_eq_true rfl) rfl dX6_act_2 ?_
  refine J_iload_n 5 1 dX6_act_5 rfl rfl ?_
  refine kb_RX6_262 (bs' := [wMo o rw fr kp tr ik tp tm mso bg en wd va gd rs mu rm ss msz msh mho mhn mhz kd nb tn tc 0 ip, wMr G rw la ns sd to he sw nh ki te mi ar z, wI G mho 4 hof, wI G mhn 4 hnf, wI G tc 30 tcf]) (rest := []) (st' := [.int 1]) 6 (c_X6_isShelf_t l G s (by first | omega | assumption)) [] rfl rfl [] rfl rfl rfl rfl rfl rfl (Nat.le_of_ble_eq_true rfl) rfl dX6_act_6 ?_
  refine J_if_eq (tgt := 20) 9 dX6_act_9 (by decide) (fun c_1_ => absurd c_1_ (by decide)) (fun _ => ?_)
  refine J_aload_n 12 0 dX6_act_12 rfl rfl ?_
  refine J_iload_n 13 1 dX6_act_13 rfl rfl ?_
  refine kb_RX6_290 (bs' := [wMo o rw fr kp tr ik tp tm mso bg en wd va gd rs mu rm ss msz msh mho mhn mhz kd nb tn tc 0 ip, wMr G rw la ns sd to he sw nh ki te mi ar z, wI G mho 4 hof, wI G mhn 4 hnf, wI G tc 30 tcf]) (rest := []) (st' := [.int (ki j)]) 14 (c_X6_kindOn_h l G s j o rw fr kp tr ik tp tm mso bg en wd va gd rs mu rm ss msz msh mho mhn mhz kd nb tn tc 0 ip la ns sd to he sw nh ki te mi ar z hof hnf (by first | omega | assumption) (by first | omega | assumption) (by first | omega | assumption) (by first | omega | assumption) (by first | omega | assumption)) [0, 1, 2, 3] 0 rfl rfl rfl [[o], [rw], [mho], [mhn]] rfl rfl rfl rfl rfl rfl (Nat.le_of_ble_eq_true rfl) rfl dX6_act_14 ?_
  refine J_topi (y := 5) 17 hk ?_
  refine J_goto (tgt := 21) 17 dX6_act_17 (by decide) ?_
  refine J_istore (lv' := [some (.ref o), some (.int (nI s)), some (.int 3), some (.int x), some (.int 5), none]) 21 dX6_act_21 (by decide) rfl ?_
  refine J_iload_n 23 2 dX6_act_23 rfl rfl ?_
  refine J_iconst (v := 0) 24 dX6_act_24 rfl ?_
  refine J_iconst (v := 3) 25 dX6_act_25 rfl ?_
  refine kb_RX6_57 (bs' := [wMo o rw fr kp tr ik tp tm mso bg en wd va gd rs mu rm ss msz msh mho mhn mhz kd nb tn tc 0 ip, wMr G rw la ns sd to he sw nh ki te mi ar z, wI G mho 4 hof, wI G mhn 4 hnf, wI G tc 30 tcf]) (rest := []) (st' := [.int 1]) 26 (c_X6_in_t l G 3 0 3 (by decide)) [] rfl rfl [] rfl rfl rfl rfl rfl rfl (Nat.le_of_ble_eq_true rfl) rfl dX6_act_26 ?_
  refine J_if_eq (tgt := 42) 29 dX6_act_29 (by decide) (fun c_2_ => absurd c_2_ (by decide)) (fun _ => ?_)
  refine J_iload 32 dX6_act_32 rfl ?_
  refine J_iconst (v := 0) 34 dX6_act_34 rfl ?_
  refine J_iconst (v := 5) 35 dX6_act_35 rfl ?_
  refine kb_RX6_57 (bs' := [wMo o rw fr kp tr ik tp tm mso bg en wd va gd rs mu rm ss msz msh mho mhn mhz kd nb tn tc 0 ip, wMr G rw la ns sd to he sw nh ki te mi ar z, wI G mho 4 hof, wI G mhn 4 hnf, wI G tc 30 tcf]) (rest := []) (st' := [.int 1]) 36 (c_X6_in_t l G 5 0 5 (by decide)) [] rfl rfl [] rfl rfl rfl rfl rfl rfl (Nat.le_of_ble_eq_true rfl) rfl dX6_act_36 ?_
  refine J_if_ne (tgt := 44) 39 dX6_act_39 (by decide) (fun _ => ?_) (fun c_3_ => absurd c_3_ (by decide))
  refine J_aload_n 44 0 dX6_act_44 rfl rfl ?_
  refine J_iload 45 dX6_act_45 rfl ?_
  refine p_811 (ws' := (wF [wMo o rw fr kp tr ik tp tm mso bg en wd va gd rs mu rm ss msz msh mho mhn mhz 5 nb tn tc 0 ip, wMr G rw la ns sd to he sw nh ki te mi ar z, wI G mho 4 hof, wI G mhn 4 hnf, wI G tc 30 tcf])) 47 0 rfl rfl rfl (Nat.le_of_ble_eq_true rfl) rfl dX6_act_47 ?_
  refine J_aload_n 50 0 dX6_act_50 rfl rfl ?_
  refine J_aload_n 51 0 dX6_act_51 rfl rfl ?_
  refine g_809 (v := .ref mhn) 52 0 rfl rfl dX6_act_52 ?_
  refine J_iload_n 55 1 dX6_act_55 rfl rfl ?_
  refine J_iald 56 3 s rfl rfl (by omega) (by decide) dX6_act_56 ?_
  refine J_topi (y := nI j) 57 hhn ?_
  refine p_812 (ws' := (wF [wMo o rw fr kp tr ik tp tm mso bg en wd va gd rs mu rm ss msz msh mho mhn mhz 5 (nI j) tn tc 0 ip, wMr G rw la ns sd to he sw nh ki te mi ar z, wI G mho 4 hof, wI G mhn 4 hnf, wI G tc 30 tcf])) 57 0 rfl rfl rfl (Nat.le_of_ble_eq_true rfl) rfl dX6_act_57 ?_
  refine J_aload_n 60 0 dX6_act_60 rfl rfl ?_
  refine J_aload_n 61 0 dX6_act_61 rfl rfl ?_
  refine J_aload_n 62 0 dX6_act_62 rfl rfl ?_
  refine g_812 (v := .int (nI j)) 63 0 rfl rfl dX6_act_63 ?_
  refine J_iconst (v := 1) 66 dX6_act_66 rfl ?_
  refine kb_RX6_187 (bs' := [wMo o rw fr kp tr ik tp tm mso bg en wd va gd rs mu rm ss msz msh mho mhn mhz 5 (nI j) tn tc 0 ip, wMr G rw la ns sd to he sw nh ki te mi ar z, wI G mho 4 hof, wI G mhn 4 hnf, wI G tc 30 tcf]) (rest := [.ref o]) (st' := [.int (te j), .ref o]) 67 (c_X6_its_1 l G j o rw fr kp tr ik tp tm mso bg en wd va gd rs mu rm ss msz msh mho mhn mhz 5 (nI j) tn tc 0 ip la ns sd to he sw nh ki te mi ar z (by first | omega | assumption)) [0, 1] 0 rfl rfl rfl [[o], [rw]] rfl rfl rfl rfl rfl rfl (Nat.le_of_ble_eq_true rfl) rfl dX6_act_67 ?_
  refine p_813 (ws' := (wF [wMo o rw fr kp tr ik tp tm mso bg en wd va gd rs mu rm ss msz msh mho mhn mhz 5 (nI j) (te j) tc 0 ip, wMr G rw la ns sd to he sw nh ki te mi ar z, wI G mho 4 hof, wI G mhn 4 hnf, wI G tc 30 tcf])) 70 0 rfl rfl rfl (Nat.le_of_ble_eq_true rfl) rfl dX6_act_70 ?_
  refine J_aload_n 73 0 dX6_act_73 rfl rfl ?_
  refine J_iconst (v := 0) 74 dX6_act_74 rfl ?_
  refine p_816 (ws' := (wF [wMo o rw fr kp tr ik tp tm mso bg en wd va gd rs mu rm ss msz msh mho mhn mhz 5 (nI j) (te j) tc 0 0, wMr G rw la ns sd to he sw nh ki te mi ar z, wI G mho 4 hof, wI G mhn 4 hnf, wI G tc 30 tcf])) 75 0 rfl rfl rfl (Nat.le_of_ble_eq_true rfl) rfl dX6_act_75 ?_
  refine J_iload_n 78 2 dX6_act_78 rfl rfl ?_
  refine J_if_ne (tgt := 90) 79 dX6_act_79 (by decide) (fun _ => ?_) (fun c_4_ => absurd c_4_ (by decide))
  refine J_iload_n 90 2 dX6_act_90 rfl rfl ?_
  refine J_iconst (v := 1) 91 dX6_act_91 rfl ?_
  refine J_icmp_ne (tgt := 103) 92 dX6_act_92 (by decide) (fun _ => ?_) (fun c_5_ => absurd c_5_ (by decide))
  refine J_iload_n 103 2 dX6_act_103 rfl rfl ?_
  refine J_iconst (v := 2) 104 dX6_act_104 rfl ?_
  refine J_icmp_ne (tgt := 116) 105 dX6_act_105 (by decide) (fun _ => ?_) (fun c_6_ => absurd c_6_ (by decide))
  refine J_aload_n 116 0 dX6_act_116 rfl rfl ?_
  refine J_iload_n 117 3 dX6_act_117 rfl rfl ?_
  refine kb_RX6_338 (bs' := [wMo o rw fr kp tr ik tp tm mso bg en wd va gd rs mu rm ss msz msh mho mhn mhz 5 (nI j) (te j) tc (0 + 4) 0, wMr G rw la ns sd to he sw nh ki te mi ar z, wI G mho 4 hof, wI G mhn 4 hnf, wI G tc 30 (pF [60, 13, 11, 10] tcf 0)]) (rest := []) (st' := [.int ((((x * 5 + (nI j)) - (te j)) ^^^ 150) * 2)]) 118 (c_X6_swearsIt_5 l G x o rw fr kp tr ik tp tm mso bg en wd va gd rs mu rm ss msz msh mho mhn mhz (nI j) (te j) tc 0 tcf (by decide)) [0, 4] 0 rfl rfl rfl [[o], [tc]] rfl rfl rfl rfl rfl rfl (Nat.le_of_ble_eq_true rfl) rfl dX6_act_118 ?_
  refine J_istore (lv' := [some (.ref o), some (.int (nI s)), some (.int 3), some (.int x), some (.int 5), some (.int ((((x * 5 + (nI j)) - (te j)) ^^^ 150) * 2))]) 121 dX6_act_121 (by decide) rfl ?_
  refine J_aload_n 123 0 dX6_act_123 rfl rfl ?_
  refine g_816 (v := .int 0) 124 0 rfl rfl dX6_act_124 ?_
  refine J_if_eq (tgt := 135) 127 dX6_act_127 (by decide) (fun _ => ?_) (fun c_7_ => absurd c_7_ (by decide))
  refine J_iload 135 dX6_act_135 rfl ?_
  exact J_iret 137 dX6_act_137 rfl (cg1 (fun (x0_ : Nat) => (wF [wMo o rw fr kp tr ik tp tm mso bg en wd va gd rs mu rm ss msz msh mho mhn mhz 5 (nI j) (te j) tc x0_ 0, wMr G rw la ns sd to he sw nh ki te mi ar z, wI G mho 4 hof, wI G mhn 4 hnf, wI G tc 30 (pF [60, 13, 11, 10] tcf 0)])) (0 + 4) 4 rfl)
set_option maxRecDepth 100000 in
set_option maxHeartbeats 4000000 in
theorem c_X6_powerOf (l : Launch) (G : Gd) (b : Int32) (n : Nat) (hn : n < 2147483648) : Ct l G yX6_powerOf cX6_powerOf 5 (some (FieldType.long)) 0 [.int b, .int (nI n)] (wF []) (some (.long (fPow (Int32.toInt64 b) n))) (wF []) := by
  refine Ct.of "GooseArmsModel" [some (.int b), some (.int (nI n)), none, none, none] (by decide +kernel) rfl (Nat.le_of_ble_eq_true rfl) rfl ?_
  have cut_5_ : ∀ (n_5_ : Nat) (i : Nat) (x : Int64), (n - i < n_5_) → (hk : i ≤ n) → (hx : x = fPow (Int32.toInt64 b) i) → J l G (bd G 0 (some (FieldType.long)) (some (.long (fPow (Int32.toInt64 b) n))) (wF [])) cX6_powerOf 5 "GooseArmsModel" 5 [some (.int b), some (.int (nI n)), some (.long x), none, some (.int (nI i))] [] (wF []) := by
    intro n_5_
    induction n_5_ with
    | zero => intro i x m_5_; exact absurd m_5_ (Nat.not_lt_zero _)
    | succ n_5_ ih_5_ =>
      intro i x m_5_ hk hx
      refine J_iload 5 dX6_powerOf_5 rfl ?_
      refine J_iload_n 7 1 dX6_powerOf_7 rfl rfl ?_
      refine J_icmp_ge (tgt := 22) 8 dX6_powerOf_8 (by decide) (fun c_1_ => ?_) (fun c_1_ => ?_)
      · skip
        have c_1_ : n ≤ i := (nI_leI (a := n) (b := i) (by omega) (by omega)).mp c_1_
        refine J_lload_n 22 2 dX6_powerOf_22 rfl rfl ?_
        exact J_lret 23 dX6_powerOf_23 (congrArg (fun x_ => some (Value.long x_)) (by rw [hx, show i = n by omega])) rfl
      · skip
        have c_1_ : ¬ n ≤ i := fun z_ => c_1_ ((nI_leI (a := n) (b := i) (by omega) (by omega)).mpr z_)
        refine J_lload_n 11 2 dX6_powerOf_11 rfl rfl ?_
        refine J_iload_n 12 0 dX6_powerOf_12 rfl rfl ?_
        refine J_i2l 13 dX6_powerOf_13 ?_
        refine J_lmul 14 dX6_powerOf_14 ?_
        refine J_lstore_n (lv' := [some (.int b), some (.int (nI n)), some (.long (x * b.toInt64)), none, some (.int (nI i))]) 15 2 dX6_powerOf_15 rfl (by decide) rfl ?_
        refine J_iinc (v := nI (i + 1)) (lv' := [some (.int b), some (.int (nI n)), some (.long (x * b.toInt64)), none, some (.int (nI (i + 1)))]) 16 dX6_powerOf_16 rfl (nI_add _ 1) (by decide) rfl ?_
        refine J_goto (tgt := 5) 19 dX6_powerOf_19 (by decide) ?_
        exact ih_5_ (i + 1) (x * b.toInt64) (by omega) (by first | assumption | omega | rfl) (by first | rfl | (rw [hx]; rfl))
  refine J_lconst (v := 1) 0 dX6_powerOf_0 rfl ?_
  refine J_lstore_n (lv' := [some (.int b), some (.int (nI n)), some (.long 1), none, none]) 1 2 dX6_powerOf_1 rfl (by decide) rfl ?_
  refine J_iconst (v := 0) 2 dX6_powerOf_2 rfl ?_
  refine J_istore (lv' := [some (.int b), some (.int (nI n)), some (.long 1), none, some (.int 0)]) 3 dX6_powerOf_3 (by decide) rfl ?_
  exact cut_5_ ((n - 0) + 1) 0 1 (Nat.lt_succ_self _) (by first | assumption | omega | rfl) (by first | rfl | (rw [hx]; rfl))
set_option maxRecDepth 100000 in
set_option maxHeartbeats 4000000 in
theorem c_X6_lowest (l : Launch) (G : Gd) (A : Nat) (B : Nat) (p : Int32) (hA : A < 2 ^ 62) (hB : B < 2 ^ 62) (hB0 : 0 < B) : Ct l G yX6_lowest cX6_lowest 11 (some (FieldType.long)) 0 [.long (lN A), .long (lN B), .int p] (wF []) (some (.long (mPt A B p))) (wF []) := by
  refine Ct.of "GooseArmsModel" [some (.long (lN A)), none, some (.long (lN B)), none, some (.int p), none, none, none, none, none, none] (by decide +kernel) rfl (Nat.le_of_ble_eq_true rfl) rfl ?_
  have cut_6_ : ∀ (n_6_ : Nat) (x : Nat) (y : Nat), (y < n_6_) → (hx : x < 2 ^ 62) → (hy : y < 2 ^ 62) → (hx0 : y = 0 → 0 < x) → (hg : Nat.gcd x y = Nat.gcd A B) → J l G (bd G 0 (some (FieldType.long)) (some (.long (mPt A B p))) (wF [])) cX6_lowest 11 "GooseArmsModel" 6 [some (.long (lN A)), none, some (.long (lN B)), none, some (.int p), some (.long (lN x)), none, some (.long (lN y)), none, none, none] [] (wF []) := by
    intro n_6_
    induction n_6_ with
    | zero => intro x y m_6_; exact absurd m_6_ (Nat.not_lt_zero _)
    | succ n_6_ ih_6_ =>
      intro x y m_6_ hx hy hx0 hg
      refine J_lload 6 dX6_lowest_6 rfl ?_
      refine J_lconst (v := 0) 8 dX6_lowest_8 rfl ?_
      refine J_lcmp 9 dX6_lowest_9 ?_
      refine J_if_eq (tgt := 31) 10 dX6_lowest_10 (by decide) (fun c_1_ => ?_) (fun c_1_ => ?_)
      · skip
        have hy0_ : y = 0 := (lcN0 (by omega)).mp c_1_
        have hxp_ := hx0 hy0_
        have hgx_ : x = Nat.gcd A B := by rw [← hg, hy0_, Nat.gcd_zero_right]
        refine J_iload 31 dX6_lowest_31 rfl ?_
        refine J_if_ne (tgt := 43) 33 dX6_lowest_33 (by decide) (fun c_2_ => ?_) (fun c_2_ => ?_)
        · skip
          refine J_lload_n 43 2 dX6_lowest_43 rfl rfl ?_
          refine J_lload 44 dX6_lowest_44 rfl ?_
          refine J_ldiv 46 dX6_lowest_46 (fun z_ => absurd ((pk_lEQ (a := x) (b := 0) (by omega) (by decide)).mp z_) (by omega)) ?_
          refine J_topl (y := lN (B / x)) 47 (pk_lDiv (by omega) hxp_ (by omega)) ?_
          exact J_lret 47 dX6_lowest_47 (congrArg (fun x_ => some (Value.long x_)) (by unfold mPt; first | exact ((if_pos (by assumption)).trans (by rw [← hgx_])).symm | exact ((if_neg (by assumption)).trans (by rw [← hgx_])).symm)) rfl
        · skip
          refine J_lload_n 36 0 dX6_lowest_36 rfl rfl ?_
          refine J_lload 37 dX6_lowest_37 rfl ?_
          refine J_ldiv 39 dX6_lowest_39 (fun z_ => absurd ((pk_lEQ (a := x) (b := 0) (by omega) (by decide)).mp z_) (by omega)) ?_
          refine J_topl (y := lN (A / x)) 40 (pk_lDiv (by omega) hxp_ (by omega)) ?_
          refine J_goto (tgt := 47) 40 dX6_lowest_40 (by decide) ?_
          exact J_lret 47 dX6_lowest_47 (congrArg (fun x_ => some (Value.long x_)) (by unfold mPt; first | exact ((if_pos (by assumption)).trans (by rw [← hgx_])).symm | exact ((if_neg (by assumption)).trans (by rw [← hgx_])).symm)) rfl
      · skip
        have hy1_ : ¬ y = 0 := fun z_ => c_1_ ((lcN0 (by omega)).mpr z_)
        have hyl_ := Nat.mod_lt x (show 0 < y by omega)
        refine J_lload 13 dX6_lowest_13 rfl ?_
        refine J_lload 15 dX6_lowest_15 rfl ?_
        refine J_lrem 17 dX6_lowest_17 (fun z_ => hy1_ ((pk_lEQ (a := y) (b := 0) (by omega) (by decide)).mp z_)) ?_
        refine J_topl (y := lN (x % y)) 18 (pk_lRem (by omega) (by omega) (by omega)) ?_
        refine J_lstore (lv' := [some (.long (lN A)), none, some (.long (lN B)), none, some (.int p), some (.long (lN x)), none, some (.long (lN y)), none, some (.long (lN (x % y))), none]) 18 dX6_lowest_18 (by decide) rfl ?_
        refine J_lload 20 dX6_lowest_20 rfl ?_
        refine J_lstore (lv' := [some (.long (lN A)), none, some (.long (lN B)), none, some (.int p), some (.long (lN y)), none, some (.long (lN y)), none, some (.long (lN (x % y))), none]) 22 dX6_lowest_22 (by decide) rfl ?_
        refine J_lload 24 dX6_lowest_24 rfl ?_
        refine J_lstore (lv' := [some (.long (lN A)), none, some (.long (lN B)), none, some (.int p), some (.long (lN y)), none, some (.long (lN (x % y))), none, some (.long (lN (x % y))), none]) 26 dX6_lowest_26 (by decide) rfl ?_
        refine J_goto (tgt := 6) 28 dX6_lowest_28 (by decide) ?_
        refine J_mask (lv' := [some (.long (lN A)), none, some (.long (lN B)), none, some (.int p), some (.long (lN y)), none, some (.long (lN (x % y))), none, none, none]) 6 [true, true, true, true, true, true, true, true, true, false, true] rfl ?_
        exact ih_6_ y (x % y) (by omega) (by first | assumption | omega | rfl) (by first | assumption | omega | rfl) (fun _ => by omega) (by first | exact gcd_s hg | exact Nat.gcd_comm _ _)
  refine J_lload_n 0 2 dX6_lowest_0 rfl rfl ?_
  refine J_lstore (lv' := [some (.long (lN A)), none, some (.long (lN B)), none, some (.int p), some (.long (lN B)), none, none, none, none, none]) 1 dX6_lowest_1 (by decide) rfl ?_
  refine J_lload_n 3 0 dX6_lowest_3 rfl rfl ?_
  refine J_lstore (lv' := [some (.long (lN A)), none, some (.long (lN B)), none, some (.int p), some (.long (lN B)), none, some (.long (lN A)), none, none, none]) 4 dX6_lowest_4 (by decide) rfl ?_
  exact cut_6_ (A + 1) B A (Nat.lt_succ_self _) (by first | assumption | omega | rfl) (by first | assumption | omega | rfl) (fun _ => by omega) (by first | exact gcd_s hg | exact Nat.gcd_comm _ _)
set_option maxRecDepth 100000 in
set_option maxHeartbeats 4000000 in
theorem c_X6_odds_bad (l : Launch) (G : Gd) (n : Int32) (k : Int32) (p : Int32) (o : Nat) (rw : Nat) (fr : Nat) (kp : Nat) (tr : Nat) (ik : Int32) (tp : Nat) (tm : Nat) (mso : Int32) (bg : Nat) (en : Nat) (wd : Int64) (va : Int32) (gd : Int32) (rs : Nat) (mu : Nat) (rm : Nat) (ss : Nat) (msz : Nat) (msh : Nat) (mho : Nat) (mhn : Nat) (mhz : Nat) (kd : Int32) (nb : Int32) (tn : Int32) (tc : Nat) (bo : Nat) (ip : Int32) (hw : ¬ ((0 ≤ n ∧ n ≤ 8) ∧ (0 ≤ k ∧ k ≤ n) ∧ (0 ≤ p ∧ p ≤ 1))) : Ct l G yX6_odds cX6_odds 7 (some (FieldType.long)) 1 [.ref o, .int n, .int k, .int p] (wF [wMo o rw fr kp tr ik tp tm mso bg en wd va gd rs mu rm ss msz msh mho mhn mhz kd nb tn tc bo ip]) (some (.long (-1))) (wF [wMo o rw fr kp tr ik tp tm mso bg en wd va gd rs mu rm ss msz msh mho mhn mhz kd nb tn tc bo ip]) := by
  refine Ct.of "GooseArmsModel" [some (.ref o), some (.int n), some (.int k), some (.int p), none, none, none] (by decide +kernel) rfl (Nat.le_of_ble_eq_true rfl) rfl ?_
  refine J_iload_n 0 1 dX6_odds_0 rfl rfl ?_
  refine J_iconst (v := 0) 1 dX6_odds_1 rfl ?_
  refine J_bipush (v := 8) 2 dX6_odds_2 rfl ?_
  refine kb_RX6_57 (bs' := [wMo o rw fr kp tr ik tp tm mso bg en wd va gd rs mu rm ss msz msh mho mhn mhz kd nb tn tc bo ip]) (rest := []) (st' := [.int (bI (0 ≤ n ∧ n ≤ 8))]) 4 (c_X6_in l G n 0 8 ) [] rfl rfl [] rfl rfl rfl rfl rfl rfl (Nat.le_of_ble_eq_true rfl) rfl dX6_odds_4 ?_
  refine J_ifB_eq (tgt := 28) 7 dX6_odds_7 (by decide) (fun c_1_ => ?_) (fun c_1_ => ?_)
  · skip
    refine J_ldc2 (v := (-1)) 28 w_902 dX6_odds_28 ?_
    exact J_lret 31 dX6_odds_31 rfl rfl
  · skip
    refine J_iload_n 10 2 dX6_odds_10 rfl rfl ?_
    refine J_iconst (v := 0) 11 dX6_odds_11 rfl ?_
    refine J_iload_n 12 1 dX6_odds_12 rfl rfl ?_
    refine kb_RX6_57 (bs' := [wMo o rw fr kp tr ik tp tm mso bg en wd va gd rs mu rm ss msz msh mho mhn mhz kd nb tn tc bo ip]) (rest := []) (st' := [.int (bI (0 ≤ k ∧ k ≤ n))]) 13 (c_X6_in l G k 0 n ) [] rfl rfl [] rfl rfl rfl rfl rfl rfl (Nat.le_of_ble_eq_true rfl) rfl dX6_odds_13 ?_
    refine J_ifB_eq (tgt := 28) 16 dX6_odds_16 (by decide) (fun c_2_ => ?_) (fun c_2_ => ?_)
    · skip
      refine J_ldc2 (v := (-1)) 28 w_902 dX6_odds_28 ?_
      exact J_lret 31 dX6_odds_31 rfl rfl
    · skip
      refine J_iload_n 19 3 dX6_odds_19 rfl rfl ?_
      refine J_iconst (v := 0) 20 dX6_odds_20 rfl ?_
      refine J_iconst (v := 1) 21 dX6_odds_21 rfl ?_
      refine kb_RX6_57 (bs' := [wMo o rw fr kp tr ik tp tm mso bg en wd va gd rs mu rm ss msz msh mho mhn mhz kd nb tn tc bo ip]) (rest := []) (st' := [.int (bI (0 ≤ p ∧ p ≤ 1))]) 22 (c_X6_in l G p 0 1 ) [] rfl rfl [] rfl rfl rfl rfl rfl rfl (Nat.le_of_ble_eq_true rfl) rfl dX6_odds_22 ?_
      refine J_ifB_ne (tgt := 32) 25 dX6_odds_25 (by decide) (fun c_3_ => ?_) (fun c_3_ => ?_)
      · skip
        exact absurd ⟨by assumption, by assumption, by assumption⟩ hw
      · skip
        refine J_ldc2 (v := (-1)) 28 w_902 dX6_odds_28 ?_
        exact J_lret 31 dX6_odds_31 rfl rfl
set_option maxRecDepth 100000 in
set_option maxHeartbeats 4000000 in
theorem c_X6_odds_ok (l : Launch) (G : Gd) (n : Nat) (k : Nat) (pd : Nat) (p : Int32) (o : Nat) (rw : Nat) (fr : Nat) (kp : Nat) (tr : Nat) (ik : Int32) (tp : Nat) (tm : Nat) (mso : Int32) (bg : Nat) (en : Nat) (wd : Int64) (va : Int32) (gd : Int32) (rs : Nat) (mu : Nat) (rm : Nat) (ss : Nat) (msz : Nat) (msh : Nat) (mho : Nat) (mhn : Nat) (mhz : Nat) (kd : Int32) (nb : Int32) (tn : Int32) (tc : Nat) (bo : Nat) (ip : Int32) (la : Nat → Int32) (ns : Nat) (sd : Nat) (to : Nat → Int32) (he : Nat → Int32) (sw : Nat → Int32) (nh : Nat) (ki : Nat → Int32) (te : Nat → Int32) (mi : Nat → Int32) (ar : Nat → Int32) (z : Int32) (hn : n ≤ 8) (hk : k ≤ n) (hp : 0 ≤ p ∧ p ≤ 1) (hp3 : la 3 = nI pd) (hpd : pd ≤ 99) : Ct l G yX6_odds cX6_odds 7 (some (FieldType.long)) 1 [.ref o, .int (nI n), .int (nI k), .int p] (wF [wMo o rw fr kp tr ik tp tm mso bg en wd va gd rs mu rm ss msz msh mho mhn mhz kd nb tn tc bo ip, wMr G rw la ns sd to he sw nh ki te mi ar z]) (some (.long (mPt (mWN n k * pd ^ k * (100 - pd) ^ (n - k)) (100 ^ n) p))) (wF [wMo o rw fr kp tr ik tp tm mso bg en wd va gd rs mu rm ss msz msh mho mhn mhz kd nb tn tc bo ip, wMr G rw la ns sd to he sw nh ki te mi ar z]) := by
  refine Ct.of "GooseArmsModel" [some (.ref o), some (.int (nI n)), some (.int (nI k)), some (.int p), none, none, none] (by decide +kernel) rfl (Nat.le_of_ble_eq_true rfl) rfl ?_
  have cut_38_ : ∀ (n_38_ : Nat) (i : Nat), (k - i < n_38_) → (hi : i ≤ k) → J l G (bd G 1 (some (FieldType.long)) (some (.long (mPt (mWN n k * pd ^ k * (100 - pd) ^ (n - k)) (100 ^ n) p))) (wF [wMo o rw fr kp tr ik tp tm mso bg en wd va gd rs mu rm ss msz msh mho mhn mhz kd nb tn tc bo ip, wMr G rw la ns sd to he sw nh ki te mi ar z])) cX6_odds 7 "GooseArmsModel" 38 [some (.ref o), some (.int (nI n)), some (.int (nI k)), some (.int p), some (.long (lN (mWN n i))), none, some (.int (nI i))] [] (wF [wMo o rw fr kp tr ik tp tm mso bg en wd va gd rs mu rm ss msz msh mho mhn mhz kd nb tn tc bo ip, wMr G rw la ns sd to he sw nh ki te mi ar z]) := by
    intro n_38_
    induction n_38_ with
    | zero => intro i m_38_; exact absurd m_38_ (Nat.not_lt_zero _)
    | succ n_38_ ih_38_ =>
      intro i m_38_ hi
      refine J_iload 38 dX6_odds_38 rfl ?_
      refine J_iload_n 40 2 dX6_odds_40 rfl rfl ?_
      refine J_icmp_ge (tgt := 66) 41 dX6_odds_41 (by decide) (fun c_1_ => ?_) (fun c_1_ => ?_)
      · skip
        have c_1_ : k ≤ i := (nI_leI (a := k) (b := i) (by omega) (by omega)).mp c_1_
        refine J_lload 66 dX6_odds_66 rfl ?_
        refine J_topl (y := lN (mWN n k)) 68 (by rw [show i = k by omega]) ?_
        refine J_aload_n 68 0 dX6_odds_68 rfl rfl ?_
        refine g_789 (v := .ref rw) 69 0 rfl rfl dX6_odds_69 ?_
        refine J_iconst (v := 3) 72 dX6_odds_72 rfl ?_
        refine J_iald 73 1 3 rfl rfl (by omega) (by decide) dX6_odds_73 ?_
        refine J_topi (y := la 3) 74 (fR_la (j := 3) (by first | rfl | omega) (by omega)) ?_
        refine J_iload_n 74 2 dX6_odds_74 rfl rfl ?_
        refine kb_RX6_268 (bs' := [wMo o rw fr kp tr ik tp tm mso bg en wd va gd rs mu rm ss msz msh mho mhn mhz kd nb tn tc bo ip, wMr G rw la ns sd to he sw nh ki te mi ar z]) (rest := [.long (lN (mWN n k))]) (st' := [.long (fPow (Int32.toInt64 (la 3)) k), .long (lN (mWN n k))]) 75 (c_X6_powerOf l G (la 3) k (by omega)) [] rfl rfl [] rfl rfl rfl rfl rfl rfl (Nat.le_of_ble_eq_true rfl) rfl dX6_odds_75 ?_
        refine J_lmul 78 dX6_odds_78 ?_
        refine J_bipush (v := 100) 79 dX6_odds_79 rfl ?_
        refine J_aload_n 81 0 dX6_odds_81 rfl rfl ?_
        refine g_789 (v := .ref rw) 82 0 rfl rfl dX6_odds_82 ?_
        refine J_iconst (v := 3) 85 dX6_odds_85 rfl ?_
        refine J_iald 86 1 3 rfl rfl (by omega) (by decide) dX6_odds_86 ?_
        refine J_topi (y := la 3) 87 (fR_la (j := 3) (by first | rfl | omega) (by omega)) ?_
        refine J_isub 87 dX6_odds_87 ?_
        refine J_iload_n 88 1 dX6_odds_88 rfl rfl ?_
        refine J_iload_n 89 2 dX6_odds_89 rfl rfl ?_
        refine J_isub 90 dX6_odds_90 ?_
        refine J_topi (y := nI (n - k)) 91 (pk_sub (by omega)) ?_
        refine kb_RX6_268 (bs' := [wMo o rw fr kp tr ik tp tm mso bg en wd va gd rs mu rm ss msz msh mho mhn mhz kd nb tn tc bo ip, wMr G rw la ns sd to he sw nh ki te mi ar z]) (rest := [.long ((lN (mWN n k)) * (fPow (Int32.toInt64 (la 3)) k))]) (st' := [.long (fPow (Int32.toInt64 (100 - (la 3))) (n - k)), .long ((lN (mWN n k)) * (fPow (Int32.toInt64 (la 3)) k))]) 91 (c_X6_powerOf l G (100 - (la 3)) (n - k) (by omega)) [] rfl rfl [] rfl rfl rfl rfl rfl rfl (Nat.le_of_ble_eq_true rfl) rfl dX6_odds_91 ?_
        refine J_lmul 94 dX6_odds_94 ?_
        refine J_topl (y := lN (mWN n k * pd ^ k * (100 - pd) ^ (n - k))) 95 (od_ab hp3 hpd hn hk) ?_
        refine J_bipush (v := 100) 95 dX6_odds_95 rfl ?_
        refine J_iload_n 97 1 dX6_odds_97 rfl rfl ?_
        refine kb_RX6_268 (bs' := [wMo o rw fr kp tr ik tp tm mso bg en wd va gd rs mu rm ss msz msh mho mhn mhz kd nb tn tc bo ip, wMr G rw la ns sd to he sw nh ki te mi ar z]) (rest := [.long (lN (mWN n k * pd ^ k * (100 - pd) ^ (n - k)))]) (st' := [.long (fPow (Int32.toInt64 100) n), .long (lN (mWN n k * pd ^ k * (100 - pd) ^ (n - k)))]) 98 (c_X6_powerOf l G 100 n (by omega)) [] rfl rfl [] rfl rfl rfl rfl rfl rfl (Nat.le_of_ble_eq_true rfl) rfl dX6_odds_98 ?_
        refine J_topl (y := lN (100 ^ n)) 101 (fPow_N (p := 100) n) ?_
        refine J_iload_n 101 3 dX6_odds_101 rfl rfl ?_
        refine kb_RX6_272 (bs' := [wMo o rw fr kp tr ik tp tm mso bg en wd va gd rs mu rm ss msz msh mho mhn mhz kd nb tn tc bo ip, wMr G rw la ns sd to he sw nh ki te mi ar z]) (rest := []) (st' := [.long (mPt (mWN n k * pd ^ k * (100 - pd) ^ (n - k)) (100 ^ n) p)]) 102 (c_X6_lowest l G (mWN n k * pd ^ k * (100 - pd) ^ (n - k)) (100 ^ n) p (ab_b (by omega) hk hn) (Nat.lt_of_le_of_lt (pw_b (Nat.le_refl 100) hn) (by decide)) (Nat.pow_pos (by decide))) [] rfl rfl [] rfl rfl rfl rfl rfl rfl (Nat.le_of_ble_eq_true rfl) rfl dX6_odds_102 ?_
        exact J_lret 105 dX6_odds_105 rfl rfl
      · skip
        have c_1_ : ¬ k ≤ i := fun z_ => c_1_ ((nI_leI (a := k) (b := i) (by omega) (by omega)).mpr z_)
        refine J_lload 44 dX6_odds_44 rfl ?_
        refine J_iload_n 46 1 dX6_odds_46 rfl rfl ?_
        refine J_iload 47 dX6_odds_47 rfl ?_
        refine J_isub 49 dX6_odds_49 ?_
        refine J_i2l 50 dX6_odds_50 ?_
        refine J_lmul 51 dX6_odds_51 ?_
        refine J_iload 52 dX6_odds_52 rfl ?_
        refine J_iconst (v := 1) 54 dX6_odds_54 rfl ?_
        refine J_iadd 55 dX6_odds_55 ?_
        refine J_topi (y := nI (i + 1)) 56 (nI_add i 1) ?_
        refine J_i2l 56 dX6_odds_56 ?_
        refine J_ldiv 57 dX6_odds_57 (tI64_ne (by omega) (by omega)) ?_
        refine J_topl (y := lN (mWN n (i + 1))) 58 (wn_s hn (by omega)) ?_
        refine J_lstore (lv' := [some (.ref o), some (.int (nI n)), some (.int (nI k)), some (.int p), some (.long (lN (mWN n (i + 1)))), none, some (.int (nI i))]) 58 dX6_odds_58 (by decide) rfl ?_
        refine J_iinc (v := nI (i + 1)) (lv' := [some (.ref o), some (.int (nI n)), some (.int (nI k)), some (.int p), some (.long (lN (mWN n (i + 1)))), none, some (.int (nI (i + 1)))]) 60 dX6_odds_60 rfl (nI_add _ 1) (by decide) rfl ?_
        refine J_goto (tgt := 38) 63 dX6_odds_63 (by decide) ?_
        exact ih_38_ (i + 1) (by omega) (by first | assumption | omega | rfl)
  refine J_iload_n 0 1 dX6_odds_0 rfl rfl ?_
  refine J_iconst (v := 0) 1 dX6_odds_1 rfl ?_
  refine J_bipush (v := 8) 2 dX6_odds_2 rfl ?_
  refine kb_RX6_57 (bs' := [wMo o rw fr kp tr ik tp tm mso bg en wd va gd rs mu rm ss msz msh mho mhn mhz kd nb tn tc bo ip, wMr G rw la ns sd to he sw nh ki te mi ar z]) (rest := []) (st' := [.int 1]) 4 (c_X6_in_t l G (nI n) 0 8 (inL_t (j := n) (m := 8) hn (by decide))) [] rfl rfl [] rfl rfl rfl rfl rfl rfl (Nat.le_of_ble_eq_true rfl) rfl dX6_odds_4 ?_
  refine J_if_eq (tgt := 28) 7 dX6_odds_7 (by decide) (fun c_2_ => absurd c_2_ (by decide)) (fun _ => ?_)
  refine J_iload_n 10 2 dX6_odds_10 rfl rfl ?_
  refine J_iconst (v := 0) 11 dX6_odds_11 rfl ?_
  refine J_iload_n 12 1 dX6_odds_12 rfl rfl ?_
  refine kb_RX6_57 (bs' := [wMo o rw fr kp tr ik tp tm mso bg en wd va gd rs mu rm ss msz msh mho mhn mhz kd nb tn tc bo ip, wMr G rw la ns sd to he sw nh ki te mi ar z]) (rest := []) (st' := [.int 1]) 13 (c_X6_in_t l G (nI k) 0 (nI n) (inL_t hk (by omega))) [] rfl rfl [] rfl rfl rfl rfl rfl rfl (Nat.le_of_ble_eq_true rfl) rfl dX6_odds_13 ?_
  refine J_if_eq (tgt := 28) 16 dX6_odds_16 (by decide) (fun c_3_ => absurd c_3_ (by decide)) (fun _ => ?_)
  refine J_iload_n 19 3 dX6_odds_19 rfl rfl ?_
  refine J_iconst (v := 0) 20 dX6_odds_20 rfl ?_
  refine J_iconst (v := 1) 21 dX6_odds_21 rfl ?_
  refine kb_RX6_57 (bs' := [wMo o rw fr kp tr ik tp tm mso bg en wd va gd rs mu rm ss msz msh mho mhn mhz kd nb tn tc bo ip, wMr G rw la ns sd to he sw nh ki te mi ar z]) (rest := []) (st' := [.int 1]) 22 (c_X6_in_t l G p 0 1 hp) [] rfl rfl [] rfl rfl rfl rfl rfl rfl (Nat.le_of_ble_eq_true rfl) rfl dX6_odds_22 ?_
  refine J_if_ne (tgt := 32) 25 dX6_odds_25 (by decide) (fun _ => ?_) (fun c_4_ => absurd c_4_ (by decide))
  refine J_lconst (v := 1) 32 dX6_odds_32 rfl ?_
  refine J_topl (y := lN (mWN n 0)) 33 rfl ?_
  refine J_lstore (lv' := [some (.ref o), some (.int (nI n)), some (.int (nI k)), some (.int p), some (.long (lN (mWN n 0))), none, none]) 33 dX6_odds_33 (by decide) rfl ?_
  refine J_iconst (v := 0) 35 dX6_odds_35 rfl ?_
  refine J_istore (lv' := [some (.ref o), some (.int (nI n)), some (.int (nI k)), some (.int p), some (.long (lN (mWN n 0))), none, some (.int 0)]) 36 dX6_odds_36 (by decide) rfl ?_
  exact cut_38_ ((k - 0) + 1) 0 (Nat.lt_succ_self _) (by first | assumption | omega | rfl)
set_option maxRecDepth 100000 in
set_option maxHeartbeats 4000000 in
theorem c_X6_hope_bad (l : Launch) (G : Gd) (n : Int32) (p : Int32) (o : Nat) (rw : Nat) (fr : Nat) (kp : Nat) (tr : Nat) (ik : Int32) (tp : Nat) (tm : Nat) (mso : Int32) (bg : Nat) (en : Nat) (wd : Int64) (va : Int32) (gd : Int32) (rs : Nat) (mu : Nat) (rm : Nat) (ss : Nat) (msz : Nat) (msh : Nat) (mho : Nat) (mhn : Nat) (mhz : Nat) (kd : Int32) (nb : Int32) (tn : Int32) (tc : Nat) (bo : Nat) (ip : Int32) (hw : ¬ ((0 ≤ n ∧ n ≤ 99) ∧ (0 ≤ p ∧ p ≤ 1))) : Ct l G yX6_hope cX6_hope 3 (some (FieldType.long)) 1 [.ref o, .int n, .int p] (wF [wMo o rw fr kp tr ik tp tm mso bg en wd va gd rs mu rm ss msz msh mho mhn mhz kd nb tn tc bo ip]) (some (.long (-1))) (wF [wMo o rw fr kp tr ik tp tm mso bg en wd va gd rs mu rm ss msz msh mho mhn mhz kd nb tn tc bo ip]) := by
  refine Ct.of "GooseArmsModel" [some (.ref o), some (.int n), some (.int p)] (by decide +kernel) rfl (Nat.le_of_ble_eq_true rfl) rfl ?_
  refine J_iload_n 0 1 dX6_hope_0 rfl rfl ?_
  refine J_iconst (v := 0) 1 dX6_hope_1 rfl ?_
  refine J_bipush (v := 99) 2 dX6_hope_2 rfl ?_
  refine kb_RX6_57 (bs' := [wMo o rw fr kp tr ik tp tm mso bg en wd va gd rs mu rm ss msz msh mho mhn mhz kd nb tn tc bo ip]) (rest := []) (st' := [.int (bI (0 ≤ n ∧ n ≤ 99))]) 4 (c_X6_in l G n 0 99 ) [] rfl rfl [] rfl rfl rfl rfl rfl rfl (Nat.le_of_ble_eq_true rfl) rfl dX6_hope_4 ?_
  refine J_ifB_eq (tgt := 39) 7 dX6_hope_7 (by decide) (fun c_1_ => ?_) (fun c_1_ => ?_)
  · skip
    refine J_ldc2 (v := (-1)) 39 w_902 dX6_hope_39 ?_
    exact J_lret 42 dX6_hope_42 rfl rfl
  · skip
    refine J_iload_n 10 2 dX6_hope_10 rfl rfl ?_
    refine J_iconst (v := 0) 11 dX6_hope_11 rfl ?_
    refine J_iconst (v := 1) 12 dX6_hope_12 rfl ?_
    refine kb_RX6_57 (bs' := [wMo o rw fr kp tr ik tp tm mso bg en wd va gd rs mu rm ss msz msh mho mhn mhz kd nb tn tc bo ip]) (rest := []) (st' := [.int (bI (0 ≤ p ∧ p ≤ 1))]) 13 (c_X6_in l G p 0 1 ) [] rfl rfl [] rfl rfl rfl rfl rfl rfl (Nat.le_of_ble_eq_true rfl) rfl dX6_hope_13 ?_
    refine J_ifB_eq (tgt := 39) 16 dX6_hope_16 (by decide) (fun c_2_ => ?_) (fun c_2_ => ?_)
    · skip
      refine J_ldc2 (v := (-1)) 39 w_902 dX6_hope_39 ?_
      exact J_lret 42 dX6_hope_42 rfl rfl
    · skip
      exact absurd ⟨by assumption, by assumption⟩ hw
set_option maxRecDepth 100000 in
set_option maxHeartbeats 4000000 in
theorem c_X6_hope_ok (l : Launch) (G : Gd) (n : Nat) (pd : Nat) (p : Int32) (o : Nat) (rw : Nat) (fr : Nat) (kp : Nat) (tr : Nat) (ik : Int32) (tp : Nat) (tm : Nat) (mso : Int32) (bg : Nat) (en : Nat) (wd : Int64) (va : Int32) (gd : Int32) (rs : Nat) (mu : Nat) (rm : Nat) (ss : Nat) (msz : Nat) (msh : Nat) (mho : Nat) (mhn : Nat) (mhz : Nat) (kd : Int32) (nb : Int32) (tn : Int32) (tc : Nat) (bo : Nat) (ip : Int32) (la : Nat → Int32) (ns : Nat) (sd : Nat) (to : Nat → Int32) (he : Nat → Int32) (sw : Nat → Int32) (nh : Nat) (ki : Nat → Int32) (te : Nat → Int32) (mi : Nat → Int32) (ar : Nat → Int32) (z : Int32) (hn : n ≤ 99) (hp : 0 ≤ p ∧ p ≤ 1) (hp3 : la 3 = nI pd) (hpd : pd ≤ 99) : Ct l G yX6_hope cX6_hope 3 (some (FieldType.long)) 1 [.ref o, .int (nI n), .int p] (wF [wMo o rw fr kp tr ik tp tm mso bg en wd va gd rs mu rm ss msz msh mho mhn mhz kd nb tn tc bo ip, wMr G rw la ns sd to he sw nh ki te mi ar z]) (some (.long (mPt (n * pd) 100 p))) (wF [wMo o rw fr kp tr ik tp tm mso bg en wd va gd rs mu rm ss msz msh mho mhn mhz kd nb tn tc bo ip, wMr G rw la ns sd to he sw nh ki te mi ar z]) := by
  refine Ct.of "GooseArmsModel" [some (.ref o), some (.int (nI n)), some (.int p)] (by decide +kernel) rfl (Nat.le_of_ble_eq_true rfl) rfl ?_
  refine J_iload_n 0 1 dX6_hope_0 rfl rfl ?_
  refine J_iconst (v := 0) 1 dX6_hope_1 rfl ?_
  refine J_bipush (v := 99) 2 dX6_hope_2 rfl ?_
  refine kb_RX6_57 (bs' := [wMo o rw fr kp tr ik tp tm mso bg en wd va gd rs mu rm ss msz msh mho mhn mhz kd nb tn tc bo ip, wMr G rw la ns sd to he sw nh ki te mi ar z]) (rest := []) (st' := [.int 1]) 4 (c_X6_in_t l G (nI n) 0 99 (inL_t (j := n) (m := 99) hn (by decide))) [] rfl rfl [] rfl rfl rfl rfl rfl rfl (Nat.le_of_ble_eq_true rfl) rfl dX6_hope_4 ?_
  refine J_if_eq (tgt := 39) 7 dX6_hope_7 (by decide) (fun c_1_ => absurd c_1_ (by decide)) (fun _ => ?_)
  refine J_iload_n 10 2 dX6_hope_10 rfl rfl ?_
  refine J_iconst (v := 0) 11 dX6_hope_11 rfl ?_
  refine J_iconst (v := 1) 12 dX6_hope_12 rfl ?_
  refine kb_RX6_57 (bs' := [wMo o rw fr kp tr ik tp tm mso bg en wd va gd rs mu rm ss msz msh mho mhn mhz kd nb tn tc bo ip, wMr G rw la ns sd to he sw nh ki te mi ar z]) (rest := []) (st' := [.int 1]) 13 (c_X6_in_t l G p 0 1 hp) [] rfl rfl [] rfl rfl rfl rfl rfl rfl (Nat.le_of_ble_eq_true rfl) rfl dX6_hope_13 ?_
  refine J_if_eq (tgt := 39) 16 dX6_hope_16 (by decide) (fun c_2_ => absurd c_2_ (by decide)) (fun _ => ?_)
  refine J_iload_n 19 1 dX6_hope_19 rfl rfl ?_
  refine J_i2l 20 dX6_hope_20 ?_
  refine J_aload_n 21 0 dX6_hope_21 rfl rfl ?_
  refine g_789 (v := .ref rw) 22 0 rfl rfl dX6_hope_22 ?_
  refine J_iconst (v := 3) 25 dX6_hope_25 rfl ?_
  refine J_iald 26 1 3 rfl rfl (by omega) (by decide) dX6_hope_26 ?_
  refine J_topi (y := la 3) 27 (fR_la (j := 3) (by first | rfl | omega) (by omega)) ?_
  refine J_i2l 27 dX6_hope_27 ?_
  refine J_lmul 28 dX6_hope_28 ?_
  refine J_topl (y := lN (n * pd)) 29 (by rw [hp3, nI_l (by omega), nI_l (by omega), lN_mul]) ?_
  refine J_ldc2 (v := 100) 29 w_1190 dX6_hope_29 ?_
  refine J_topl (y := lN 100) 32 rfl ?_
  refine J_iload_n 32 2 dX6_hope_32 rfl rfl ?_
  refine kb_RX6_272 (bs' := [wMo o rw fr kp tr ik tp tm mso bg en wd va gd rs mu rm ss msz msh mho mhn mhz kd nb tn tc bo ip, wMr G rw la ns sd to he sw nh ki te mi ar z]) (rest := []) (st' := [.long (mPt (n * pd) 100 p)]) 33 (c_X6_lowest l G (n * pd) 100 p (Nat.lt_of_le_of_lt (Nat.mul_le_mul hn hpd) (by decide)) (by decide) (by decide)) [] rfl rfl [] rfl rfl rfl rfl rfl rfl (Nat.le_of_ble_eq_true rfl) rfl dX6_hope_33 ?_
  refine J_goto (tgt := 42) 36 dX6_hope_36 (by decide) ?_
  exact J_lret 42 dX6_hope_42 rfl rfl
