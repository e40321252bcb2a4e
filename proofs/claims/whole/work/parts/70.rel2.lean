/-! what the trials and draughts have in common -/
theorem bit_self {h : Nat} (hh : h < 8) : hasP (onlyI (nI h)) (nI h) := (bit_all h (by omega) h (by omega)).mpr rfl
theorem sel_e {P Q : Nat → Prop} {f g f' g' : Nat → Int32} {i : Nat} (hp : P i ↔ Q i) (hf : f i = f' i) (hg : g i = g' i) : fSel P f g i = fSel Q f' g' i := by
  by_cases q_ : P i
  · rw [fSel_t q_, fSel_t (hp.mp q_), hf]
  · rw [fSel_f q_, fSel_f (fun z_ => q_ (hp.mpr z_)), hg]
theorem sel_all {P : Nat → Prop} {f g : Nat → Int32} {i : Nat} (T : Int32 → Prop) (hf : T (f i)) (hg : T (g i)) : T (fSel P f g i) := by
  by_cases q_ : P i
  · rw [fSel_t q_]; exact hf
  · rw [fSel_f q_]; exact hg
theorem fZz_p {z : Int32} {nh : Nat} (h0 : 0 < nh) : fZz z nh = fZ (fZ z) := by unfold fZz; rw [if_neg (by omega)]
theorem fZn_m {z : Int32} {nh : Nat} (h0 : 0 < nh) : ∀ n, mFn z nh n = fZn z n := by
  intro n
  induction n with
  | zero => rfl
  | succ n ih_ =>
    show fZz (mFn z nh n) nh = fZ (fZ (fZn z n))
    rw [ih_, fZz_p h0]
theorem fChi_p {z dl : Int32} {nh : Nat} (h0 : 0 < nh) : fChi z dl nh = fChl z dl nh := by unfold fChi; rw [if_neg (by omega)]
theorem nI_no {h : Nat} (hh : h < 8) : ¬ nI h = -1 := by
  intro e_
  have e2_ := congrArg Int32.toInt e_
  rw [nI_toInt (by omega), show (-1 : Int32).toInt = -1 by decide] at e2_
  omega
theorem nneg {v : Int32} (h : -1 ≤ v ∧ v ≤ 3) (hn : ¬ v = -1) : ¬ v < 0 := by
  intro z_
  refine hn (Int32.toInt_inj.mp ?_)
  have a_ := Int32.le_iff_toInt_le.mp h.1
  have b_ := Int32.lt_iff_toInt_lt.mp z_
  rw [show (-1 : Int32).toInt = -1 by decide] at a_ ⊢
  rw [show (0 : Int32).toInt = 0 by decide] at b_
  omega
theorem fSw_cg {f g : Nat → Int32} {n i j : Nat} (h : ∀ k, k < n → f k = g k) (hi : i < n) (hj : j < n) : ∀ k, k < n → fSw f i j k = fSw g i j k := by
  unfold fSw
  exact upd_cg (h i hi) (upd_cg (h j hj) h)
section CG2
variable {la la2 : Nat → Int32} {ns sd : Nat} {to to2 he he2 sw sw2 : Nat → Int32} {nh : Nat} {ki ki2 te te2 mi mi2 ar ar2 : Nat → Int32}
theorem frt_e (c1 : ∀ j, j < 4 → la j = la2 j) (c2 : ∀ i, i < ns → to i = to2 i ∧ he i = he2 i ∧ sw i = sw2 i) {h : Nat} (hk : ki h = ki2 h) (ht : te h = te2 h) (hm : mi h = mi2 h) (ha : ar h = ar2 h) (c4 : ns ≤ 12) (c5 : sd ≤ ns) (lo : loB sd (ar2 h)) : nI (fRt la ki mi te ar to he sw ns sd h) = mRt la2 ki2 mi2 te2 ar2 to2 he2 sw2 ns sd h := by
  rw [← mRt_e c4 c5 lo]
  unfold fRt
  rw [hk, ht, hm, ha, ev_cg c1 (ns - sd) (fun i _ h2 => c2 i (by omega))]
  exact congrArg nI (fCnt_cg ns (fun i hi => by rw [(c2 i hi).2.2]))
theorem okS_e (c1 : ∀ j, j < 4 → la j = la2 j) (c2 : ∀ i, i < ns → to i = to2 i ∧ he i = he2 i ∧ sw i = sw2 i) {it it2 : Nat → Int64} {k m : Int32} {x : Int32 × Int32} {i : Nat} (hi : sd + i < ns) (ht : it i = it2 i) : fOkS it la k m to he sw sd x i ↔ fOkS it2 la2 k m to2 he2 sw2 sd x i := by
  obtain ⟨a_, b_, c_⟩ := c2 (sd + i) hi
  unfold fOkS fUpAt
  rw [ht, ev_cg c1 i (fun i _ h2 => c2 i (by omega)), a_, b_, c_, c1 0 (by decide), c1 1 (by decide)]
end CG2
