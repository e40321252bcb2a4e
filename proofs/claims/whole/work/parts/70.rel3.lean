/-! what rows, sheets, shelves, deeds and tapes have in common -/
section CG3
variable {la la2 : Nat → Int32} {ns sd : Nat} {to to2 he he2 sw sw2 : Nat → Int32} {nh : Nat} {ki ki2 te te2 mi mi2 ar ar2 : Nat → Int32}
theorem prove_e (c1 : ∀ j, j < 4 → la j = la2 j) (c2 : ∀ i, i < ns → to i = to2 i ∧ he i = he2 i ∧ sw i = sw2 i) (c3 : ∀ h, h < nh → ki h = ki2 h ∧ te h = te2 h ∧ mi h = mi2 h ∧ ar h = ar2 h) (c6 : nh ≤ 8) {h k : Nat} (hh : h < nh) (hk : sd + k < ns) :
    fAr (fun h_ => h_ < nh ∧ hasP 255 (nI h_)) la ki mi te ar to he sw sd (k + 1) h = fAr (fun h_ => h_ < nh) la2 ki2 mi2 te2 ar2 to2 he2 sw2 sd (k + 1) h ∧ fTe (fun h_ => h_ < nh ∧ hasP 255 (nI h_)) la ki mi te ar to he sw sd (k + 1) h = fTe (fun h_ => h_ < nh) la2 ki2 mi2 te2 ar2 to2 he2 sw2 sd (k + 1) h ∧
    fBC (fMask (fun h_ => hasP 255 (nI h_) ∧ fUp la ki mi (fTe (fun h_ => h_ < nh ∧ hasP 255 (nI h_)) la ki mi te ar to he sw sd k) to he sw (sd + k) h_) nh) = fBC (fMask (fun h_ => nI h_ = (-1) ∨ fUp la2 ki2 mi2 (fTe (fun h_ => h_ < nh) la2 ki2 mi2 te2 ar2 to2 he2 sw2 sd k) to2 he2 sw2 (sd + k) h_) nh) := by
  refine ⟨far_e c1 c2 c3 c6 hh (by omega), fte_e c1 c2 c3 c6 hh (by omega), congrArg fBC (fMask_cg nh (fun i hi => ?_))⟩
  have u_ := up_e (te := fTe (fun h_ => h_ < nh ∧ hasP 255 (nI h_)) la ki mi te ar to he sw sd k) (te2 := fTe (fun h_ => h_ < nh) la2 ki2 mi2 te2 ar2 to2 he2 sw2 sd k) c1 c2 (c3 i hi).1 (c3 i hi).2.2.1 (fte_e c1 c2 c3 c6 hi (by omega)) hk
  exact ⟨fun z_ => Or.inr (u_.mp z_.2), fun z_ => z_.elim (fun y_ => absurd y_ (nI_no (by omega))) (fun y_ => ⟨h255 (by omega), u_.mpr y_⟩)⟩
theorem judge_e {rwf rf a b c a' b' c' mu : Nat → Int32} {rc M : Nat} (hr : ∀ j, j < 3 * rc → rwf j = rf j) (hM : ∀ k, k < rc → (sd + k < ns ↔ k < M)) (he : ∀ k, k < M → a k = a' k ∧ b k = b' k ∧ c k = c' k) :
    fJu (fun k_ => sd + k_ < ns ∧ rwf (k_ * 3) = a k_ ∧ rwf (k_ * 3 + 1) = b k_ ∧ rwf (k_ * 3 + 2) = c k_) rc 0 = fJm (fun k_ => k_ < 3 * M ∧ rf k_ = fRow3 a' b' c' mu M k_) (3 * rc) 0 := by
  refine fJ_e (E := fun k_ => k_ < 3 * M ∧ rf k_ = fRow3 a' b' c' mu M k_) (n := rc) (fun k hk => ?_) rc 0 (Nat.zero_add _)
  show (sd + k < ns ∧ rwf (k * 3) = a k ∧ rwf (k * 3 + 1) = b k ∧ rwf (k * 3 + 2) = c k) ↔ ((3 * k < 3 * M ∧ rf (3 * k) = fRow3 a' b' c' mu M (3 * k)) ∧ (3 * k + 1 < 3 * M ∧ rf (3 * k + 1) = fRow3 a' b' c' mu M (3 * k + 1)) ∧ (3 * k + 2 < 3 * M ∧ rf (3 * k + 2) = fRow3 a' b' c' mu M (3 * k + 2)))
  rw [Nat.mul_comm k 3]
  by_cases q_ : k < M
  · obtain ⟨e1_, e2_, e3_⟩ := he k q_
    obtain ⟨f1_, f2_, f3_⟩ := fRow3_at (a := a') (b := b') (c := c') (f := mu) M k q_
    rw [Nat.mul_comm k 3] at f1_ f2_ f3_
    rw [f1_, f2_, f3_, hr _ (by omega), hr _ (by omega), hr _ (by omega), e1_, e2_, e3_]
    exact ⟨fun z_ => ⟨⟨by omega, z_.2.1⟩, ⟨by omega, z_.2.2.1⟩, ⟨by omega, z_.2.2.2⟩⟩, fun z_ => ⟨(hM k hk).mpr q_, z_.1.2, z_.2.1.2, z_.2.2.2⟩⟩
  · exact ⟨fun z_ => absurd ((hM k hk).mp z_.1) q_, fun z_ => absurd z_.1.1 (by omega)⟩
end CG3
theorem vnn {v : Int32} (h : -1 ≤ v ∧ v ≤ 3) (hn : ¬ v = -1) : 0 ≤ v ∧ v ≤ 3 := ⟨Int32.not_lt.mp (nneg h hn), h.2⟩
section CG4
variable {sso : Nat → Int32} {ssz : Nat → Nat} {sit : Nat → Nat → Int64} {ssf szf : Nat → Int32} {shf : Nat → Int64} {sho shr shso shsz hof hnf hzf : Nat → Int32}
theorem vu_s {α : Type} {f : Nat → α} {k : Nat} {v : α} : va_up f k v k = v := if_pos rfl
theorem vu_n {α : Type} {f : Nat → α} {k j : Nat} {v : α} (h : ¬ j = k) : va_up f k v j = f j := if_neg h
theorem rs_set (hS : RS sso ssz sit ssf szf shf) {s n : Nat} {v : Int32} (hv : -1 ≤ v ∧ v ≤ 3) (hn : n ≤ 40) : RS (va_up sso s v) (va_up ssz s n) (va_up sit s (fun _ => 0)) (upd ssf s v) (upd szf s (nI n)) (fZs s 40 shf) := by
  intro t ht
  by_cases e_ : t = s
  · subst e_
    rw [vu_s, vu_s, vu_s, pk_us, pk_us]
    exact ⟨rfl, rfl, hn, hv, fun i hi => by unfold fZs; rw [if_pos (by omega)]⟩
  · obtain ⟨a_, b_, c_, d_, f_⟩ := hS t ht
    rw [vu_n e_, vu_n e_, vu_n e_, pk_un e_, pk_un e_]
    refine ⟨a_, b_, c_, d_, fun i hi => ?_⟩
    rw [f_ i hi]
    unfold fZs
    rw [if_neg (by omega)]
theorem rs_put (hS : RS sso ssz sit ssf szf shf) {s i : Nat} {v w : Int64} (hw : v = w) (hi : i < 40) : RS sso ssz (va_up sit s (vp_updL (sit s) i v)) ssf szf (vp_updL shf (40 * s + i) w) := by
  intro t ht
  subst hw
  obtain ⟨a_, b_, c_, d_, f_⟩ := hS t ht
  refine ⟨a_, b_, c_, d_, fun j hj => ?_⟩
  by_cases e_ : t = s
  · subst e_
    rw [vu_s]
    unfold vp_updL
    by_cases g_ : j = i
    · subst g_; rw [if_pos rfl, if_pos rfl]
    · rw [if_neg g_, if_neg (by omega)]; exact f_ j hj
  · rw [vu_n e_, f_ j hj]
    unfold vp_updL
    rw [if_neg (by omega)]
theorem rf_set (hF : RF sho shr shso shsz hof hnf hzf) {s : Nat} {a b c d a' b' c' : Int32} (h : (a = 0 ∧ a' = -1) ∨ (a = 1 ∧ a' = 0 ∧ b = b') ∨ (a = 2 ∧ a' = 1 ∧ c = b' ∧ d = c' ∧ 0 ≤ b' ∧ b' ≤ 3)) : RF (va_up sho s a) (va_up shr s b) (va_up shso s c) (va_up shsz s d) (upd hof s a') (upd hnf s b') (upd hzf s c') := by
  intro t ht
  by_cases e_ : t = s
  · subst e_
    rw [vu_s, vu_s, vu_s, vu_s, pk_us, pk_us, pk_us]
    exact h
  · rw [vu_n e_, vu_n e_, vu_n e_, vu_n e_, pk_un e_, pk_un e_, pk_un e_]
    exact hF t ht
end CG4
theorem pF_lt : ∀ (l : List Int32) (f : Nat → Int32) (c k : Nat), k < c → pF l f c k = f k := by
  intro l
  induction l with
  | nil => intro f c k _; rfl
  | cons b l ih_ =>
    intro f c k hk
    show pF l (upd f c b) (c + 1) k = f k
    rw [ih_ _ _ _ (by omega), pk_un (by omega)]
theorem pF_cg : ∀ (l : List Int32) (f g : Nat → Int32) (c k : Nat), c ≤ k → k < c + l.length → pF l f c k = pF l g c k := by
  intro l
  induction l with
  | nil => intro f g c k h1 h2; simp at h2; omega
  | cons b l ih_ =>
    intro f g c k h1 h2
    rw [List.length_cons] at h2
    show pF l (upd f c b) (c + 1) k = pF l (upd g c b) (c + 1) k
    by_cases e_ : k = c
    · subst e_
      rw [pF_lt _ _ _ _ (by omega), pF_lt _ _ _ _ (by omega), pk_us, pk_us]
    · exact ih_ _ _ _ _ (by omega) (by omega)
theorem rb_pF {dbo tcf : Nat → Int32} (l : List Int32) (n : Nat) (hn : Nat.ble n l.length = true) (h : Nat.ble n 30 = true) : RB n (pF l dbo 0) (pF l tcf 0) := ⟨Nat.le_of_ble_eq_true h, fun j hj => pF_cg l dbo tcf 0 j (Nat.zero_le _) (by have := Nat.le_of_ble_eq_true hn; omega)⟩
theorem rb_0 {dbo tcf : Nat → Int32} : RB 0 dbo tcf := ⟨Nat.zero_le _, fun j hj => absurd hj (Nat.not_lt_zero _)⟩
theorem rw_0 {rwf rf : Nat → Int32} : RW 0 rwf rf := ⟨Nat.zero_le _, fun j hj => absurd hj (Nat.not_lt_zero _)⟩
theorem rt_0 {f tf : Nat → Int32} : RT 0 f tf := ⟨Nat.zero_le _, fun j hj => absurd hj (Nat.not_lt_zero _)⟩
theorem rt_put {ln n : Nat} {f tf : Nat → Int32} {e : Int64} (hT : RT ln f tf) (hn : n ≤ 8) (h2 : ln + n ≤ 200) : RT (ln + n) (fPutB f ln e n) (mPutB tf ln e n) := by
  refine ⟨h2, fun j hj => ?_⟩
  unfold fPutB mPutB
  by_cases q_ : ln ≤ j ∧ j < ln + n
  · rw [if_pos q_, if_pos q_]
    obtain ⟨m, hm, e_, -⟩ := mByte_n e (j - ln)
    refine ⟨byte_e (by omega), ?_, ?_⟩
    · rw [e_]; exact (nI_leI (a := 0) (by omega) (by omega)).mpr (Nat.zero_le _)
    · rw [e_]; exact (nI_leI (b := 255) (by omega) (by omega)).mpr (by omega)
  · rw [if_neg q_, if_neg q_]
    exact hT.2 j (by omega)
theorem cif_cg {P Q : Prop} {a b a' b' : Int32} (h : P ↔ Q) (ha : a = a') (hb : b = b') : cif P a b = cif Q a' b' := by
  by_cases q_ : P
  · rw [cif_t q_, cif_t (h.mp q_), ha]
  · rw [cif_f q_, cif_f (fun z_ => q_ (h.mpr z_)), hb]
theorem und_e {k a : Int32} : fUnM k a ↔ fUnd k a := by
  unfold fUnM fUnd
  by_cases q3_ : k = 3
  · rw [if_pos q3_]; subst q3_
    refine ⟨fun z_ => ?_, fun z_ => ?_⟩
    · rcases z_ with e_ | e_ | ⟨e_, -⟩ | ⟨-, e_⟩
      · exact Or.inr (Or.inr e_)
      · exact Or.inl e_
      · exact Or.inr (Or.inl e_)
      · exact absurd e_ (by decide)
    · rcases z_ with e_ | e_ | e_
      · exact Or.inr (Or.inl e_)
      · exact Or.inr (Or.inr (Or.inl ⟨e_, rfl⟩))
      · exact Or.inl e_
  rw [if_neg q3_]
  by_cases q4_ : k = 4
  · rw [if_pos q4_]; subst q4_
    refine ⟨fun z_ => ?_, fun z_ => ?_⟩
    · rcases z_ with e_ | e_ | ⟨-, e_⟩ | ⟨e_, -⟩
      · exact Or.inr (Or.inr e_)
      · exact Or.inl e_
      · exact absurd e_ q3_
      · exact Or.inr (Or.inl e_)
    · rcases z_ with e_ | e_ | e_
      · exact Or.inr (Or.inl e_)
      · exact Or.inr (Or.inr (Or.inr ⟨e_, rfl⟩))
      · exact Or.inl e_
  · rw [if_neg q4_]
    refine ⟨fun z_ => ?_, fun z_ => ?_⟩
    · rcases z_ with e_ | e_ | ⟨-, e_⟩ | ⟨-, e_⟩
      · exact Or.inr e_
      · exact Or.inl e_
      · exact absurd e_ q3_
      · exact absurd e_ q4_
    · rcases z_ with e_ | e_
      · exact Or.inr (Or.inl e_)
      · exact Or.inl e_
theorem ten_e {a : Int32} (hv : (10 ≤ a ∧ a ≤ 13) ∨ (0 ≤ a ∧ a ≤ 5)) : a < 10 ↔ ¬ (10 ≤ a ∧ a ≤ 13) := by
  constructor
  · intro z_ y_
    exact absurd z_ (Int32.not_lt.mpr y_.1)
  · intro z_
    rcases hv with y_ | y_
    · exact absurd y_ z_
    · obtain ⟨n_, hn_, rfl⟩ := inC (m := 5) 6 (by decide) (by decide) y_
      exact (nI_ltI (b := 10) (by omega) (by omega)).mpr (by omega)
theorem tak_e {a v : Int32} (hv : 0 ≤ v ∧ v ≤ 3) : a = 10 + v ↔ ((10 ≤ a ∧ a ≤ 13) ∧ v = a - 10) := by
  constructor
  · intro e_
    subst e_
    refine ⟨?_, by grind⟩
    obtain ⟨n_, hn_, rfl⟩ := inC (m := 3) 4 (by decide) (by decide) hv
    rcases s4 hn_ with rfl | rfl | rfl | rfl <;> decide
  · rintro ⟨-, e_⟩
    rw [e_]; grind
theorem court_RN {A B : Kt} (h : KR A B) : RN A.1 B.1 A.2.1 0 A.2.2.1 B.2.2.1 A.2.2.2.1 B.2.2.2.1 A.2.2.2.2.1 B.2.2.2.2.1 A.2.2.2.2.2.1 A.2.2.2.2.2.2.1 B.2.2.2.2.2.2.1 A.2.2.2.2.2.2.2.1 B.2.2.2.2.2.2.2.1 A.2.2.2.2.2.2.2.2.1 B.2.2.2.2.2.2.2.2.1 A.2.2.2.2.2.2.2.2.2 B.2.2.2.2.2.2.2.2.2 := by
  obtain ⟨la, ns, to, he, sw, nh, ki, te, mi, ar⟩ := A
  obtain ⟨la2, ns2, to2, he2, sw2, nh2, ki2, te2, mi2, ar2⟩ := B
  obtain ⟨k1_, k2_, k3_, k4_, k5_, v1_, v2_, v3_, v4_, v5_⟩ := h
  dsimp only at k1_ k2_ k3_ k4_ k5_ v1_ v2_ v3_ v4_ v5_
  subst k2_; subst k4_
  exact ⟨k1_, k3_, k5_, v1_, Nat.zero_le _, v2_, v3_, v4_, fun i hi => ⟨(v5_ i hi).1, by show loB 0 (ar2 i); rw [(v5_ i hi).2]; exact lo_0⟩⟩
