section SX2
variable {f tf : Nat → Int32} {tm : Nat}
def SimX (f : Nat → Int32) (tm : Nat) (x : T5 × Kt) (y : M6t × Kt) : Prop := Sim f tm x.1 y.1 ∧ (x.1.1 ≤ x.1.2.1 ∧ x.1.2.1 ≤ tm) ∧ (x.2.2.1 ≤ 12 ∧ x.2.2.2.2.2.2.1 ≤ 8) ∧ (¬ y.1.2.2.2.2.2 = 0 → KR x.2 y.2)
theorem lw_in {j : Nat} (hj_ : j < 4) : ([9, 9, 9, 99] : List Int32).getD j 0 ≤ 255 ∧ ([9, 9, 9, 99] : List Int32).getD 3 0 = 99 := by
  rcases (show j = 0 ∨ j = 1 ∨ j = 2 ∨ j = 3 by omega) with z_ | z_ | z_ | z_ <;> subst z_ <;> exact ⟨by decide, by decide⟩
/-- one row of the text -/
theorem sim_one (hR_ : TpR f tf tm) (ht_ : tm < 2147483648) {x : T5 × Kt} {y : M6t × Kt} (h_ : SimX f tm x y) (hg_ : ¬ y.1.2.2.2.2.2 = 0) : SimX f tm (tOne f tm x) (mCl tf tm y) := by
  obtain ⟨hs_, hse_, hnn_, hk_⟩ := h_
  obtain ⟨hf_, ht2_⟩ := hs_.ok hg_
  have hk_ := hk_ hg_
  have le_ : (tOne f tm x).1.1 ≤ (tOne f tm x).1.2.1 ∧ (tOne f tm x).1.2.1 ≤ tm := by
    obtain ⟨⟨st, en, so, va, fa⟩, la, ns, to, he, sw, nh, ki, te, mi, ar⟩ := x
    exact (tOne_le rfl hse_.2 hse_.1 hnn_.1 hnn_.2).1
  have le2_ : (tOne f tm x).2.2.1 ≤ 12 ∧ (tOne f tm x).2.2.2.2.2.2.1 ≤ 8 := by
    obtain ⟨⟨st, en, so, va, fa⟩, la, ns, to, he, sw, nh, ki, te, mi, ar⟩ := x
    exact (tOne_le rfl hse_.2 hse_.1 hnn_.1 hnn_.2).2
  suffices g_ : Sim f tm (tOne f tm x).1 (mCl tf tm y).1 ∧ (¬ (mCl tf tm y).1.2.2.2.2.2 = 0 → KR (tOne f tm x).2 (mCl tf tm y).2) from ⟨g_.1, le_, le2_, g_.2⟩
  clear le_ le2_
  obtain ⟨⟨st, en, so, va, fa⟩, la, ns, to, he, sw, nh, ki, te, mi, ar⟩ := x
  obtain ⟨⟨bg, en2, so2, wd, va2, gd⟩, la2, ns2, to2, he2, sw2, nh2, ki2, te2, mi2, ar2⟩ := y
  obtain ⟨k1_, k2_, k3_, k4_, k5_, v1_, v2_, v3_, v4_, v5_⟩ := hk_
  dsimp only at hs_ hse_ hnn_ hf_ ht2_ hg_ k1_ k2_ k3_ k4_ k5_ v1_ v2_ v3_ v4_ v5_
  subst k2_; subst k4_
  have nm_ := ht2_.2.2.2.1
  dsimp only at nm_
  have kn_ := kn_e nm_
  have lne_ := ln_e nm_
  by_cases q1_ : tNam f 10 st en so
  · obtain ⟨e1_, e2_⟩ := (nm_ 10 (by decide)).mp q1_
    have e2_ : wd = 13903 := e2_
    subst e1_; subst e2_
    have s_ := sim_say hR_ ht_ (t := (st, en, so, va, fa)) (m := (bg, en2, 1, 13903, va2, gd)) hf_ ht2_ hse_.1 (ns := ns) (to := to) (he := he) (sw := sw) (to' := to2) (he' := he2) (sw' := sw2) v1_ k3_ v4_
    unfold tOne mCl
    dsimp only
    rw [cif_t q1_, mKn_say, mLn_say, cif_f (by decide), cif_f (by decide), cif_t ⟨rfl, rfl⟩]
    refine ⟨s_.1, fun z_ => ?_⟩
    obtain ⟨a_, b_, c_, d_⟩ := s_.2 z_
    exact ⟨k1_, a_, c_, rfl, k5_, b_, v2_, v3_, d_, v5_⟩
  unfold tOne mCl
  dsimp only
  rw [cif_f q1_]
  rcases kn_ with ⟨e_, p0_, p5_⟩ | ⟨e_, p_⟩
  · rw [e_, cif_t p0_, cif_t p0_]
    have s_ := sim_her hR_ ht_ (t := (st, en, so, va, fa)) (m := (bg, en2, so2, wd, va2, gd)) hf_ ht2_ hse_.1 ⟨p0_, p5_⟩ (nh := nh) (ki := ki) (te := te) (mi := mi) (ar := ar) (ki' := ki2) (te' := te2) (mi' := mi2) (ar' := ar2) v2_ k5_ v5_
    refine ⟨s_.1, fun z_ => ?_⟩
    obtain ⟨a_, b_, c_, d_⟩ := s_.2 z_
    exact ⟨k1_, rfl, k3_, a_, c_, v1_, b_, v3_, v4_, d_⟩
  have n3_ : ¬ (0 : Int32) ≤ -3 := by decide
  have n1_ : ¬ (0 : Int32) ≤ -1 := by decide
  rw [e_, p_, cif_f n3_, cif_f n1_]
  rcases lne_ with ⟨le_, l0_, j, hj_, lj_⟩ | ⟨le_, lp_⟩
  · rw [le_, cif_t l0_, cif_t l0_, lj_, nI_clamp (by omega)]
    have s1_ := sim_go (gd := gd) hR_ ⟨hf_, ht2_⟩ hg_
    have b1_ := tGo_st (f := f) (t := (st, en, so, va, fa)) hse_.2
    have lw_ := lw_in hj_
    have s2_ := sim_num (most := ([9, 9, 9, 99] : List Int32).getD j 0) hR_ lw_.1 s1_ b1_.1 ht_
    have b2_ := tNum_st (f := f) (most := ([9, 9, 9, 99] : List Int32).getD j 0) b1_.2.1 b1_.2.2
    have s3_ := sim_stp hR_ s2_.1 (by omega) ht_
    refine ⟨s3_, fun z_ => ?_⟩
    have g2_ : ¬ (mNum tf tm (([9, 9, 9, 99] : List Int32).getD j 0) (mUp tf tm en2 gd)).2.2.2.2.2.2 = 0 := fun y_ => z_ (mEnd_g y_)
    obtain ⟨a_, b_, c_⟩ := s2_.2 g2_
    refine ⟨upd_cg a_ k1_, rfl, k3_, rfl, k5_, v1_, v2_, ?_, v4_, v5_⟩
    show ∃ pd : Nat, pd ≤ 99 ∧ upd la2 j _ 3 = nI pd
    by_cases e3_ : 3 = j
    · subst e3_
      rw [pk_us]
      dsimp only at b_ c_
      rw [lw_.2] at b_ c_ ⊢
      obtain ⟨n, hn_, ne_⟩ := nI_of2 (n := 99) (nI_toInt (by omega)) (Int32.not_lt.mpr b_) c_
      exact ⟨n, hn_, ne_⟩
    · rw [pk_un e3_]; exact v3_
  rw [le_, lp_, cif_f n3_, cif_f n1_, cif_f (fun z_ => q1_ ((nm_ 10 (by decide)).mpr ⟨z_.1, z_.2⟩))]
  have p_ : 0 ≤ fFl st fa := by unfold fFl; rw [if_pos hf_]; exact nI_pos' (by omega)
  refine ⟨Or.inr ⟨?_, ?_, rfl⟩, fun z_ => absurd rfl z_⟩
  · show 0 ≤ (tStp f tm (st, en, so, va, fFl st fa)).2.2.2.2
    rw [tStp_fa (t := (st, en, so, va, fFl st fa)) p_]; exact p_
  · show (tStp f tm (st, en, so, va, fFl st fa)).2.2.2.2 = nI bg
    rw [tStp_fa (t := (st, en, so, va, fFl st fa)) p_]
    show fFl st fa = nI bg
    unfold fFl; rw [if_pos hf_]
    have := ht2_.1
    dsimp only at this
    rw [this]
theorem sim_all (hR_ : TpR f tf tm) (ht_ : tm < 2147483648) : ∀ n (x : T5 × Kt) (y : M6t × Kt), SimX f tm x y → SimX f tm (tAll f tm n x) (mAll tf tm n y) := by
  intro n
  induction n with
  | zero => intro x y h_; exact h_
  | succ n ih_ =>
    intro x y h_
    unfold tAll mAll
    by_cases g_ : y.1.2.2.2.2.2 = 0
    · rw [cif_t (Or.inl g_)]
      have a_ : 0 ≤ x.1.2.2.2.2 := by
        rcases h_.1 with z_ | z_
        · exact absurd g_ z_.2.1
        · exact z_.1
      rw [cif_t (Or.inr (Int32.not_lt.mpr a_))]
      exact h_
    · obtain ⟨hf_, hk_⟩ := h_.1.ok g_
      by_cases s_ : y.1.2.2.1 = 0
      · rw [cif_t (Or.inr s_), cif_t (Or.inl (hk_.2.2.2.2.2.2.mpr s_))]
        exact h_
      · rw [cif_f (fun z_ => z_.elim (fun w_ => s_ (hk_.2.2.2.2.2.2.mp w_)) (fun w_ => w_ hf_)), cif_f (fun z_ => z_.elim g_ s_)]
        exact ih_ _ _ (sim_one hR_ ht_ h_ g_)
/-- a court told in a text: both ways -/
theorem court_e (hR_ : TpR f tf tm) (ht_ : tm ≤ 200) {st : Nat} {so va : Int32} {to he sw ki te mi ar : Nat → Int32} {X : T5 × Kt} {Y : M6t × Kt} (hX_ : fCrt f tm st so va to he sw ki te mi ar = X) (hY_ : mAll tf tm 201 (mUp tf tm 0 1, (svI [2, 3, 1, 20], 0, zF, zF, zF, 0, zF, zF, zF, zF)) = Y) :
    (Y.1.2.2.2.2.2 = 0 → 0 ≤ X.1.2.2.2.2 ∧ X.1.2.2.2.2 = nI Y.1.1) ∧ (¬ Y.1.2.2.2.2.2 = 0 → X.1.2.2.2.2 < 0 ∧ KR X.2 Y.2) := by
  have g_ := tok_go hR_ (t := (st, 0, so, va, -3)) (gd := 1) (Nat.zero_le _)
  have b_ := tGo_st (f := f) (tm := tm) (t := (st, 0, so, va, -3)) (Nat.zero_le _)
  have a_ := sim_all hR_ (by omega) 201 (tGo f tm (st, 0, so, va, -3), (svI [2, 3, 1, 20], 0, to, he, sw, 0, ki, te, mi, ar)) (mUp tf tm 0 1, (svI [2, 3, 1, 20], 0, zF, zF, zF, 0, zF, zF, zF, zF))
    ⟨Or.inl ⟨by show (tGo f tm (st, 0, so, va, -3)).2.2.2.2 < 0; rw [g_.2]; exact (by decide : (-3 : Int32) < 0), (by decide : ¬ (1 : Int32) = 0), g_.1⟩, ⟨b_.2.2, b_.2.1⟩, ⟨Nat.zero_le _, Nat.zero_le _⟩, fun _ => ⟨fun _ _ => rfl, rfl, fun i z_ => absurd z_ (Nat.not_lt_zero _), rfl, fun i z_ => absurd z_ (Nat.not_lt_zero _), Nat.zero_le _, Nat.zero_le _, ⟨20, by decide, rfl⟩, fun i z_ => absurd z_ (Nat.not_lt_zero _), fun i z_ => absurd z_ (Nat.not_lt_zero _)⟩⟩
  rw [hY_] at a_
  unfold fCrt at hX_
  rw [hX_] at a_
  constructor
  · intro z_
    rcases a_.1 with w_ | w_
    · exact absurd z_ w_.2.1
    · exact ⟨w_.1, w_.2.1⟩
  · intro z_
    exact ⟨(a_.1.ok z_).1, a_.2.2.2 z_⟩
end SX2
