/-! a whole text -/
/-- what is told: alike where it lives, and in its bounds -/
def KV (b : Kt) : Prop := b.2.1 ≤ 12 ∧ b.2.2.2.2.2.1 ≤ 8 ∧ (∃ pd : Nat, pd ≤ 99 ∧ b.1 3 = nI pd) ∧ (∀ i, i < b.2.1 → (b.2.2.2.2.1 i = 0 ∨ b.2.2.2.2.1 i = 1)) ∧ (∀ h, h < b.2.2.2.2.2.1 → (0 ≤ b.2.2.2.2.2.2.1 h ∧ b.2.2.2.2.2.2.1 h ≤ 5) ∧ b.2.2.2.2.2.2.2.2.2 h = 0)
def KR (a b : Kt) : Prop := (∀ j, j < 4 → a.1 j = b.1 j) ∧ a.2.1 = b.2.1 ∧ (∀ i, i < b.2.1 → a.2.2.1 i = b.2.2.1 i ∧ a.2.2.2.1 i = b.2.2.2.1 i ∧ a.2.2.2.2.1 i = b.2.2.2.2.1 i) ∧ a.2.2.2.2.2.1 = b.2.2.2.2.2.1 ∧
  (∀ h, h < b.2.2.2.2.2.1 → a.2.2.2.2.2.2.1 h = b.2.2.2.2.2.2.1 h ∧ a.2.2.2.2.2.2.2.1 h = b.2.2.2.2.2.2.2.1 h ∧ a.2.2.2.2.2.2.2.2.1 h = b.2.2.2.2.2.2.2.2.1 h ∧ a.2.2.2.2.2.2.2.2.2 h = b.2.2.2.2.2.2.2.2.2 h) ∧ KV b
theorem upd_cg {f g : Nat → Int32} {n k : Nat} {v w : Int32} (hv_ : v = w) (h_ : ∀ i, i < n → f i = g i) : ∀ i, i < n → upd f k v i = upd g k w i := by
  intro i hi_
  subst hv_
  by_cases e_ : i = k
  · subst e_; rw [pk_us, pk_us]
  · rw [pk_un e_, pk_un e_, h_ i hi_]
theorem upd_cg1 {f g : Nat → Int32} {n : Nat} {v w : Int32} (hv_ : v = w) (h_ : ∀ i, i < n → f i = g i) : ∀ i, i < n + 1 → upd f n v i = upd g n w i := by
  intro i hi_
  subst hv_
  by_cases e_ : i = n
  · subst e_; rw [pk_us, pk_us]
  · rw [pk_un e_, pk_un e_, h_ i (by omega)]
theorem upd_al {P : Int32 → Prop} {f : Nat → Int32} {n : Nat} {v : Int32} (hv_ : P v) (h_ : ∀ i, i < n → P (f i)) : ∀ i, i < n + 1 → P (upd f n v i) := by
  intro i hi_
  by_cases e_ : i = n
  · subst e_; rw [pk_us]; exact hv_
  · rw [pk_un e_]; exact h_ i (by omega)
theorem mKn_say : mKn 1 13903 = -1 := by
  unfold mKn
  rw [cif_f (by decide), cif_f (by decide), cif_f (by decide), cif_f (by decide), cif_f (by decide), cif_f (by decide)]
theorem mLn_say : mLn 1 13903 = -1 := by
  unfold mLn
  rw [cif_f (by decide), cif_f (by decide), cif_f (by decide), cif_f (by decide)]
theorem kn_e {f : Nat → Int32} {st en : Nat} {so so2 : Int32} {wd : Int64} (h_ : ∀ i, i < 15 → (tNam f i st en so ↔ (so2 = 1 ∧ wd = lN (kW.getD i 0)))) : (fKn f st en so = mKn so2 wd ∧ 0 ≤ mKn so2 wd ∧ mKn so2 wd ≤ 5) ∨ (fKn f st en so = -3 ∧ mKn so2 wd = -1) := by
  unfold fKn mKn
  by_cases q0_ : tNam f 0 st en so
  · rw [cif_t q0_, cif_t (show so2 = 1 ∧ wd = 117481419 from (h_ 0 (by decide)).mp q0_)]; exact Or.inl ⟨rfl, by decide, by decide⟩
  rw [cif_f q0_, cif_f (show ¬ (so2 = 1 ∧ wd = 117481419) from fun z_ => q0_ ((h_ 0 (by decide)).mpr z_))]
  by_cases q1_ : tNam f 1 st en so
  · rw [cif_t q1_, cif_t (show so2 = 1 ∧ wd = 5730863 from (h_ 1 (by decide)).mp q1_)]; exact Or.inl ⟨rfl, by decide, by decide⟩
  rw [cif_f q1_, cif_f (show ¬ (so2 = 1 ∧ wd = 5730863) from fun z_ => q1_ ((h_ 1 (by decide)).mpr z_))]
  by_cases q2_ : tNam f 2 st en so
  · rw [cif_t q2_, cif_t (show so2 = 1 ∧ wd = 12333743051 from (h_ 2 (by decide)).mp q2_)]; exact Or.inl ⟨rfl, by decide, by decide⟩
  rw [cif_f q2_, cif_f (show ¬ (so2 = 1 ∧ wd = 12333743051) from fun z_ => q2_ ((h_ 2 (by decide)).mpr z_))]
  by_cases q3_ : tNam f 3 st en so
  · rw [cif_t q3_, cif_t (show so2 = 1 ∧ wd = 2896470 from (h_ 3 (by decide)).mp q3_)]; exact Or.inl ⟨rfl, by decide, by decide⟩
  rw [cif_f q3_, cif_f (show ¬ (so2 = 1 ∧ wd = 2896470) from fun z_ => q3_ ((h_ 3 (by decide)).mpr z_))]
  by_cases q4_ : tNam f 4 st en so
  · rw [cif_t q4_, cif_t (show so2 = 1 ∧ wd = 242802 from (h_ 4 (by decide)).mp q4_)]; exact Or.inl ⟨rfl, by decide, by decide⟩
  rw [cif_f q4_, cif_f (show ¬ (so2 = 1 ∧ wd = 242802) from fun z_ => q4_ ((h_ 4 (by decide)).mpr z_))]
  by_cases q5_ : tNam f 5 st en so
  · rw [cif_t q5_, cif_t (show so2 = 1 ∧ wd = 4560413 from (h_ 5 (by decide)).mp q5_)]; exact Or.inl ⟨rfl, by decide, by decide⟩
  rw [cif_f q5_, cif_f (show ¬ (so2 = 1 ∧ wd = 4560413) from fun z_ => q5_ ((h_ 5 (by decide)).mpr z_))]
  exact Or.inr ⟨rfl, rfl⟩
theorem ln_e {f : Nat → Int32} {st en : Nat} {so so2 : Int32} {wd : Int64} (h_ : ∀ i, i < 15 → (tNam f i st en so ↔ (so2 = 1 ∧ wd = lN (kW.getD i 0)))) : (fLn f st en so = mLn so2 wd ∧ 0 ≤ mLn so2 wd ∧ ∃ j : Nat, j < 4 ∧ mLn so2 wd = nI j) ∨ (fLn f st en so = -3 ∧ mLn so2 wd = -1) := by
  unfold fLn mLn
  by_cases q0_ : tNam f 6 st en so
  · rw [cif_t q0_, cif_t (show so2 = 1 ∧ wd = 70312 from (h_ 6 (by decide)).mp q0_)]; exact Or.inl ⟨rfl, by decide, 0, by decide, rfl⟩
  rw [cif_f q0_, cif_f (show ¬ (so2 = 1 ∧ wd = 70312) from fun z_ => q0_ ((h_ 6 (by decide)).mpr z_))]
  by_cases q1_ : tNam f 7 st en so
  · rw [cif_t q1_, cif_t (show so2 = 1 ∧ wd = 296522 from (h_ 7 (by decide)).mp q1_)]; exact Or.inl ⟨rfl, by decide, 1, by decide, rfl⟩
  rw [cif_f q1_, cif_f (show ¬ (so2 = 1 ∧ wd = 296522) from fun z_ => q1_ ((h_ 7 (by decide)).mpr z_))]
  by_cases q2_ : tNam f 8 st en so
  · rw [cif_t q2_, cif_t (show so2 = 1 ∧ wd = 456399 from (h_ 8 (by decide)).mp q2_)]; exact Or.inl ⟨rfl, by decide, 2, by decide, rfl⟩
  rw [cif_f q2_, cif_f (show ¬ (so2 = 1 ∧ wd = 456399) from fun z_ => q2_ ((h_ 8 (by decide)).mpr z_))]
  by_cases q3_ : tNam f 9 st en so
  · rw [cif_t q3_, cif_t (show so2 = 1 ∧ wd = 1808912405 from (h_ 9 (by decide)).mp q3_)]; exact Or.inl ⟨rfl, by decide, 3, by decide, rfl⟩
  rw [cif_f q3_, cif_f (show ¬ (so2 = 1 ∧ wd = 1808912405) from fun z_ => q3_ ((h_ 9 (by decide)).mpr z_))]
  exact Or.inr ⟨rfl, rfl⟩
section SX
variable {f tf : Nat → Int32} {tm : Nat}
/-- a saying told -/
theorem sim_say (hR_ : TpR f tf tm) (ht_ : tm < 2147483648) {t : T5} {m : M6t} (hf_ : t.2.2.2.2 < 0) (hk_ : TkG f tm t m) (hs_ : t.1 ≤ t.2.1) {ns : Nat} {to he sw to' he' sw' : Nat → Int32} (hn_ : ns ≤ 12)
    (hr_ : ∀ i, i < ns → to i = to' i ∧ he i = he' i ∧ sw i = sw' i) (hb_ : ∀ i, i < ns → (sw' i = 0 ∨ sw' i = 1)) :
    Sim f tm (tStp f tm (tSy f tm t ns to he sw).1) (mSay tf tm m ns to' he' sw').1 ∧ (¬ (mSay tf tm m ns to' he' sw').1.2.2.2.2.2 = 0 → (tSy f tm t ns to he sw).2.1 = (mSay tf tm m ns to' he' sw').2.1 ∧ (mSay tf tm m ns to' he' sw').2.1 ≤ 12 ∧ (∀ i, i < (mSay tf tm m ns to' he' sw').2.1 → (tSy f tm t ns to he sw).2.2.1 i = (mSay tf tm m ns to' he' sw').2.2.1 i ∧ (tSy f tm t ns to he sw).2.2.2.1 i = (mSay tf tm m ns to' he' sw').2.2.2.1 i ∧ (tSy f tm t ns to he sw).2.2.2.2 i = (mSay tf tm m ns to' he' sw').2.2.2.2 i) ∧ ∀ i, i < (mSay tf tm m ns to' he' sw').2.1 → ((mSay tf tm m ns to' he' sw').2.2.2.2 i = 0 ∨ (mSay tf tm m ns to' he' sw').2.2.2.2 i = 1)) := by
  have he_ : t.2.1 ≤ tm := hk_.2.2.1
  by_cases q_ : ns < 12
  · obtain ⟨t1, ht1_⟩ : ∃ t1, tGo f tm t = t1 := ⟨_, rfl⟩
    obtain ⟨m1, hm1_⟩ : ∃ m1, mO0 tf tm ns 12 m = m1 := ⟨_, rfl⟩
    have s1_ : Sim f tm t1 m1 := by
      rw [← ht1_, ← hm1_]; unfold mO0; rw [if_pos q_]
      exact sim_go hR_ ⟨hf_, hk_⟩ (by decide)
    have b1_ := tGo_st (f := f) (t := t) he_
    rw [ht1_] at b1_
    have s2_ := sim_num (most := 7) hR_ (by decide) s1_ b1_.1 ht_
    have b2_ := tNum_st (f := f) (most := 7) b1_.2.1 b1_.2.2
    obtain ⟨⟨v2, t2⟩, ht2_⟩ : ∃ r, tNum f tm 7 t1 = r := ⟨_, rfl⟩
    obtain ⟨⟨w2, m2⟩, hm2_⟩ : ∃ r, mNum tf tm 7 m1 = r := ⟨_, rfl⟩
    rw [ht2_, hm2_] at s2_
    rw [ht2_] at b2_
    dsimp only at s2_ b2_
    have s3_ := sim_op (i := 11) (most := 9) (wo := 5) hR_ (by decide) (by decide) (by decide) s2_.1 b2_.1 b2_.2 ht_
    have b3_ := tNuA_st (f := f) (i := 11) (most := 9) (wo := 5) b2_.2 b2_.1
    obtain ⟨⟨v3, t3⟩, ht3_⟩ : ∃ r, tNuA f tm 11 9 5 t2 = r := ⟨_, rfl⟩
    obtain ⟨⟨w3, m3⟩, hm3_⟩ : ∃ r, mOp tf tm (lN (kW.getD 11 0)) 9 5 m2 = r := ⟨_, rfl⟩
    rw [ht3_, hm3_] at s3_
    rw [ht3_] at b3_
    dsimp only at s3_ b3_
    obtain ⟨⟨w4, m4⟩, hm4_⟩ : ∃ r, mMay tf tm 528 m3 = r := ⟨_, rfl⟩
    have gm_ : mSay tf tm m ns to' he' sw' = if (mEnd tf tm m4).2.2.2.2.2 = 0 then (mEnd tf tm m4, ns, to', he', sw') else (mEnd tf tm m4, ns + 1, upd to' ns w2, upd he' ns w3, upd sw' ns w4) := by
      unfold mSay
      rw [hm1_, hm2_, show (161156 : Int64) = lN (kW.getD 11 0) from rfl, hm3_, hm4_]
    have gt_ : tSy f tm t ns to he sw = cif (tNam f 12 t3.1 t3.2.1 t3.2.2.1) (tGo f tm t3, ns + 1, upd to ns v2, upd he ns v3, upd sw ns 1) (t3, ns + 1, upd to ns v2, upd he ns v3, upd sw ns 0) := by
      unfold tSy
      rw [if_pos q_, ht1_, ht2_, ht3_]
    -- the word so, and the end
    have s4_ : ∃ t4 v4, tSy f tm t ns to he sw = (t4, ns + 1, upd to ns v2, upd he ns v3, upd sw ns v4) ∧ Sim f tm t4 m4 ∧ t4.1 ≤ tm ∧ (¬ m4.2.2.2.2.2 = 0 → v4 = w4 ∧ (w4 = 0 ∨ w4 = 1)) := by
      rw [gt_]
      rcases s3_.1 with ⟨a_, b_, c_⟩ | ⟨a_, b_, c_⟩
      · have n_ := c_.2.2.2.1 12 (by decide)
        by_cases p_ : tNam f 12 t3.1 t3.2.1 t3.2.2.1
        · have e_ : mMay tf tm 528 m3 = (1, mUp tf tm m3.2.1 m3.2.2.2.2.2) := by unfold mMay; exact cif_t ⟨b_, n_.mp p_⟩
          rw [hm4_] at e_; cases e_
          rw [cif_t p_]
          exact ⟨_, _, rfl, sim_go hR_ ⟨a_, c_⟩ b_, (tGo_st (f := f) (t := t3) b3_.2).1, fun _ => ⟨rfl, Or.inr rfl⟩⟩
        · have e_ : mMay tf tm 528 m3 = (0, m3) := by unfold mMay; exact cif_f (fun z_ => p_ (n_.mpr z_.2))
          rw [hm4_] at e_; cases e_
          rw [cif_f p_]
          exact ⟨_, _, rfl, Or.inl ⟨a_, b_, c_⟩, by omega, fun _ => ⟨rfl, Or.inl rfl⟩⟩
      · have e_ : mMay tf tm 528 m3 = (0, m3) := mMay_b c_
        rw [hm4_] at e_; cases e_
        by_cases p_ : tNam f 12 t3.1 t3.2.1 t3.2.2.1
        · rw [cif_t p_]
          exact ⟨_, _, rfl, Or.inr ⟨by rw [tGo_fa]; exact a_, by rw [tGo_fa]; exact b_, c_⟩, (tGo_st (f := f) (t := t3) b3_.2).1, fun z_ => absurd c_ z_⟩
        · rw [cif_f p_]
          exact ⟨_, _, rfl, Or.inr ⟨a_, b_, c_⟩, by omega, fun z_ => absurd c_ z_⟩
    obtain ⟨t4, v4, e4_, s4_, b4_, w4_⟩ := s4_
    have s5_ := sim_stp hR_ s4_ b4_ ht_
    rw [e4_, gm_]
    by_cases z_ : (mEnd tf tm m4).2.2.2.2.2 = 0
    · rw [if_pos z_]
      exact ⟨s5_, fun y_ => absurd z_ y_⟩
    · rw [if_neg z_]
      refine ⟨s5_, fun _ => ?_⟩
      have g4_ : ¬ m4.2.2.2.2.2 = 0 := fun y_ => z_ (mEnd_g y_)
      have g3_ : ¬ m3.2.2.2.2.2 = 0 := fun y_ => g4_ (by have := mMay_g (f := tf) (tm := tm) (w := 528) y_; rw [hm4_] at this; exact this)
      have g2_ : ¬ m2.2.2.2.2.2 = 0 := fun y_ => g3_ (by have := mOp_g (f := tf) (tm := tm) (w := lN (kW.getD 11 0)) (most := 9) (wo := 5) y_; rw [hm3_] at this; exact this)
      have e2_ := (s2_.2 g2_).1
      have e3_ := (s3_.2 g3_).1
      obtain ⟨e5_, r5_⟩ := w4_ g4_
      refine ⟨rfl, by show ns + 1 ≤ 12; omega, fun i hi_ => ⟨upd_cg1 e2_ (fun i a_ => (hr_ i a_).1) i hi_, upd_cg1 e3_ (fun i a_ => (hr_ i a_).2.1) i hi_, upd_cg1 e5_ (fun i a_ => (hr_ i a_).2.2) i hi_⟩, upd_al (P := fun x => x = 0 ∨ x = 1) r5_ hb_⟩
  · have gm_ : mSay tf tm m ns to' he' sw' = ((m.1, m.2.1, m.2.2.1, m.2.2.2.1, m.2.2.2.2.1, 0), ns, to', he', sw') := by
      have h0_ : mO0 tf tm ns 12 m = (m.1, m.2.1, m.2.2.1, m.2.2.2.1, m.2.2.2.2.1, 0) := if_neg q_
      have h1_ := mNum_b (f := tf) (tm := tm) (most := 7) (m := (m.1, m.2.1, m.2.2.1, m.2.2.2.1, m.2.2.2.2.1, 0)) rfl
      unfold mSay
      rw [h0_, h1_, mOp_b rfl, mMay_b rfl, mEnd_b rfl]
      exact if_pos rfl
    have gt_ : tSy f tm t ns to he sw = ((t.1, t.2.1, t.2.2.1, t.2.2.2.1, fFl t.1 t.2.2.2.2), ns, to, he, sw) := if_neg q_
    have p_ : 0 ≤ fFl t.1 t.2.2.2.2 := by unfold fFl; rw [if_pos hf_]; exact nI_pos' (by omega)
    have q2_ := tStp_fa (f := f) (ln := tm) (t := (t.1, t.2.1, t.2.2.1, t.2.2.2.1, fFl t.1 t.2.2.2.2)) p_
    dsimp only at q2_
    rw [gm_, gt_]
    dsimp only
    refine ⟨Or.inr ⟨by rw [q2_]; exact p_, ?_, rfl⟩, fun z_ => absurd rfl z_⟩
    rw [q2_]
    unfold fFl; rw [if_pos hf_, hk_.1]
/-- one of the hearers told -/
theorem sim_her (hR_ : TpR f tf tm) (ht_ : tm < 2147483648) {t : T5} {m : M6t} (hf_ : t.2.2.2.2 < 0) (hk_ : TkG f tm t m) (hs_ : t.1 ≤ t.2.1) {kd : Int32} (hkd_ : 0 ≤ kd ∧ kd ≤ 5) {nh : Nat} {ki te mi ar ki' te' mi' ar' : Nat → Int32} (hn_ : nh ≤ 8)
    (hr_ : ∀ h, h < nh → ki h = ki' h ∧ te h = te' h ∧ mi h = mi' h ∧ ar h = ar' h) (hb_ : ∀ h, h < nh → (0 ≤ ki' h ∧ ki' h ≤ 5) ∧ ar' h = 0) :
    Sim f tm (tStp f tm (tHr f tm kd t nh ki te mi ar).1) (mOne tf tm kd m nh ki' te' mi' ar').1 ∧ (¬ (mOne tf tm kd m nh ki' te' mi' ar').1.2.2.2.2.2 = 0 → (tHr f tm kd t nh ki te mi ar).2.1 = (mOne tf tm kd m nh ki' te' mi' ar').2.1 ∧ (mOne tf tm kd m nh ki' te' mi' ar').2.1 ≤ 8 ∧ (∀ h, h < (mOne tf tm kd m nh ki' te' mi' ar').2.1 → (tHr f tm kd t nh ki te mi ar).2.2.1 h = (mOne tf tm kd m nh ki' te' mi' ar').2.2.1 h ∧ (tHr f tm kd t nh ki te mi ar).2.2.2.1 h = (mOne tf tm kd m nh ki' te' mi' ar').2.2.2.1 h ∧ (tHr f tm kd t nh ki te mi ar).2.2.2.2.1 h = (mOne tf tm kd m nh ki' te' mi' ar').2.2.2.2.1 h ∧ (tHr f tm kd t nh ki te mi ar).2.2.2.2.2 h = (mOne tf tm kd m nh ki' te' mi' ar').2.2.2.2.2 h) ∧ ∀ h, h < (mOne tf tm kd m nh ki' te' mi' ar').2.1 → (0 ≤ (mOne tf tm kd m nh ki' te' mi' ar').2.2.1 h ∧ (mOne tf tm kd m nh ki' te' mi' ar').2.2.1 h ≤ 5) ∧ (mOne tf tm kd m nh ki' te' mi' ar').2.2.2.2.2 h = 0) := by
  have he_ : t.2.1 ≤ tm := hk_.2.2.1
  by_cases q_ : nh < 8
  · obtain ⟨t1, ht1_⟩ : ∃ t1, tGo f tm t = t1 := ⟨_, rfl⟩
    obtain ⟨m1, hm1_⟩ : ∃ m1, mO0 tf tm nh 8 m = m1 := ⟨_, rfl⟩
    have s1_ : Sim f tm t1 m1 := by
      rw [← ht1_, ← hm1_]; unfold mO0; rw [if_pos q_]
      exact sim_go hR_ ⟨hf_, hk_⟩ (by decide)
    have b1_ := tGo_st (f := f) (t := t) he_
    rw [ht1_] at b1_
    have s2_ := sim_op (i := 13) (most := 99) (wo := 3) hR_ (by decide) (by decide) (by decide) s1_ b1_.2.2 b1_.2.1 ht_
    have b2_ := tNuA_st (f := f) (i := 13) (most := 99) (wo := 3) b1_.2.1 b1_.2.2
    obtain ⟨⟨v2, t2⟩, ht2_⟩ : ∃ r, tNuA f tm 13 99 3 t1 = r := ⟨_, rfl⟩
    obtain ⟨⟨w2, m2⟩, hm2_⟩ : ∃ r, mOp tf tm (lN (kW.getD 13 0)) 99 3 m1 = r := ⟨_, rfl⟩
    rw [ht2_, hm2_] at s2_
    rw [ht2_] at b2_
    dsimp only at s2_ b2_
    have s3_ := sim_op (i := 14) (most := 255) (wo := 255) hR_ (by decide) (by decide) (by decide) s2_.1 b2_.1 b2_.2 ht_
    have b3_ := tNuA_st (f := f) (i := 14) (most := 255) (wo := 255) b2_.2 b2_.1
    obtain ⟨⟨v3, t3⟩, ht3_⟩ : ∃ r, tNuA f tm 14 255 255 t2 = r := ⟨_, rfl⟩
    obtain ⟨⟨w3, m3⟩, hm3_⟩ : ∃ r, mOp tf tm (lN (kW.getD 14 0)) 255 255 m2 = r := ⟨_, rfl⟩
    rw [ht3_, hm3_] at s3_
    rw [ht3_] at b3_
    dsimp only at s3_ b3_
    have gm_ : mOne tf tm kd m nh ki' te' mi' ar' = if (mEnd tf tm m3).2.2.2.2.2 = 0 then (mEnd tf tm m3, nh, ki', te', mi', ar') else (mEnd tf tm m3, nh + 1, upd ki' nh kd, upd te' nh w2, upd mi' nh w3, upd ar' nh 0) := by
      unfold mOne
      rw [hm1_, show (289913976 : Int64) = lN (kW.getD 13 0) from rfl, hm2_, show (7096213 : Int64) = lN (kW.getD 14 0) from rfl, hm3_]
    have gt_ : tHr f tm kd t nh ki te mi ar = (t3, nh + 1, upd ki nh kd, upd te nh v2, upd mi nh v3, upd ar nh 0) := by
      unfold tHr
      rw [if_pos q_, ht1_, ht2_, ht3_]
    have s5_ := sim_stp hR_ s3_.1 (by omega) ht_
    rw [gt_, gm_]
    by_cases z_ : (mEnd tf tm m3).2.2.2.2.2 = 0
    · rw [if_pos z_]
      exact ⟨s5_, fun y_ => absurd z_ y_⟩
    · rw [if_neg z_]
      refine ⟨s5_, fun _ => ?_⟩
      have g3_ : ¬ m3.2.2.2.2.2 = 0 := fun y_ => z_ (mEnd_g y_)
      have g2_ : ¬ m2.2.2.2.2.2 = 0 := fun y_ => g3_ (by have := mOp_g (f := tf) (tm := tm) (w := lN (kW.getD 14 0)) (most := 255) (wo := 255) y_; rw [hm3_] at this; exact this)
      have e2_ := (s2_.2 g2_).1
      have e3_ := (s3_.2 g3_).1
      refine ⟨rfl, by show nh + 1 ≤ 8; omega, fun h hh_ => ⟨upd_cg1 rfl (fun i a_ => (hr_ i a_).1) h hh_, upd_cg1 e2_ (fun i a_ => (hr_ i a_).2.1) h hh_, upd_cg1 e3_ (fun i a_ => (hr_ i a_).2.2.1) h hh_, upd_cg1 rfl (fun i a_ => (hr_ i a_).2.2.2) h hh_⟩, fun h hh_ => ⟨upd_al (P := fun x => 0 ≤ x ∧ x ≤ 5) hkd_ (fun i a_ => (hb_ i a_).1) h hh_, upd_al (P := fun x => x = 0) rfl (fun i a_ => (hb_ i a_).2) h hh_⟩⟩
  · have gm_ : mOne tf tm kd m nh ki' te' mi' ar' = ((m.1, m.2.1, m.2.2.1, m.2.2.2.1, m.2.2.2.2.1, 0), nh, ki', te', mi', ar') := by
      have h0_ : mO0 tf tm nh 8 m = (m.1, m.2.1, m.2.2.1, m.2.2.2.1, m.2.2.2.2.1, 0) := if_neg q_
      have i1_ := mOp_b (f := tf) (tm := tm) (w := 289913976) (most := 99) (wo := 3) (m := (m.1, m.2.1, m.2.2.1, m.2.2.2.1, m.2.2.2.2.1, 0)) rfl
      have i2_ := mOp_b (f := tf) (tm := tm) (w := 7096213) (most := 255) (wo := 255) (m := (m.1, m.2.1, m.2.2.1, m.2.2.2.1, m.2.2.2.2.1, 0)) rfl
      have i3_ := mEnd_b (f := tf) (tm := tm) (m := (m.1, m.2.1, m.2.2.1, m.2.2.2.1, m.2.2.2.2.1, 0)) rfl
      unfold mOne
      rw [h0_, i1_]
      dsimp only
      rw [i2_]
      dsimp only
      rw [i3_]
      exact if_pos rfl
    have gt_ : tHr f tm kd t nh ki te mi ar = ((t.1, t.2.1, t.2.2.1, t.2.2.2.1, fFl t.1 t.2.2.2.2), nh, ki, te, mi, ar) := if_neg q_
    have p_ : 0 ≤ fFl t.1 t.2.2.2.2 := by unfold fFl; rw [if_pos hf_]; exact nI_pos' (by omega)
    have q2_ := tStp_fa (f := f) (ln := tm) (t := (t.1, t.2.1, t.2.2.1, t.2.2.2.1, fFl t.1 t.2.2.2.2)) p_
    dsimp only at q2_
    rw [gm_, gt_]
    dsimp only
    refine ⟨Or.inr ⟨by rw [q2_]; exact p_, ?_, rfl⟩, fun z_ => absurd rfl z_⟩
    rw [q2_]
    unfold fFl; rw [if_pos hf_, hk_.1]
end SX
