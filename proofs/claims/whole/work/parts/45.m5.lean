/-! the reading of a text, the model's way -/
def mB (f : Nat → Int32) (tm j : Nat) : Int32 := if j < tm then f j else -1
theorem mB_lt {f : Nat → Int32} {tm j : Nat} {v : Int32} (h_ : mB f tm j = v) (hv_ : ¬ v = -1) : j < tm := by
  unfold mB at h_
  by_cases q_ : j < tm
  · exact q_
  · rw [if_neg q_] at h_; exact absurd h_.symm hv_
theorem mB_l {f : Nat → Int32} {tm j : Nat} (h_ : isL (mB f tm) j) : j < tm := by
  unfold isL mB at h_
  by_cases q_ : j < tm
  · exact q_
  · rw [if_neg q_] at h_; exact absurd h_.1 (by decide)
theorem mB_d {f : Nat → Int32} {tm j : Nat} (h_ : isD (mB f tm) j) : j < tm := by
  unfold isD mB at h_
  by_cases q_ : j < tm
  · exact q_
  · rw [if_neg q_] at h_; exact absurd h_.1 (by decide)
theorem mB_p {f : Nat → Int32} {tm j : Nat} (hf_ : ∀ j_, j_ < tm → 0 ≤ f j_) (h_ : ¬ mB f tm j < 0) : j < tm := by
  unfold mB at h_
  by_cases q_ : j < tm
  · exact q_
  · rw [if_neg q_] at h_; exact absurd (by decide) h_
theorem mB_n {f : Nat → Int32} {tm j : Nat} (hf_ : ∀ j_, j_ < tm → 0 ≤ f j_) (h_ : mB f tm j < 0) : tm ≤ j := by
  unfold mB at h_
  by_cases q_ : j < tm
  · rw [if_pos q_] at h_; exact absurd h_ (Int32.not_lt.mpr (hf_ j q_))
  · omega
def mWd (b : Nat → Int32) (s : Nat) : Nat → Int64
  | 0 => 0
  | k + 1 => if k < 9 then 27 * mWd b s k + (b (s + k)).toInt64 - 96 else -1
def mVl (b : Nat → Int32) (s : Nat) : Nat → Int32
  | 0 => 0
  | k + 1 => if k < 3 then 10 * mVl b s k + b (s + k) - 48 else -1
theorem mWd_t {b : Nat → Int32} {s e : Nat} {v : Int64} (hv_ : v = mWd b s (e - s)) (hse_ : s ≤ e) (h_ : e - s < 9) : 27 * v + (b e).toInt64 - 96 = mWd b s (e + 1 - s) := by
  rw [show e + 1 - s = (e - s) + 1 by omega]; unfold mWd
  rw [if_pos h_, hv_, show s + (e - s) = e by omega]
theorem mWd_f {b : Nat → Int32} {s e : Nat} (hse_ : s ≤ e) (h_ : ¬ e - s < 9) : -1 = mWd b s (e + 1 - s) := by
  rw [show e + 1 - s = (e - s) + 1 by omega]; unfold mWd
  rw [if_neg h_]
theorem mVl_t {b : Nat → Int32} {s e : Nat} {v : Int32} (hv_ : v = mVl b s (e - s)) (hse_ : s ≤ e) (h_ : e - s < 3) : 10 * v + b e - 48 = mVl b s (e + 1 - s) := by
  rw [show e + 1 - s = (e - s) + 1 by omega]; unfold mVl
  rw [if_pos h_, hv_, show s + (e - s) = e by omega]
theorem mVl_f {b : Nat → Int32} {s e : Nat} (hse_ : s ≤ e) (h_ : ¬ e - s < 3) : -1 = mVl b s (e + 1 - s) := by
  rw [show e + 1 - s = (e - s) + 1 by omega]; unfold mVl
  rw [if_neg h_]
abbrev M5t : Type := Nat × Nat × Int32 × Int64 × Int32
abbrev M6t : Type := Nat × Nat × Int32 × Int64 × Int32 × Int32
noncomputable def mSk (f : Nat → Int32) (tm en : Nat) : Nat := fRun (isW (mB f tm)) (tm - en) en
/-- the next token, from a place on -/
noncomputable def mAdv (f : Nat → Int32) (tm en : Nat) : M5t :=
  cif (tm ≤ mSk f tm en) (mSk f tm en, mSk f tm en, 0, 0, mB f tm (mSk f tm en))
    (cif (isL (mB f tm) (mSk f tm en)) (mSk f tm en, fRun (isL (mB f tm)) (tm - mSk f tm en) (mSk f tm en), 1, mWd (mB f tm) (mSk f tm en) (fRun (isL (mB f tm)) (tm - mSk f tm en) (mSk f tm en) - mSk f tm en), mB f tm (mSk f tm en))
      (cif (isD (mB f tm) (mSk f tm en)) (mSk f tm en, fRun (isD (mB f tm)) (tm - mSk f tm en) (mSk f tm en), 2, 0, mVl (mB f tm) (mSk f tm en) (fRun (isD (mB f tm)) (tm - mSk f tm en) (mSk f tm en) - mSk f tm en))
        (mSk f tm en, mSk f tm en + 1, 3, 0, mB f tm (mSk f tm en))))
theorem mAdv_e {f : Nat → Int32} {tm en s : Nat} (hs_ : mSk f tm en = s) (h_ : tm ≤ s) : mAdv f tm en = (s, s, 0, 0, mB f tm s) := by
  unfold mAdv; rw [hs_, cif_t h_]
theorem mAdv_l {f : Nat → Int32} {tm en s e : Nat} {w : Int64} (hs_ : mSk f tm en = s) (h_ : s < tm) (hl_ : isL (mB f tm) s) (he_ : fRun (isL (mB f tm)) (tm - s) s = e) (hw_ : w = mWd (mB f tm) s (e - s)) : mAdv f tm en = (s, e, 1, w, mB f tm s) := by
  unfold mAdv; rw [hs_, cif_f (by omega), cif_t hl_, he_, hw_]
theorem mAdv_d {f : Nat → Int32} {tm en s e : Nat} {v : Int32} (hs_ : mSk f tm en = s) (h_ : s < tm) (hl_ : ¬ isL (mB f tm) s) (hd_ : isD (mB f tm) s) (he_ : fRun (isD (mB f tm)) (tm - s) s = e) (hv_ : v = mVl (mB f tm) s (e - s)) : mAdv f tm en = (s, e, 2, 0, v) := by
  unfold mAdv; rw [hs_, cif_f (by omega), cif_f hl_, cif_t hd_, he_, hv_]
theorem mAdv_o {f : Nat → Int32} {tm en s : Nat} (hs_ : mSk f tm en = s) (h_ : s < tm) (hl_ : ¬ isL (mB f tm) s) (hd_ : ¬ isD (mB f tm) s) : mAdv f tm en = (s, s + 1, 3, 0, mB f tm s) := by
  unfold mAdv; rw [hs_, cif_f (by omega), cif_f hl_, cif_f hd_]
theorem mAdv_le {f : Nat → Int32} {tm en0 : Nat} {bg en : Nat} {so : Int32} {wd : Int64} {va : Int32} (h_ : mAdv f tm en0 = (bg, en, so, wd, va)) (he_ : en0 ≤ tm) : (bg ≤ en ∧ en ≤ tm) ∧ en0 ≤ bg ∧ (¬ so = 0 → bg < en) := by
  have hs_ : en0 ≤ mSk f tm en0 ∧ mSk f tm en0 ≤ tm := by
    have i_ := fRun_in (P := isW (mB f tm)) (tm - en0) en0
    unfold mSk; omega
  unfold mAdv at h_
  generalize mSk f tm en0 = k_ at hs_ h_
  by_cases q1_ : tm ≤ k_
  · rw [cif_t q1_] at h_; cases h_
    exact ⟨⟨Nat.le_refl _, hs_.2⟩, hs_.1, fun z_ => absurd rfl z_⟩
  rw [cif_f q1_] at h_
  by_cases q2_ : isL (mB f tm) k_
  · have i_ := fRun_in (P := isL (mB f tm)) (tm - (k_ + 1)) (k_ + 1)
    rw [cif_t q2_, fRun_go (by omega) q2_] at h_; cases h_
    exact ⟨⟨by omega, by omega⟩, hs_.1, fun _ => by omega⟩
  rw [cif_f q2_] at h_
  by_cases q3_ : isD (mB f tm) k_
  · have i_ := fRun_in (P := isD (mB f tm)) (tm - (k_ + 1)) (k_ + 1)
    rw [cif_t q3_, fRun_go (by omega) q3_] at h_; cases h_
    exact ⟨⟨by omega, by omega⟩, hs_.1, fun _ => by omega⟩
  rw [cif_f q3_] at h_; cases h_
  exact ⟨⟨by omega, by omega⟩, hs_.1, fun _ => by omega⟩
noncomputable def mUp (f : Nat → Int32) (tm en : Nat) (gd : Int32) : M6t := ((mAdv f tm en).1, (mAdv f tm en).2.1, (mAdv f tm en).2.2.1, (mAdv f tm en).2.2.2.1, (mAdv f tm en).2.2.2.2, gd)
noncomputable def mNum (f : Nat → Int32) (tm : Nat) (most : Int32) (t : M6t) : Int32 × M6t :=
  cif (¬ t.2.2.2.2.2 = 0 ∧ t.2.2.1 = 2 ∧ 0 ≤ t.2.2.2.2.1 ∧ t.2.2.2.2.1 ≤ most) (t.2.2.2.2.1, mUp f tm t.2.1 1) (t.2.2.2.2.1, t.1, t.2.1, t.2.2.1, t.2.2.2.1, t.2.2.2.2.1, 0)
noncomputable def mEnd (f : Nat → Int32) (tm : Nat) (t : M6t) : M6t :=
  cif (¬ t.2.2.2.2.2 = 0 ∧ t.2.2.1 = 3 ∧ t.2.2.2.2.1 = 59) (mUp f tm t.2.1 1) (t.1, t.2.1, t.2.2.1, t.2.2.2.1, t.2.2.2.2.1, 0)
def mIs (w : Int64) (t : M6t) : Prop := ¬ t.2.2.2.2.2 = 0 ∧ t.2.2.1 = 1 ∧ t.2.2.2.1 = w
noncomputable def mMay (f : Nat → Int32) (tm : Nat) (w : Int64) (t : M6t) : Int32 × M6t := cif (mIs w t) (1, mUp f tm t.2.1 t.2.2.2.2.2) (0, t)
/-- a number that may stand behind a word -/
noncomputable def mOp (f : Nat → Int32) (tm : Nat) (w : Int64) (most wo : Int32) (t : M6t) : Int32 × M6t := cif (mIs w t) (mNum f tm most (mUp f tm t.2.1 t.2.2.2.2.2)) (wo, t)
noncomputable def mO0 (f : Nat → Int32) (tm : Nat) (n lim : Nat) (t : M6t) : M6t := if n < lim then mUp f tm t.2.1 1 else (t.1, t.2.1, t.2.2.1, t.2.2.2.1, t.2.2.2.2.1, 0)
noncomputable def mOne (f : Nat → Int32) (tm : Nat) (kd : Int32) (t : M6t) (nh : Nat) (ki te mi ar : Nat → Int32) : M6t × Nat × (Nat → Int32) × (Nat → Int32) × (Nat → Int32) × (Nat → Int32) :=
  if (mEnd f tm (mOp f tm 7096213 255 255 (mOp f tm 289913976 99 3 (mO0 f tm nh 8 t)).2).2).2.2.2.2.2 = 0 then (mEnd f tm (mOp f tm 7096213 255 255 (mOp f tm 289913976 99 3 (mO0 f tm nh 8 t)).2).2, nh, ki, te, mi, ar)
  else (mEnd f tm (mOp f tm 7096213 255 255 (mOp f tm 289913976 99 3 (mO0 f tm nh 8 t)).2).2, nh + 1, upd ki nh kd, upd te nh (mOp f tm 289913976 99 3 (mO0 f tm nh 8 t)).1, upd mi nh (mOp f tm 7096213 255 255 (mOp f tm 289913976 99 3 (mO0 f tm nh 8 t)).2).1, upd ar nh 0)
noncomputable def mSay (f : Nat → Int32) (tm : Nat) (t : M6t) (ns : Nat) (to he sw : Nat → Int32) : M6t × Nat × (Nat → Int32) × (Nat → Int32) × (Nat → Int32) :=
  if (mEnd f tm (mMay f tm 528 (mOp f tm 161156 9 5 (mNum f tm 7 (mO0 f tm ns 12 t)).2).2).2).2.2.2.2.2 = 0 then (mEnd f tm (mMay f tm 528 (mOp f tm 161156 9 5 (mNum f tm 7 (mO0 f tm ns 12 t)).2).2).2, ns, to, he, sw)
  else (mEnd f tm (mMay f tm 528 (mOp f tm 161156 9 5 (mNum f tm 7 (mO0 f tm ns 12 t)).2).2).2, ns + 1, upd to ns (mNum f tm 7 (mO0 f tm ns 12 t)).1, upd he ns (mOp f tm 161156 9 5 (mNum f tm 7 (mO0 f tm ns 12 t)).2).1, upd sw ns (mMay f tm 528 (mOp f tm 161156 9 5 (mNum f tm 7 (mO0 f tm ns 12 t)).2).2).1)
noncomputable def mKn (so : Int32) (wd : Int64) : Int32 := cif (so = 1 ∧ wd = 117481419) 0 (cif (so = 1 ∧ wd = 5730863) 1 (cif (so = 1 ∧ wd = 12333743051) 2 (cif (so = 1 ∧ wd = 2896470) 3 (cif (so = 1 ∧ wd = 242802) 4 (cif (so = 1 ∧ wd = 4560413) 5 (-1))))))
noncomputable def mLn (so : Int32) (wd : Int64) : Int32 := cif (so = 1 ∧ wd = 70312) 0 (cif (so = 1 ∧ wd = 296522) 1 (cif (so = 1 ∧ wd = 456399) 2 (cif (so = 1 ∧ wd = 1808912405) 3 (-1))))
theorem mLn_nI {so : Int32} {wd : Int64} (h_ : 0 ≤ mLn so wd) : ∃ j : Nat, j < 4 ∧ mLn so wd = nI j := by
  unfold mLn at h_ ⊢
  by_cases q0_ : so = 1 ∧ wd = 70312
  · rw [cif_t q0_]; exact ⟨0, by decide, rfl⟩
  rw [cif_f q0_] at h_ ⊢
  by_cases q1_ : so = 1 ∧ wd = 296522
  · rw [cif_t q1_]; exact ⟨1, by decide, rfl⟩
  rw [cif_f q1_] at h_ ⊢
  by_cases q2_ : so = 1 ∧ wd = 456399
  · rw [cif_t q2_]; exact ⟨2, by decide, rfl⟩
  rw [cif_f q2_] at h_ ⊢
  by_cases q3_ : so = 1 ∧ wd = 1808912405
  · rw [cif_t q3_]; exact ⟨3, by decide, rfl⟩
  rw [cif_f q3_] at h_
  exact absurd h_ (by decide)
/-- one clause -/
noncomputable def mCl (f : Nat → Int32) (tm : Nat) (x : M6t × Kt) : M6t × Kt :=
  match x with
  | ((bg, en, so, wd, va, gd), (la, ns, to, he, sw, nh, ki, te, mi, ar)) =>
    cif (0 ≤ mKn so wd)
      ((mOne f tm (mKn so wd) (bg, en, so, wd, va, gd) nh ki te mi ar).1, (la, ns, to, he, sw, (mOne f tm (mKn so wd) (bg, en, so, wd, va, gd) nh ki te mi ar).2))
      (cif (0 ≤ mLn so wd)
        (mEnd f tm (mNum f tm (([9, 9, 9, 99] : List Int32).getD (mLn so wd).toNatClampNeg 0) (mUp f tm en gd)).2, (upd la (mLn so wd).toNatClampNeg (mNum f tm (([9, 9, 9, 99] : List Int32).getD (mLn so wd).toNatClampNeg 0) (mUp f tm en gd)).1, ns, to, he, sw, nh, ki, te, mi, ar))
        (cif (so = 1 ∧ wd = 13903)
          ((mSay f tm (bg, en, so, wd, va, gd) ns to he sw).1, (la, (mSay f tm (bg, en, so, wd, va, gd) ns to he sw).2.1, (mSay f tm (bg, en, so, wd, va, gd) ns to he sw).2.2.1, (mSay f tm (bg, en, so, wd, va, gd) ns to he sw).2.2.2.1, (mSay f tm (bg, en, so, wd, va, gd) ns to he sw).2.2.2.2, nh, ki, te, mi, ar))
          ((bg, en, so, wd, va, 0), (la, ns, to, he, sw, nh, ki, te, mi, ar))))
noncomputable def mAll (f : Nat → Int32) (tm : Nat) : Nat → M6t × Kt → M6t × Kt
  | 0, x => x
  | n + 1, x => cif (x.1.2.2.2.2.2 = 0 ∨ x.1.2.2.1 = 0) x (mAll f tm n (mCl f tm x))
/-- where a state stands: within the tape; with a token that is no end, its end lies behind its begin -/
def mIn (tm : Nat) (t : M6t) : Prop := (t.1 ≤ t.2.1 ∧ t.2.1 ≤ tm) ∧ (¬ t.2.2.1 = 0 → t.1 < t.2.1)
theorem mUp_in {f : Nat → Int32} {tm en : Nat} {gd : Int32} (h_ : en ≤ tm) : mIn tm (mUp f tm en gd) ∧ en ≤ (mUp f tm en gd).1 := by
  have a_ := mAdv_le (f := f) (tm := tm) (en0 := en) (bg := (mAdv f tm en).1) (en := (mAdv f tm en).2.1) (so := (mAdv f tm en).2.2.1) (wd := (mAdv f tm en).2.2.2.1) (va := (mAdv f tm en).2.2.2.2) rfl h_
  exact ⟨⟨a_.1, a_.2.2⟩, a_.2.1⟩
theorem mUp_e {f : Nat → Int32} {tm en : Nat} {gd : Int32} {b_ e_ : Nat} {s_ : Int32} {w_ : Int64} {v_ : Int32} (h_ : mAdv f tm en = (b_, e_, s_, w_, v_)) : mUp f tm en gd = (b_, e_, s_, w_, v_, gd) := by unfold mUp; rw [h_]
theorem mNum_in {f : Nat → Int32} {tm : Nat} {most : Int32} {t : M6t} (h_ : mIn tm t) : mIn tm (mNum f tm most t).2 ∧ t.1 ≤ (mNum f tm most t).2.1 ∧ t.2.1 ≤ (mNum f tm most t).2.2.1 := by
  unfold mNum
  by_cases q_ : ¬ t.2.2.2.2.2 = 0 ∧ t.2.2.1 = 2 ∧ 0 ≤ t.2.2.2.2.1 ∧ t.2.2.2.2.1 ≤ most
  · rw [cif_t q_]
    have a_ := mUp_in (f := f) (gd := 1) h_.1.2
    exact ⟨a_.1, Nat.le_trans h_.1.1 a_.2, Nat.le_trans a_.2 a_.1.1.1⟩
  · rw [cif_f q_]; exact ⟨h_, Nat.le_refl _, Nat.le_refl _⟩
theorem mEnd_in {f : Nat → Int32} {tm : Nat} {t : M6t} (h_ : mIn tm t) : mIn tm (mEnd f tm t) ∧ t.1 ≤ (mEnd f tm t).1 ∧ (¬ (mEnd f tm t).2.2.2.2.2 = 0 → t.2.1 ≤ (mEnd f tm t).1) := by
  unfold mEnd
  by_cases q_ : ¬ t.2.2.2.2.2 = 0 ∧ t.2.2.1 = 3 ∧ t.2.2.2.2.1 = 59
  · rw [cif_t q_]
    have a_ := mUp_in (f := f) (gd := 1) h_.1.2
    exact ⟨a_.1, Nat.le_trans h_.1.1 a_.2, fun _ => a_.2⟩
  · rw [cif_f q_]; exact ⟨h_, Nat.le_refl _, fun z_ => absurd rfl z_⟩
theorem mMay_in {f : Nat → Int32} {tm : Nat} {w : Int64} {t : M6t} (h_ : mIn tm t) : mIn tm (mMay f tm w t).2 ∧ t.1 ≤ (mMay f tm w t).2.1 ∧ t.2.1 ≤ (mMay f tm w t).2.2.1 := by
  unfold mMay
  by_cases q_ : mIs w t
  · rw [cif_t q_]
    have a_ := mUp_in (f := f) (gd := t.2.2.2.2.2) h_.1.2
    exact ⟨a_.1, Nat.le_trans h_.1.1 a_.2, Nat.le_trans a_.2 a_.1.1.1⟩
  · rw [cif_f q_]; exact ⟨h_, Nat.le_refl _, Nat.le_refl _⟩
theorem mOp_in {f : Nat → Int32} {tm : Nat} {w : Int64} {most wo : Int32} {t : M6t} (h_ : mIn tm t) : mIn tm (mOp f tm w most wo t).2 ∧ t.1 ≤ (mOp f tm w most wo t).2.1 ∧ t.2.1 ≤ (mOp f tm w most wo t).2.2.1 := by
  unfold mOp
  by_cases q_ : mIs w t
  · rw [cif_t q_]
    have a_ := mUp_in (f := f) (gd := t.2.2.2.2.2) h_.1.2
    have b_ := mNum_in (f := f) (most := most) a_.1
    exact ⟨b_.1, Nat.le_trans h_.1.1 (Nat.le_trans a_.2 b_.2.1), Nat.le_trans a_.2 (Nat.le_trans a_.1.1.1 b_.2.2)⟩
  · rw [cif_f q_]; exact ⟨h_, Nat.le_refl _, Nat.le_refl _⟩
theorem mO0_in {f : Nat → Int32} {tm n lim : Nat} {t : M6t} (h_ : mIn tm t) : mIn tm (mO0 f tm n lim t) ∧ t.1 ≤ (mO0 f tm n lim t).1 ∧ t.2.1 ≤ (mO0 f tm n lim t).2.1 := by
  unfold mO0
  by_cases q_ : n < lim
  · rw [if_pos q_]
    have a_ := mUp_in (f := f) (gd := 1) h_.1.2
    exact ⟨a_.1, Nat.le_trans h_.1.1 a_.2, Nat.le_trans a_.2 a_.1.1.1⟩
  · rw [if_neg q_]; exact ⟨h_, Nat.le_refl _, Nat.le_refl _⟩
theorem mNum_inE {f : Nat → Int32} {tm : Nat} {most rv : Int32} {t t1 : M6t} (e_ : mNum f tm most t = (rv, t1)) (h_ : mIn tm t) : mIn tm t1 ∧ t.1 ≤ t1.1 ∧ t.2.1 ≤ t1.2.1 := by
  have a_ := mNum_in (f := f) (most := most) h_
  rw [e_] at a_; exact a_
theorem mEnd_inE {f : Nat → Int32} {tm : Nat} {t t1 : M6t} (e_ : mEnd f tm t = t1) (h_ : mIn tm t) : mIn tm t1 ∧ t.1 ≤ t1.1 ∧ (¬ t1.2.2.2.2.2 = 0 → t.2.1 ≤ t1.1) := by
  have a_ := mEnd_in (f := f) h_
  rw [e_] at a_; exact a_
theorem mMay_inE {f : Nat → Int32} {tm : Nat} {w : Int64} {rv : Int32} {t t1 : M6t} (e_ : mMay f tm w t = (rv, t1)) (h_ : mIn tm t) : mIn tm t1 ∧ t.1 ≤ t1.1 ∧ t.2.1 ≤ t1.2.1 := by
  have a_ := mMay_in (f := f) (w := w) h_
  rw [e_] at a_; exact a_
theorem mOp_inE {f : Nat → Int32} {tm : Nat} {w : Int64} {most wo rv : Int32} {t t1 : M6t} (e_ : mOp f tm w most wo t = (rv, t1)) (h_ : mIn tm t) : mIn tm t1 ∧ t.1 ≤ t1.1 ∧ t.2.1 ≤ t1.2.1 := by
  have a_ := mOp_in (f := f) (w := w) (most := most) (wo := wo) h_
  rw [e_] at a_; exact a_
theorem mO0_inE {f : Nat → Int32} {tm n lim : Nat} {t t1 : M6t} (e_ : mO0 f tm n lim t = t1) (h_ : mIn tm t) : mIn tm t1 ∧ t.1 ≤ t1.1 ∧ t.2.1 ≤ t1.2.1 := by
  have a_ := mO0_in (f := f) (n := n) (lim := lim) h_
  rw [e_] at a_; exact a_
theorem mAdv_inE {f : Nat → Int32} {tm en0 bg en : Nat} {so : Int32} {wd : Int64} {va gq : Int32} (e_ : mAdv f tm en0 = (bg, en, so, wd, va)) (h_ : en0 ≤ tm) : mIn tm (bg, en, so, wd, va, gq) := ⟨(mAdv_le e_ h_).1, (mAdv_le e_ h_).2.2⟩
theorem mOp_1 {f : Nat → Int32} {tm : Nat} {w : Int64} {most wo rv : Int32} {t t1 : M6t} (e_ : mMay f tm w t = (rv, t1)) (h0_ : ¬ rv = 0) : mOp f tm w most wo t = mNum f tm most t1 := by
  unfold mMay at e_; unfold mOp
  by_cases q_ : mIs w t
  · rw [cif_t q_] at e_ ⊢; cases e_; rfl
  · rw [cif_f q_] at e_; cases e_; exact absurd rfl h0_
theorem mOp_0 {f : Nat → Int32} {tm : Nat} {w : Int64} {most wo rv : Int32} {t t1 : M6t} (e_ : mMay f tm w t = (rv, t1)) (h0_ : rv = 0) : mOp f tm w most wo t = (wo, t1) := by
  unfold mMay at e_; unfold mOp
  by_cases q_ : mIs w t
  · rw [cif_t q_] at e_; cases e_; exact absurd h0_ (by decide)
  · rw [cif_f q_] at e_ ⊢; cases e_; rfl
theorem mMay_01 {f : Nat → Int32} {tm : Nat} {w : Int64} {rv : Int32} {t t1 : M6t} (e_ : mMay f tm w t = (rv, t1)) : rv = 0 ∨ rv = 1 := by
  unfold mMay at e_
  by_cases q_ : mIs w t
  · rw [cif_t q_] at e_; cases e_; exact Or.inr rfl
  · rw [cif_f q_] at e_; cases e_; exact Or.inl rfl
theorem mNum_g {f : Nat → Int32} {tm : Nat} {most : Int32} {t : M6t} (h_ : t.2.2.2.2.2 = 0) : (mNum f tm most t).2.2.2.2.2.2 = 0 := by
  unfold mNum; rw [cif_f (fun z_ => z_.1 h_)]
theorem mEnd_g {f : Nat → Int32} {tm : Nat} {t : M6t} (h_ : t.2.2.2.2.2 = 0) : (mEnd f tm t).2.2.2.2.2 = 0 := by
  unfold mEnd; rw [cif_f (fun z_ => z_.1 h_)]
theorem mMay_g {f : Nat → Int32} {tm : Nat} {w : Int64} {t : M6t} (h_ : t.2.2.2.2.2 = 0) : (mMay f tm w t).2.2.2.2.2.2 = 0 := by
  unfold mMay; rw [cif_f (fun z_ => z_.1 h_)]; exact h_
theorem mOp_g {f : Nat → Int32} {tm : Nat} {w : Int64} {most wo : Int32} {t : M6t} (h_ : t.2.2.2.2.2 = 0) : (mOp f tm w most wo t).2.2.2.2.2.2 = 0 := by
  unfold mOp; rw [cif_f (fun z_ => z_.1 h_)]; exact h_
theorem mO0_g {f : Nat → Int32} {tm n lim : Nat} {t : M6t} (h_ : ¬ n < lim) : (mO0 f tm n lim t).2.2.2.2.2 = 0 := by
  unfold mO0; rw [if_neg h_]
theorem mOne_inE {f : Nat → Int32} {tm : Nat} {kd : Int32} {t t1 : M6t} {nh nh1 : Nat} {ki te mi ar ki1 te1 mi1 ar1 : Nat → Int32} (e_ : mOne f tm kd t nh ki te mi ar = (t1, nh1, ki1, te1, mi1, ar1)) (h_ : mIn tm t) (hn_ : nh ≤ 8) : mIn tm t1 ∧ t.1 ≤ t1.1 ∧ nh1 ≤ 8 ∧ (¬ t1.2.2.2.2.2 = 0 → t.2.1 ≤ t1.1) := by
  have a0_ := mO0_in (f := f) (n := nh) (lim := 8) h_
  have a1_ := mOp_in (f := f) (w := 289913976) (most := 99) (wo := 3) a0_.1
  have a2_ := mOp_in (f := f) (w := 7096213) (most := 255) (wo := 255) a1_.1
  have a3_ := mEnd_in (f := f) a2_.1
  unfold mOne at e_
  split at e_
  · cases e_
    exact ⟨a3_.1, by omega, hn_, fun z_ => by have := a3_.2.2 z_; omega⟩
  · rename_i g_
    have hlt_ : nh < 8 := Classical.byContradiction (fun z_ => g_ (mEnd_g (mOp_g (mOp_g (mO0_g z_)))))
    cases e_
    exact ⟨a3_.1, by omega, hlt_, fun z_ => by have := a3_.2.2 z_; omega⟩
theorem mSay_inE {f : Nat → Int32} {tm : Nat} {t t1 : M6t} {ns ns1 : Nat} {to he sw to1 he1 sw1 : Nat → Int32} (e_ : mSay f tm t ns to he sw = (t1, ns1, to1, he1, sw1)) (h_ : mIn tm t) (hn_ : ns ≤ 12) : mIn tm t1 ∧ t.1 ≤ t1.1 ∧ ns1 ≤ 12 ∧ (¬ t1.2.2.2.2.2 = 0 → t.2.1 ≤ t1.1) := by
  have a0_ := mO0_in (f := f) (n := ns) (lim := 12) h_
  have a1_ := mNum_in (f := f) (most := 7) a0_.1
  have a2_ := mOp_in (f := f) (w := 161156) (most := 9) (wo := 5) a1_.1
  have a3_ := mMay_in (f := f) (w := 528) a2_.1
  have a4_ := mEnd_in (f := f) a3_.1
  unfold mSay at e_
  split at e_
  · cases e_
    exact ⟨a4_.1, by omega, hn_, fun z_ => by have := a4_.2.2 z_; omega⟩
  · rename_i g_
    have hlt_ : ns < 12 := Classical.byContradiction (fun z_ => g_ (mEnd_g (mMay_g (mOp_g (mNum_g (mO0_g z_))))))
    cases e_
    exact ⟨a4_.1, by omega, hlt_, fun z_ => by have := a4_.2.2 z_; omega⟩
theorem mCl_inE {f : Nat → Int32} {tm : Nat} {x x1 : M6t × Kt} (e_ : mCl f tm x = x1) (h_ : mIn tm x.1) (hn_ : x.2.2.1 ≤ 12) (hh_ : x.2.2.2.2.2.2.1 ≤ 8) : mIn tm x1.1 ∧ x.1.1 ≤ x1.1.1 ∧ x1.2.2.1 ≤ 12 ∧ x1.2.2.2.2.2.2.1 ≤ 8 ∧ (¬ x1.1.2.2.2.2.2 = 0 → x.1.2.1 ≤ x1.1.1) := by
  obtain ⟨⟨bg, en, so, wd, va, gd⟩, la, ns, to, he, sw, nh, ki, te, mi, ar⟩ := x
  subst e_
  unfold mCl
  dsimp only at h_ hn_ hh_ ⊢
  by_cases q1_ : 0 ≤ mKn so wd
  · rw [cif_t q1_]
    have a_ := mOne_inE (f := f) (tm := tm) (kd := mKn so wd) (t := (bg, en, so, wd, va, gd)) (nh := nh) (ki := ki) (te := te) (mi := mi) (ar := ar) rfl h_ hh_
    exact ⟨a_.1, a_.2.1, hn_, a_.2.2.1, a_.2.2.2⟩
  rw [cif_f q1_]
  by_cases q2_ : 0 ≤ mLn so wd
  · rw [cif_t q2_]
    have a_ := mUp_in (f := f) (tm := tm) (gd := gd) h_.1.2
    have b_ := mNum_in (f := f) (most := ([9, 9, 9, 99] : List Int32).getD (mLn so wd).toNatClampNeg 0) a_.1
    have c_ := mEnd_in (f := f) b_.1
    have d_ := h_.1.1
    dsimp only at d_
    exact ⟨c_.1, Nat.le_trans d_ (Nat.le_trans a_.2 (Nat.le_trans b_.2.1 c_.2.1)), hn_, hh_, fun z_ => Nat.le_trans a_.2 (Nat.le_trans a_.1.1.1 (Nat.le_trans b_.2.2 (c_.2.2 z_)))⟩
  rw [cif_f q2_]
  by_cases q3_ : so = 1 ∧ wd = 13903
  · rw [cif_t q3_]
    have a_ := mSay_inE (f := f) (tm := tm) (t := (bg, en, so, wd, va, gd)) (ns := ns) (to := to) (he := he) (sw := sw) rfl h_ hn_
    exact ⟨a_.1, a_.2.1, a_.2.2.1, hh_, a_.2.2.2⟩
  rw [cif_f q3_]
  exact ⟨h_, Nat.le_refl _, hn_, hh_, fun z_ => absurd rfl z_⟩
theorem mAll_d {f : Nat → Int32} {tm n : Nat} {x : M6t × Kt} (h_ : x.1.2.2.2.2.2 = 0 ∨ x.1.2.2.1 = 0) : mAll f tm n x = x := by
  cases n with
  | zero => rfl
  | succ n => unfold mAll; exact cif_t h_
theorem mAll_s {f : Nat → Int32} {tm n : Nat} {x : M6t × Kt} (h1_ : ¬ x.1.2.2.2.2.2 = 0) (h2_ : ¬ x.1.2.2.1 = 0) (hn_ : 0 < n) : mAll f tm n x = mAll f tm (n - 1) (mCl f tm x) := by
  obtain ⟨d_, rfl⟩ : ∃ d, n = d + 1 := ⟨n - 1, by omega⟩
  conv => lhs; unfold mAll
  exact cif_f (fun z_ => z_.elim h1_ h2_)
set_option maxRecDepth 100000 in
set_option maxHeartbeats 4000000 in
theorem c_X6_byteAt (l : Launch) (G : Gd) (k : Nat) (o : Nat) (rw : Nat) (fr : Nat) (kp : Nat) (tr : Nat) (ik : Int32) (tp : Nat) (tm : Nat) (mso : Int32) (bg : Nat) (en : Nat) (wd : Int64) (va : Int32) (gd : Int32) (rs : Nat) (mu : Nat) (rm : Nat) (ss : Nat) (msz : Nat) (msh : Nat) (mho : Nat) (mhn : Nat) (mhz : Nat) (kd : Int32) (nb : Int32) (tn : Int32) (tc : Nat) (bo : Nat) (ip : Int32) (tf : Nat → Int32) (htm : tm ≤ 200) (hk : k ≤ 200) : Ct l G yX6_byteAt cX6_byteAt 2 (some (FieldType.int)) 0 [.ref o, .int (nI k)] (wF [wMo o rw fr kp tr ik tp tm mso bg en wd va gd rs mu rm ss msz msh mho mhn mhz kd nb tn tc bo ip, wI G tp 200 tf]) (some (.int (mB tf tm k))) (wF [wMo o rw fr kp tr ik tp tm mso bg en wd va gd rs mu rm ss msz msh mho mhn mhz kd nb tn tc bo ip, wI G tp 200 tf]) := by
  refine Ct.of "GooseArmsModel" [some (.ref o), some (.int (nI k))] (by decide +kernel) rfl (Nat.le_of_ble_eq_true rfl) rfl ?_
  refine J_iload_n 0 1 dX6_byteAt_0 rfl rfl ?_
  refine J_aload_n 1 0 dX6_byteAt_1 rfl rfl ?_
  refine g_795 (v := .int (nI tm)) 2 0 rfl rfl dX6_byteAt_2 ?_
  refine J_icmp_ge (tgt := 17) 5 dX6_byteAt_5 (by decide) (fun c_1_ => ?_) (fun c_1_ => ?_)
  · skip
    have c_1_ : tm ≤ k := (nI_leI (a := tm) (b := k) (by omega) (by omega)).mp c_1_
    refine J_iconst (v := (-1)) 17 dX6_byteAt_17 rfl ?_
    exact J_iret 18 dX6_byteAt_18 (congrArg (fun x_ => some (Value.int x_)) (by unfold mB; first | exact (if_pos (by omega)).symm | exact (if_neg (by omega)).symm)) rfl
  · skip
    have c_1_ : ¬ tm ≤ k := fun z_ => c_1_ ((nI_leI (a := tm) (b := k) (by omega) (by omega)).mpr z_)
    refine J_aload_n 8 0 dX6_byteAt_8 rfl rfl ?_
    refine g_794 (v := .ref tp) 9 0 rfl rfl dX6_byteAt_9 ?_
    refine J_iload_n 12 1 dX6_byteAt_12 rfl rfl ?_
    refine J_iald 13 1 k rfl rfl (by omega) (by decide) dX6_byteAt_13 ?_
    refine J_goto (tgt := 18) 14 dX6_byteAt_14 (by decide) ?_
    exact J_iret 18 dX6_byteAt_18 (congrArg (fun x_ => some (Value.int x_)) (by unfold mB; first | exact (if_pos (by omega)).symm | exact (if_neg (by omega)).symm)) rfl
set_option maxRecDepth 100000 in
set_option maxHeartbeats 4000000 in
theorem c_X6_advance (l : Launch) (G : Gd) (o : Nat) (rw : Nat) (fr : Nat) (kp : Nat) (tr : Nat) (ik : Int32) (tp : Nat) (tm : Nat) (mso : Int32) (bg : Nat) (en : Nat) (wd : Int64) (va : Int32) (gd : Int32) (rs : Nat) (mu : Nat) (rm : Nat) (ss : Nat) (msz : Nat) (msh : Nat) (mho : Nat) (mhn : Nat) (mhz : Nat) (kd : Int32) (nb : Int32) (tn : Int32) (tc : Nat) (bo : Nat) (ip : Int32) (tf : Nat → Int32) (hen : en ≤ tm) (htm : tm ≤ 200) (hbf : ∀ j_, j_ < tm → 0 ≤ tf j_) : Ct l G yX6_advance cX6_advance 2 none 2 [.ref o] (wF [wMo o rw fr kp tr ik tp tm mso bg en wd va gd rs mu rm ss msz msh mho mhn mhz kd nb tn tc bo ip, wI G tp 200 tf]) none (wF [wMo o rw fr kp tr ik tp tm ((mAdv tf tm en).2.2.1) ((mAdv tf tm en).1) ((mAdv tf tm en).2.1) ((mAdv tf tm en).2.2.2.1) ((mAdv tf tm en).2.2.2.2) gd rs mu rm ss msz msh mho mhn mhz kd nb tn tc bo ip, wI G tp 200 tf]) := by
  refine Ct.of "GooseArmsModel" [some (.ref o), none] (by decide +kernel) rfl (Nat.le_of_ble_eq_true rfl) rfl ?_
  have cut_282_ : ∀ (s : Nat) (e : Nat) (so1 : Int32) (wd1 : Int64) (va1 : Int32), (ht : mAdv tf tm en = (s, e, so1, wd1, va1)) → J l G (bd G 2 none none (wF [wMo o rw fr kp tr ik tp tm ((mAdv tf tm en).2.2.1) ((mAdv tf tm en).1) ((mAdv tf tm en).2.1) ((mAdv tf tm en).2.2.2.1) ((mAdv tf tm en).2.2.2.2) gd rs mu rm ss msz msh mho mhn mhz kd nb tn tc bo ip, wI G tp 200 tf])) cX6_advance 2 "GooseArmsModel" 282 [some (.ref o), none] [] (wF [wMo o rw fr kp tr ik tp tm so1 s e wd1 va1 gd rs mu rm ss msz msh mho mhn mhz kd nb tn tc bo ip, wI G tp 200 tf]) := by
    intro s e so1 wd1 va1 ht
    exact J_vret 282 dX6_advance_282 rfl (cg5 (fun (x0_ : Int32) (x1_ : Nat) (x2_ : Nat) (x3_ : Int64) (x4_ : Int32) => (wF [wMo o rw fr kp tr ik tp tm x0_ x1_ x2_ x3_ x4_ gd rs mu rm ss msz msh mho mhn mhz kd nb tn tc bo ip, wI G tp 200 tf])) so1 ((mAdv tf tm en).2.2.1) s ((mAdv tf tm en).1) e ((mAdv tf tm en).2.1) wd1 ((mAdv tf tm en).2.2.2.1) va1 ((mAdv tf tm en).2.2.2.2) (by rw [ht]) (by rw [ht]) (by rw [ht]) (by rw [ht]) (by rw [ht]))
  have cut_207_ : ∀ (n_207_ : Nat) (s : Nat) (e : Nat) (va1 : Int32), (tm - e < n_207_) → (hs : mSk tf tm en = s) → (hsl : s < tm) → (hl : ¬ isL (mB tf tm) s) → (hd : isD (mB tf tm) s) → (hse1 : s ≤ e) → (hel : e ≤ tm) → (he : fRun (isD (mB tf tm)) (tm - s) s = fRun (isD (mB tf tm)) (tm - e) e) → (hv : va1 = mVl (mB tf tm) s (e - s)) → J l G (bd G 2 none none (wF [wMo o rw fr kp tr ik tp tm ((mAdv tf tm en).2.2.1) ((mAdv tf tm en).1) ((mAdv tf tm en).2.1) ((mAdv tf tm en).2.2.2.1) ((mAdv tf tm en).2.2.2.2) gd rs mu rm ss msz msh mho mhn mhz kd nb tn tc bo ip, wI G tp 200 tf])) cX6_advance 2 "GooseArmsModel" 207 [some (.ref o), none] [] (wF [wMo o rw fr kp tr ik tp tm 2 s e 0 va1 gd rs mu rm ss msz msh mho mhn mhz kd nb tn tc bo ip, wI G tp 200 tf]) := by
    intro n_207_
    induction n_207_ with
    | zero => intro s e va1 m_207_; exact absurd m_207_ (Nat.not_lt_zero _)
    | succ n_207_ ih_207_ =>
      intro s e va1 m_207_ hs hsl hl hd hse1 hel he hv
      refine J_aload_n 207 0 dX6_advance_207 rfl rfl ?_
      refine g_796 (v := .int 2) 208 0 rfl rfl dX6_advance_208 ?_
      refine J_iconst (v := 2) 211 dX6_advance_211 rfl ?_
      refine J_icmp_ne (tgt := 282) 212 dX6_advance_212 (by decide) (fun c_1_ => absurd c_1_ (by decide)) (fun _ => ?_)
      refine J_aload_n 215 0 dX6_advance_215 rfl rfl ?_
      refine J_aload_n 216 0 dX6_advance_216 rfl rfl ?_
      refine g_798 (v := .int (nI e)) 217 0 rfl rfl dX6_advance_217 ?_
      refine kb_RX6_72 (bs' := [wMo o rw fr kp tr ik tp tm 2 s e 0 va1 gd rs mu rm ss msz msh mho mhn mhz kd nb tn tc bo ip, wI G tp 200 tf]) (rest := []) (st' := [.int (mB tf tm e)]) 220 (c_X6_byteAt l G e o rw fr kp tr ik tp tm 2 s e 0 va1 gd rs mu rm ss msz msh mho mhn mhz kd nb tn tc bo ip tf (by first | omega | assumption) (by first | omega | assumption)) [0, 1] 0 rfl rfl rfl [[o], [tp]] rfl rfl rfl rfl rfl rfl (Nat.le_of_ble_eq_true rfl) rfl dX6_advance_220 ?_
      refine kb_RX6_80 (bs' := [wMo o rw fr kp tr ik tp tm 2 s e 0 va1 gd rs mu rm ss msz msh mho mhn mhz kd nb tn tc bo ip, wI G tp 200 tf]) (rest := []) (st' := [.int (bI (48 ≤ (mB tf tm e) ∧ (mB tf tm e) ≤ 57))]) 223 (c_X6_isDigit l G (mB tf tm e) ) [] rfl rfl [] rfl rfl rfl rfl rfl rfl (Nat.le_of_ble_eq_true rfl) rfl dX6_advance_223 ?_
      refine J_ifB_eq (tgt := 282) 226 dX6_advance_226 (by decide) (fun c_2_ => ?_) (fun c_2_ => ?_)
      · skip
        exact cut_282_ s e 2 0 va1 (by first | exact mAdv_e hsk_ (by omega) | exact mAdv_l hs hsl hl (he.trans (fRun_no (by assumption))) hw | exact mAdv_d hs hsl hl hd (he.trans (fRun_no (by assumption))) hv | exact mAdv_o hsk_ (by omega) (by assumption) (by assumption) | (exfalso; omega))
      · skip
        have hlt_ := mB_d c_2_
        refine J_aload_n 229 0 dX6_advance_229 rfl rfl ?_
        refine J_aload_n 230 0 dX6_advance_230 rfl rfl ?_
        refine g_798 (v := .int (nI e)) 231 0 rfl rfl dX6_advance_231 ?_
        refine J_aload_n 234 0 dX6_advance_234 rfl rfl ?_
        refine g_797 (v := .int (nI s)) 235 0 rfl rfl dX6_advance_235 ?_
        refine J_isub 238 dX6_advance_238 ?_
        refine J_topi (y := nI (e - s)) 239 (pk_sub (by omega)) ?_
        refine J_iconst (v := 3) 239 dX6_advance_239 rfl ?_
        refine J_icmp_ge (tgt := 265) 240 dX6_advance_240 (by decide) (fun c_3_ => ?_) (fun c_3_ => ?_)
        · skip
          have c_3_ : 3 ≤ (e - s) := (nI_leI (a := 3) (b := (e - s)) (by omega) (by omega)).mp c_3_
          refine J_iconst (v := (-1)) 265 dX6_advance_265 rfl ?_
          refine p_800 (ws' := (wF [wMo o rw fr kp tr ik tp tm 2 s e 0 (-1) gd rs mu rm ss msz msh mho mhn mhz kd nb tn tc bo ip, wI G tp 200 tf])) 266 0 rfl rfl rfl (Nat.le_of_ble_eq_true rfl) rfl dX6_advance_266 ?_
          refine J_aload_n 269 0 dX6_advance_269 rfl rfl ?_
          refine J_dup 270 dX6_advance_270 rfl ?_
          refine g_798 (v := .int (nI e)) 271 0 rfl rfl dX6_advance_271 ?_
          refine J_iconst (v := 1) 274 dX6_advance_274 rfl ?_
          refine J_iadd 275 dX6_advance_275 ?_
          refine J_topi (y := nI (e + 1)) 276 (nI_add e 1) ?_
          refine p_798 (ws' := (wF [wMo o rw fr kp tr ik tp tm 2 s (e + 1) 0 (-1) gd rs mu rm ss msz msh mho mhn mhz kd nb tn tc bo ip, wI G tp 200 tf])) 276 0 rfl rfl rfl (Nat.le_of_ble_eq_true rfl) rfl dX6_advance_276 ?_
          refine J_goto (tgt := 207) 279 dX6_advance_279 (by decide) ?_
          exact ih_207_ s (e + 1) (-1) (by omega) (by first | assumption | exact hsk_) (by first | assumption | omega | rfl) (by first | assumption | omega | rfl) (by first | assumption | omega | rfl) (by first | assumption | omega | rfl) (by first | assumption | omega | rfl) (by first | rfl | exact he.trans (fRun_go (mB_d (by assumption)) (by assumption))) (by first | (rw [Nat.sub_self]; rfl) | exact mVl_t hv (by omega) (by omega) | exact mVl_f (by omega) (by omega))
        · skip
          have c_3_ : ¬ 3 ≤ (e - s) := fun z_ => c_3_ ((nI_leI (a := 3) (b := (e - s)) (by omega) (by omega)).mpr z_)
          refine J_bipush (v := 10) 243 dX6_advance_243 rfl ?_
          refine J_aload_n 245 0 dX6_advance_245 rfl rfl ?_
          refine g_800 (v := .int va1) 246 0 rfl rfl dX6_advance_246 ?_
          refine J_imul 249 dX6_advance_249 ?_
          refine J_aload_n 250 0 dX6_advance_250 rfl rfl ?_
          refine J_aload_n 251 0 dX6_advance_251 rfl rfl ?_
          refine g_798 (v := .int (nI e)) 252 0 rfl rfl dX6_advance_252 ?_
          refine kb_RX6_72 (bs' := [wMo o rw fr kp tr ik tp tm 2 s e 0 va1 gd rs mu rm ss msz msh mho mhn mhz kd nb tn tc bo ip, wI G tp 200 tf]) (rest := [.int (10 * va1), .ref o]) (st' := [.int (mB tf tm e), .int (10 * va1), .ref o]) 255 (c_X6_byteAt l G e o rw fr kp tr ik tp tm 2 s e 0 va1 gd rs mu rm ss msz msh mho mhn mhz kd nb tn tc bo ip tf (by first | omega | assumption) (by first | omega | assumption)) [0, 1] 0 rfl rfl rfl [[o], [tp]] rfl rfl rfl rfl rfl rfl (Nat.le_of_ble_eq_true rfl) rfl dX6_advance_255 ?_
          refine J_iadd 258 dX6_advance_258 ?_
          refine J_bipush (v := 48) 259 dX6_advance_259 rfl ?_
          refine J_isub 261 dX6_advance_261 ?_
          refine J_goto (tgt := 266) 262 dX6_advance_262 (by decide) ?_
          refine p_800 (ws' := (wF [wMo o rw fr kp tr ik tp tm 2 s e 0 (((10 * va1) + (mB tf tm e)) - 48) gd rs mu rm ss msz msh mho mhn mhz kd nb tn tc bo ip, wI G tp 200 tf])) 266 0 rfl rfl rfl (Nat.le_of_ble_eq_true rfl) rfl dX6_advance_266 ?_
          refine J_aload_n 269 0 dX6_advance_269 rfl rfl ?_
          refine J_dup 270 dX6_advance_270 rfl ?_
          refine g_798 (v := .int (nI e)) 271 0 rfl rfl dX6_advance_271 ?_
          refine J_iconst (v := 1) 274 dX6_advance_274 rfl ?_
          refine J_iadd 275 dX6_advance_275 ?_
          refine J_topi (y := nI (e + 1)) 276 (nI_add e 1) ?_
          refine p_798 (ws' := (wF [wMo o rw fr kp tr ik tp tm 2 s (e + 1) 0 (((10 * va1) + (mB tf tm e)) - 48) gd rs mu rm ss msz msh mho mhn mhz kd nb tn tc bo ip, wI G tp 200 tf])) 276 0 rfl rfl rfl (Nat.le_of_ble_eq_true rfl) rfl dX6_advance_276 ?_
          refine J_goto (tgt := 207) 279 dX6_advance_279 (by decide) ?_
          exact ih_207_ s (e + 1) (((10 * va1) + (mB tf tm e)) - 48) (by omega) (by first | assumption | exact hsk_) (by first | assumption | omega | rfl) (by first | assumption | omega | rfl) (by first | assumption | omega | rfl) (by first | assumption | omega | rfl) (by first | assumption | omega | rfl) (by first | rfl | exact he.trans (fRun_go (mB_d (by assumption)) (by assumption))) (by first | (rw [Nat.sub_self]; rfl) | exact mVl_t hv (by omega) (by omega) | exact mVl_f (by omega) (by omega))
  have cut_126_ : ∀ (n_126_ : Nat) (s : Nat) (e : Nat) (wd1 : Int64), (tm - e < n_126_) → (hs : mSk tf tm en = s) → (hsl : s < tm) → (hl : isL (mB tf tm) s) → (hse1 : s ≤ e) → (hel : e ≤ tm) → (he : fRun (isL (mB tf tm)) (tm - s) s = fRun (isL (mB tf tm)) (tm - e) e) → (hw : wd1 = mWd (mB tf tm) s (e - s)) → J l G (bd G 2 none none (wF [wMo o rw fr kp tr ik tp tm ((mAdv tf tm en).2.2.1) ((mAdv tf tm en).1) ((mAdv tf tm en).2.1) ((mAdv tf tm en).2.2.2.1) ((mAdv tf tm en).2.2.2.2) gd rs mu rm ss msz msh mho mhn mhz kd nb tn tc bo ip, wI G tp 200 tf])) cX6_advance 2 "GooseArmsModel" 126 [some (.ref o), none] [] (wF [wMo o rw fr kp tr ik tp tm 1 s e wd1 (mB tf tm s) gd rs mu rm ss msz msh mho mhn mhz kd nb tn tc bo ip, wI G tp 200 tf]) := by
    intro n_126_
    induction n_126_ with
    | zero => intro s e wd1 m_126_; exact absurd m_126_ (Nat.not_lt_zero _)
    | succ n_126_ ih_126_ =>
      intro s e wd1 m_126_ hs hsl hl hse1 hel he hw
      refine J_aload_n 126 0 dX6_advance_126 rfl rfl ?_
      refine g_796 (v := .int 1) 127 0 rfl rfl dX6_advance_127 ?_
      refine J_iconst (v := 1) 130 dX6_advance_130 rfl ?_
      refine J_icmp_ne (tgt := 207) 131 dX6_advance_131 (by decide) (fun c_4_ => absurd c_4_ (by decide)) (fun _ => ?_)
      refine J_aload_n 134 0 dX6_advance_134 rfl rfl ?_
      refine J_aload_n 135 0 dX6_advance_135 rfl rfl ?_
      refine g_798 (v := .int (nI e)) 136 0 rfl rfl dX6_advance_136 ?_
      refine kb_RX6_72 (bs' := [wMo o rw fr kp tr ik tp tm 1 s e wd1 (mB tf tm s) gd rs mu rm ss msz msh mho mhn mhz kd nb tn tc bo ip, wI G tp 200 tf]) (rest := []) (st' := [.int (mB tf tm e)]) 139 (c_X6_byteAt l G e o rw fr kp tr ik tp tm 1 s e wd1 (mB tf tm s) gd rs mu rm ss msz msh mho mhn mhz kd nb tn tc bo ip tf (by first | omega | assumption) (by first | omega | assumption)) [0, 1] 0 rfl rfl rfl [[o], [tp]] rfl rfl rfl rfl rfl rfl (Nat.le_of_ble_eq_true rfl) rfl dX6_advance_139 ?_
      refine kb_RX6_76 (bs' := [wMo o rw fr kp tr ik tp tm 1 s e wd1 (mB tf tm s) gd rs mu rm ss msz msh mho mhn mhz kd nb tn tc bo ip, wI G tp 200 tf]) (rest := []) (st' := [.int (bI (97 ≤ (mB tf tm e) ∧ (mB tf tm e) ≤ 122))]) 142 (c_X6_isLetter l G (mB tf tm e) ) [] rfl rfl [] rfl rfl rfl rfl rfl rfl (Nat.le_of_ble_eq_true rfl) rfl dX6_advance_142 ?_
      refine J_ifB_eq (tgt := 207) 145 dX6_advance_145 (by decide) (fun c_5_ => ?_) (fun c_5_ => ?_)
      · skip
        refine J_aload_n 207 0 dX6_advance_207 rfl rfl ?_
        refine g_796 (v := .int 1) 208 0 rfl rfl dX6_advance_208 ?_
        refine J_iconst (v := 2) 211 dX6_advance_211 rfl ?_
        refine J_icmp_ne (tgt := 282) 212 dX6_advance_212 (by decide) (fun _ => ?_) (fun c_6_ => absurd c_6_ (by decide))
        exact cut_282_ s e 1 wd1 (mB tf tm s) (by first | exact mAdv_e hsk_ (by omega) | exact mAdv_l hs hsl hl (he.trans (fRun_no (by assumption))) hw | exact mAdv_d hs hsl hl hd (he.trans (fRun_no (by assumption))) hv | exact mAdv_o hsk_ (by omega) (by assumption) (by assumption) | (exfalso; omega))
      · skip
        have hlt_ := mB_l c_5_
        refine J_aload_n 148 0 dX6_advance_148 rfl rfl ?_
        refine J_aload_n 149 0 dX6_advance_149 rfl rfl ?_
        refine g_798 (v := .int (nI e)) 150 0 rfl rfl dX6_advance_150 ?_
        refine J_aload_n 153 0 dX6_advance_153 rfl rfl ?_
        refine g_797 (v := .int (nI s)) 154 0 rfl rfl dX6_advance_154 ?_
        refine J_isub 157 dX6_advance_157 ?_
        refine J_topi (y := nI (e - s)) 158 (pk_sub (by omega)) ?_
        refine J_bipush (v := 9) 158 dX6_advance_158 rfl ?_
        refine J_icmp_ge (tgt := 188) 160 dX6_advance_160 (by decide) (fun c_7_ => ?_) (fun c_7_ => ?_)
        · skip
          have c_7_ : 9 ≤ (e - s) := (nI_leI (a := 9) (b := (e - s)) (by omega) (by omega)).mp c_7_
          refine J_ldc2 (v := (-1)) 188 w_902 dX6_advance_188 ?_
          refine p_799 (ws' := (wF [wMo o rw fr kp tr ik tp tm 1 s e (-1) (mB tf tm s) gd rs mu rm ss msz msh mho mhn mhz kd nb tn tc bo ip, wI G tp 200 tf])) 191 0 rfl rfl rfl (Nat.le_of_ble_eq_true rfl) rfl dX6_advance_191 ?_
          refine J_aload_n 194 0 dX6_advance_194 rfl rfl ?_
          refine J_dup 195 dX6_advance_195 rfl ?_
          refine g_798 (v := .int (nI e)) 196 0 rfl rfl dX6_advance_196 ?_
          refine J_iconst (v := 1) 199 dX6_advance_199 rfl ?_
          refine J_iadd 200 dX6_advance_200 ?_
          refine J_topi (y := nI (e + 1)) 201 (nI_add e 1) ?_
          refine p_798 (ws' := (wF [wMo o rw fr kp tr ik tp tm 1 s (e + 1) (-1) (mB tf tm s) gd rs mu rm ss msz msh mho mhn mhz kd nb tn tc bo ip, wI G tp 200 tf])) 201 0 rfl rfl rfl (Nat.le_of_ble_eq_true rfl) rfl dX6_advance_201 ?_
          refine J_goto (tgt := 126) 204 dX6_advance_204 (by decide) ?_
          exact ih_126_ s (e + 1) (-1) (by omega) (by first | assumption | exact hsk_) (by first | assumption | omega | rfl) (by first | assumption | omega | rfl) (by first | assumption | omega | rfl) (by first | assumption | omega | rfl) (by first | rfl | exact he.trans (fRun_go (mB_l (by assumption)) (by assumption))) (by first | (rw [Nat.sub_self]; rfl) | exact mWd_t hw (by omega) (by omega) | exact mWd_f (by omega) (by omega))
        · skip
          have c_7_ : ¬ 9 ≤ (e - s) := fun z_ => c_7_ ((nI_leI (a := 9) (b := (e - s)) (by omega) (by omega)).mpr z_)
          refine J_ldc2 (v := 27) 163 w_900 dX6_advance_163 ?_
          refine J_aload_n 166 0 dX6_advance_166 rfl rfl ?_
          refine g_799 (v := .long wd1) 167 0 rfl rfl dX6_advance_167 ?_
          refine J_lmul 170 dX6_advance_170 ?_
          refine J_aload_n 171 0 dX6_advance_171 rfl rfl ?_
          refine J_aload_n 172 0 dX6_advance_172 rfl rfl ?_
          refine g_798 (v := .int (nI e)) 173 0 rfl rfl dX6_advance_173 ?_
          refine kb_RX6_72 (bs' := [wMo o rw fr kp tr ik tp tm 1 s e wd1 (mB tf tm s) gd rs mu rm ss msz msh mho mhn mhz kd nb tn tc bo ip, wI G tp 200 tf]) (rest := [.long (27 * wd1), .ref o]) (st' := [.int (mB tf tm e), .long (27 * wd1), .ref o]) 176 (c_X6_byteAt l G e o rw fr kp tr ik tp tm 1 s e wd1 (mB tf tm s) gd rs mu rm ss msz msh mho mhn mhz kd nb tn tc bo ip tf (by first | omega | assumption) (by first | omega | assumption)) [0, 1] 0 rfl rfl rfl [[o], [tp]] rfl rfl rfl rfl rfl rfl (Nat.le_of_ble_eq_true rfl) rfl dX6_advance_176 ?_
          refine J_i2l 179 dX6_advance_179 ?_
          refine J_ladd 180 dX6_advance_180 ?_
          refine J_ldc2 (v := 96) 181 w_901 dX6_advance_181 ?_
          refine J_lsub 184 dX6_advance_184 ?_
          refine J_goto (tgt := 191) 185 dX6_advance_185 (by decide) ?_
          refine p_799 (ws' := (wF [wMo o rw fr kp tr ik tp tm 1 s e (((27 * wd1) + ((mB tf tm e).toInt64)) - 96) (mB tf tm s) gd rs mu rm ss msz msh mho mhn mhz kd nb tn tc bo ip, wI G tp 200 tf])) 191 0 rfl rfl rfl (Nat.le_of_ble_eq_true rfl) rfl dX6_advance_191 ?_
          refine J_aload_n 194 0 dX6_advance_194 rfl rfl ?_
          refine J_dup 195 dX6_advance_195 rfl ?_
          refine g_798 (v := .int (nI e)) 196 0 rfl rfl dX6_advance_196 ?_
          refine J_iconst (v := 1) 199 dX6_advance_199 rfl ?_
          refine J_iadd 200 dX6_advance_200 ?_
          refine J_topi (y := nI (e + 1)) 201 (nI_add e 1) ?_
          refine p_798 (ws' := (wF [wMo o rw fr kp tr ik tp tm 1 s (e + 1) (((27 * wd1) + ((mB tf tm e).toInt64)) - 96) (mB tf tm s) gd rs mu rm ss msz msh mho mhn mhz kd nb tn tc bo ip, wI G tp 200 tf])) 201 0 rfl rfl rfl (Nat.le_of_ble_eq_true rfl) rfl dX6_advance_201 ?_
          refine J_goto (tgt := 126) 204 dX6_advance_204 (by decide) ?_
          exact ih_126_ s (e + 1) (((27 * wd1) + ((mB tf tm e).toInt64)) - 96) (by omega) (by first | assumption | exact hsk_) (by first | assumption | omega | rfl) (by first | assumption | omega | rfl) (by first | assumption | omega | rfl) (by first | assumption | omega | rfl) (by first | rfl | exact he.trans (fRun_go (mB_l (by assumption)) (by assumption))) (by first | (rw [Nat.sub_self]; rfl) | exact mWd_t hw (by omega) (by omega) | exact mWd_f (by omega) (by omega))
  have cut_8_ : ∀ (n_8_ : Nat) (s : Nat), (tm - s < n_8_) → (hsl : s ≤ tm) → (hes : en ≤ s) → (hs : mSk tf tm en = fRun (isW (mB tf tm)) (tm - s) s) → J l G (bd G 2 none none (wF [wMo o rw fr kp tr ik tp tm ((mAdv tf tm en).2.2.1) ((mAdv tf tm en).1) ((mAdv tf tm en).2.1) ((mAdv tf tm en).2.2.2.1) ((mAdv tf tm en).2.2.2.2) gd rs mu rm ss msz msh mho mhn mhz kd nb tn tc bo ip, wI G tp 200 tf])) cX6_advance 2 "GooseArmsModel" 8 [some (.ref o), none] [] (wF [wMo o rw fr kp tr ik tp tm mso s en wd va gd rs mu rm ss msz msh mho mhn mhz kd nb tn tc bo ip, wI G tp 200 tf]) := by
    intro n_8_
    induction n_8_ with
    | zero => intro s m_8_; exact absurd m_8_ (Nat.not_lt_zero _)
    | succ n_8_ ih_8_ =>
      intro s m_8_ hsl hes hs
      refine J_aload_n 8 0 dX6_advance_8 rfl rfl ?_
      refine J_aload_n 9 0 dX6_advance_9 rfl rfl ?_
      refine g_797 (v := .int (nI s)) 10 0 rfl rfl dX6_advance_10 ?_
      refine kb_RX6_72 (bs' := [wMo o rw fr kp tr ik tp tm mso s en wd va gd rs mu rm ss msz msh mho mhn mhz kd nb tn tc bo ip, wI G tp 200 tf]) (rest := []) (st' := [.int (mB tf tm s)]) 13 (c_X6_byteAt l G s o rw fr kp tr ik tp tm mso s en wd va gd rs mu rm ss msz msh mho mhn mhz kd nb tn tc bo ip tf (by first | omega | assumption) (by first | omega | assumption)) [0, 1] 0 rfl rfl rfl [[o], [tp]] rfl rfl rfl rfl rfl rfl (Nat.le_of_ble_eq_true rfl) rfl dX6_advance_13 ?_
      refine J_bipush (v := 32) 16 dX6_advance_16 rfl ?_
      refine J_icmp_ne (tgt := 34) 18 dX6_advance_18 (by decide) (fun c_8_ => ?_) (fun c_8_ => ?_)
      · skip
        have hsk_ : mSk tf tm en = s := hs.trans (fRun_no c_8_)
        refine J_aload_n 34 0 dX6_advance_34 rfl rfl ?_
        refine J_aload_n 35 0 dX6_advance_35 rfl rfl ?_
        refine g_797 (v := .int (nI s)) 36 0 rfl rfl dX6_advance_36 ?_
        refine p_798 (ws' := (wF [wMo o rw fr kp tr ik tp tm mso s s wd va gd rs mu rm ss msz msh mho mhn mhz kd nb tn tc bo ip, wI G tp 200 tf])) 39 0 rfl rfl rfl (Nat.le_of_ble_eq_true rfl) rfl dX6_advance_39 ?_
        refine J_aload_n 42 0 dX6_advance_42 rfl rfl ?_
        refine J_aload_n 43 0 dX6_advance_43 rfl rfl ?_
        refine g_797 (v := .int (nI s)) 44 0 rfl rfl dX6_advance_44 ?_
        refine kb_RX6_72 (bs' := [wMo o rw fr kp tr ik tp tm mso s s wd va gd rs mu rm ss msz msh mho mhn mhz kd nb tn tc bo ip, wI G tp 200 tf]) (rest := []) (st' := [.int (mB tf tm s)]) 47 (c_X6_byteAt l G s o rw fr kp tr ik tp tm mso s s wd va gd rs mu rm ss msz msh mho mhn mhz kd nb tn tc bo ip tf (by first | omega | assumption) (by first | omega | assumption)) [0, 1] 0 rfl rfl rfl [[o], [tp]] rfl rfl rfl rfl rfl rfl (Nat.le_of_ble_eq_true rfl) rfl dX6_advance_47 ?_
        refine J_istore_n (lv' := [some (.ref o), some (.int (mB tf tm s))]) 50 1 dX6_advance_50 rfl (by decide) rfl ?_
        refine J_aload_n 51 0 dX6_advance_51 rfl rfl ?_
        refine J_iload_n 52 1 dX6_advance_52 rfl rfl ?_
        refine J_if_ge (tgt := 60) 53 dX6_advance_53 (by decide) (fun c_9_ => ?_) (fun c_9_ => ?_)
        · skip
          have hlt_ := mB_p hbf (Int32.not_lt.mpr c_9_)
          refine J_iload_n 60 1 dX6_advance_60 rfl rfl ?_
          refine kb_RX6_76 (bs' := [wMo o rw fr kp tr ik tp tm mso s s wd va gd rs mu rm ss msz msh mho mhn mhz kd nb tn tc bo ip, wI G tp 200 tf]) (rest := [.ref o]) (st' := [.int (bI (97 ≤ (mB tf tm s) ∧ (mB tf tm s) ≤ 122)), .ref o]) 61 (c_X6_isLetter l G (mB tf tm s) ) [] rfl rfl [] rfl rfl rfl rfl rfl rfl (Nat.le_of_ble_eq_true rfl) rfl dX6_advance_61 ?_
          refine J_ifB_eq (tgt := 71) 64 dX6_advance_64 (by decide) (fun c_10_ => ?_) (fun c_10_ => ?_)
          · skip
            refine J_iload_n 71 1 dX6_advance_71 rfl rfl ?_
            refine kb_RX6_80 (bs' := [wMo o rw fr kp tr ik tp tm mso s s wd va gd rs mu rm ss msz msh mho mhn mhz kd nb tn tc bo ip, wI G tp 200 tf]) (rest := [.ref o]) (st' := [.int (bI (48 ≤ (mB tf tm s) ∧ (mB tf tm s) ≤ 57)), .ref o]) 72 (c_X6_isDigit l G (mB tf tm s) ) [] rfl rfl [] rfl rfl rfl rfl rfl rfl (Nat.le_of_ble_eq_true rfl) rfl dX6_advance_72 ?_
            refine J_ifB_eq (tgt := 82) 75 dX6_advance_75 (by decide) (fun c_11_ => ?_) (fun c_11_ => ?_)
            · skip
              refine J_iconst (v := 3) 82 dX6_advance_82 rfl ?_
              refine p_796 (ws' := (wF [wMo o rw fr kp tr ik tp tm 3 s s wd va gd rs mu rm ss msz msh mho mhn mhz kd nb tn tc bo ip, wI G tp 200 tf])) 83 0 rfl rfl rfl (Nat.le_of_ble_eq_true rfl) rfl dX6_advance_83 ?_
              refine J_aload_n 86 0 dX6_advance_86 rfl rfl ?_
              refine J_lconst (v := 0) 87 dX6_advance_87 rfl ?_
              refine p_799 (ws' := (wF [wMo o rw fr kp tr ik tp tm 3 s s 0 va gd rs mu rm ss msz msh mho mhn mhz kd nb tn tc bo ip, wI G tp 200 tf])) 88 0 rfl rfl rfl (Nat.le_of_ble_eq_true rfl) rfl dX6_advance_88 ?_
              refine J_aload_n 91 0 dX6_advance_91 rfl rfl ?_
              refine J_aload_n 92 0 dX6_advance_92 rfl rfl ?_
              refine g_796 (v := .int 3) 93 0 rfl rfl dX6_advance_93 ?_
              refine J_iconst (v := 2) 96 dX6_advance_96 rfl ?_
              refine J_icmp_ne (tgt := 104) 97 dX6_advance_97 (by decide) (fun _ => ?_) (fun c_12_ => absurd c_12_ (by decide))
              refine J_iload_n 104 1 dX6_advance_104 rfl rfl ?_
              refine p_800 (ws' := (wF [wMo o rw fr kp tr ik tp tm 3 s s 0 (mB tf tm s) gd rs mu rm ss msz msh mho mhn mhz kd nb tn tc bo ip, wI G tp 200 tf])) 105 0 rfl rfl rfl (Nat.le_of_ble_eq_true rfl) rfl dX6_advance_105 ?_
              refine J_aload_n 108 0 dX6_advance_108 rfl rfl ?_
              refine g_796 (v := .int 3) 109 0 rfl rfl dX6_advance_109 ?_
              refine J_iconst (v := 3) 112 dX6_advance_112 rfl ?_
              refine J_icmp_ne (tgt := 126) 113 dX6_advance_113 (by decide) (fun c_13_ => absurd c_13_ (by decide)) (fun _ => ?_)
              refine J_aload_n 116 0 dX6_advance_116 rfl rfl ?_
              refine J_dup 117 dX6_advance_117 rfl ?_
              refine g_798 (v := .int (nI s)) 118 0 rfl rfl dX6_advance_118 ?_
              refine J_iconst (v := 1) 121 dX6_advance_121 rfl ?_
              refine J_iadd 122 dX6_advance_122 ?_
              refine J_topi (y := nI (s + 1)) 123 (nI_add s 1) ?_
              refine p_798 (ws' := (wF [wMo o rw fr kp tr ik tp tm 3 s (s + 1) 0 (mB tf tm s) gd rs mu rm ss msz msh mho mhn mhz kd nb tn tc bo ip, wI G tp 200 tf])) 123 0 rfl rfl rfl (Nat.le_of_ble_eq_true rfl) rfl dX6_advance_123 ?_
              refine J_aload_n 126 0 dX6_advance_126 rfl rfl ?_
              refine g_796 (v := .int 3) 127 0 rfl rfl dX6_advance_127 ?_
              refine J_iconst (v := 1) 130 dX6_advance_130 rfl ?_
              refine J_icmp_ne (tgt := 207) 131 dX6_advance_131 (by decide) (fun _ => ?_) (fun c_14_ => absurd c_14_ (by decide))
              refine J_aload_n 207 0 dX6_advance_207 rfl rfl ?_
              refine g_796 (v := .int 3) 208 0 rfl rfl dX6_advance_208 ?_
              refine J_iconst (v := 2) 211 dX6_advance_211 rfl ?_
              refine J_icmp_ne (tgt := 282) 212 dX6_advance_212 (by decide) (fun _ => ?_) (fun c_15_ => absurd c_15_ (by decide))
              refine J_mask (lv' := [some (.ref o), none]) 282 [true, false] rfl ?_
              exact cut_282_ s (s + 1) 3 0 (mB tf tm s) (by first | exact mAdv_e hsk_ (by omega) | exact mAdv_l hs hsl hl (he.trans (fRun_no (by assumption))) hw | exact mAdv_d hs hsl hl hd (he.trans (fRun_no (by assumption))) hv | exact mAdv_o hsk_ (by omega) (by assumption) (by assumption) | (exfalso; omega))
            · skip
              refine J_iconst (v := 2) 78 dX6_advance_78 rfl ?_
              refine J_goto (tgt := 83) 79 dX6_advance_79 (by decide) ?_
              refine p_796 (ws' := (wF [wMo o rw fr kp tr ik tp tm 2 s s wd va gd rs mu rm ss msz msh mho mhn mhz kd nb tn tc bo ip, wI G tp 200 tf])) 83 0 rfl rfl rfl (Nat.le_of_ble_eq_true rfl) rfl dX6_advance_83 ?_
              refine J_aload_n 86 0 dX6_advance_86 rfl rfl ?_
              refine J_lconst (v := 0) 87 dX6_advance_87 rfl ?_
              refine p_799 (ws' := (wF [wMo o rw fr kp tr ik tp tm 2 s s 0 va gd rs mu rm ss msz msh mho mhn mhz kd nb tn tc bo ip, wI G tp 200 tf])) 88 0 rfl rfl rfl (Nat.le_of_ble_eq_true rfl) rfl dX6_advance_88 ?_
              refine J_aload_n 91 0 dX6_advance_91 rfl rfl ?_
              refine J_aload_n 92 0 dX6_advance_92 rfl rfl ?_
              refine g_796 (v := .int 2) 93 0 rfl rfl dX6_advance_93 ?_
              refine J_iconst (v := 2) 96 dX6_advance_96 rfl ?_
              refine J_icmp_ne (tgt := 104) 97 dX6_advance_97 (by decide) (fun c_16_ => absurd c_16_ (by decide)) (fun _ => ?_)
              refine J_iconst (v := 0) 100 dX6_advance_100 rfl ?_
              refine J_goto (tgt := 105) 101 dX6_advance_101 (by decide) ?_
              refine p_800 (ws' := (wF [wMo o rw fr kp tr ik tp tm 2 s s 0 0 gd rs mu rm ss msz msh mho mhn mhz kd nb tn tc bo ip, wI G tp 200 tf])) 105 0 rfl rfl rfl (Nat.le_of_ble_eq_true rfl) rfl dX6_advance_105 ?_
              refine J_aload_n 108 0 dX6_advance_108 rfl rfl ?_
              refine g_796 (v := .int 2) 109 0 rfl rfl dX6_advance_109 ?_
              refine J_iconst (v := 3) 112 dX6_advance_112 rfl ?_
              refine J_icmp_ne (tgt := 126) 113 dX6_advance_113 (by decide) (fun _ => ?_) (fun c_17_ => absurd c_17_ (by decide))
              refine J_aload_n 126 0 dX6_advance_126 rfl rfl ?_
              refine g_796 (v := .int 2) 127 0 rfl rfl dX6_advance_127 ?_
              refine J_iconst (v := 1) 130 dX6_advance_130 rfl ?_
              refine J_icmp_ne (tgt := 207) 131 dX6_advance_131 (by decide) (fun _ => ?_) (fun c_18_ => absurd c_18_ (by decide))
              refine J_mask (lv' := [some (.ref o), none]) 207 [true, false] rfl ?_
              exact cut_207_ ((tm - s) + 1) s s 0 (Nat.lt_succ_self _) (by first | assumption | exact hsk_) (by first | assumption | omega | rfl) (by first | assumption | omega | rfl) (by first | assumption | omega | rfl) (by first | assumption | omega | rfl) (by first | assumption | omega | rfl) (by first | rfl | exact he.trans (fRun_go (mB_d (by assumption)) (by assumption))) (by first | (rw [Nat.sub_self]; rfl) | exact mVl_t hv (by omega) (by omega) | exact mVl_f (by omega) (by omega))
          · skip
            refine J_iconst (v := 1) 67 dX6_advance_67 rfl ?_
            refine J_goto (tgt := 83) 68 dX6_advance_68 (by decide) ?_
            refine p_796 (ws' := (wF [wMo o rw fr kp tr ik tp tm 1 s s wd va gd rs mu rm ss msz msh mho mhn mhz kd nb tn tc bo ip, wI G tp 200 tf])) 83 0 rfl rfl rfl (Nat.le_of_ble_eq_true rfl) rfl dX6_advance_83 ?_
            refine J_aload_n 86 0 dX6_advance_86 rfl rfl ?_
            refine J_lconst (v := 0) 87 dX6_advance_87 rfl ?_
            refine p_799 (ws' := (wF [wMo o rw fr kp tr ik tp tm 1 s s 0 va gd rs mu rm ss msz msh mho mhn mhz kd nb tn tc bo ip, wI G tp 200 tf])) 88 0 rfl rfl rfl (Nat.le_of_ble_eq_true rfl) rfl dX6_advance_88 ?_
            refine J_aload_n 91 0 dX6_advance_91 rfl rfl ?_
            refine J_aload_n 92 0 dX6_advance_92 rfl rfl ?_
            refine g_796 (v := .int 1) 93 0 rfl rfl dX6_advance_93 ?_
            refine J_iconst (v := 2) 96 dX6_advance_96 rfl ?_
            refine J_icmp_ne (tgt := 104) 97 dX6_advance_97 (by decide) (fun _ => ?_) (fun c_19_ => absurd c_19_ (by decide))
            refine J_iload_n 104 1 dX6_advance_104 rfl rfl ?_
            refine p_800 (ws' := (wF [wMo o rw fr kp tr ik tp tm 1 s s 0 (mB tf tm s) gd rs mu rm ss msz msh mho mhn mhz kd nb tn tc bo ip, wI G tp 200 tf])) 105 0 rfl rfl rfl (Nat.le_of_ble_eq_true rfl) rfl dX6_advance_105 ?_
            refine J_aload_n 108 0 dX6_advance_108 rfl rfl ?_
            refine g_796 (v := .int 1) 109 0 rfl rfl dX6_advance_109 ?_
            refine J_iconst (v := 3) 112 dX6_advance_112 rfl ?_
            refine J_icmp_ne (tgt := 126) 113 dX6_advance_113 (by decide) (fun _ => ?_) (fun c_20_ => absurd c_20_ (by decide))
            refine J_mask (lv' := [some (.ref o), none]) 126 [true, false] rfl ?_
            exact cut_126_ ((tm - s) + 1) s s 0 (Nat.lt_succ_self _) (by first | assumption | exact hsk_) (by first | assumption | omega | rfl) (by first | assumption | omega | rfl) (by first | assumption | omega | rfl) (by first | assumption | omega | rfl) (by first | rfl | exact he.trans (fRun_go (mB_l (by assumption)) (by assumption))) (by first | (rw [Nat.sub_self]; rfl) | exact mWd_t hw (by omega) (by omega) | exact mWd_f (by omega) (by omega))
        · skip
          have hge_ := mB_n hbf (Int32.not_le.mp c_9_)
          refine J_iconst (v := 0) 56 dX6_advance_56 rfl ?_
          refine J_goto (tgt := 83) 57 dX6_advance_57 (by decide) ?_
          refine p_796 (ws' := (wF [wMo o rw fr kp tr ik tp tm 0 s s wd va gd rs mu rm ss msz msh mho mhn mhz kd nb tn tc bo ip, wI G tp 200 tf])) 83 0 rfl rfl rfl (Nat.le_of_ble_eq_true rfl) rfl dX6_advance_83 ?_
          refine J_aload_n 86 0 dX6_advance_86 rfl rfl ?_
          refine J_lconst (v := 0) 87 dX6_advance_87 rfl ?_
          refine p_799 (ws' := (wF [wMo o rw fr kp tr ik tp tm 0 s s 0 va gd rs mu rm ss msz msh mho mhn mhz kd nb tn tc bo ip, wI G tp 200 tf])) 88 0 rfl rfl rfl (Nat.le_of_ble_eq_true rfl) rfl dX6_advance_88 ?_
          refine J_aload_n 91 0 dX6_advance_91 rfl rfl ?_
          refine J_aload_n 92 0 dX6_advance_92 rfl rfl ?_
          refine g_796 (v := .int 0) 93 0 rfl rfl dX6_advance_93 ?_
          refine J_iconst (v := 2) 96 dX6_advance_96 rfl ?_
          refine J_icmp_ne (tgt := 104) 97 dX6_advance_97 (by decide) (fun _ => ?_) (fun c_21_ => absurd c_21_ (by decide))
          refine J_iload_n 104 1 dX6_advance_104 rfl rfl ?_
          refine p_800 (ws' := (wF [wMo o rw fr kp tr ik tp tm 0 s s 0 (mB tf tm s) gd rs mu rm ss msz msh mho mhn mhz kd nb tn tc bo ip, wI G tp 200 tf])) 105 0 rfl rfl rfl (Nat.le_of_ble_eq_true rfl) rfl dX6_advance_105 ?_
          refine J_aload_n 108 0 dX6_advance_108 rfl rfl ?_
          refine g_796 (v := .int 0) 109 0 rfl rfl dX6_advance_109 ?_
          refine J_iconst (v := 3) 112 dX6_advance_112 rfl ?_
          refine J_icmp_ne (tgt := 126) 113 dX6_advance_113 (by decide) (fun _ => ?_) (fun c_22_ => absurd c_22_ (by decide))
          refine J_aload_n 126 0 dX6_advance_126 rfl rfl ?_
          refine g_796 (v := .int 0) 127 0 rfl rfl dX6_advance_127 ?_
          refine J_iconst (v := 1) 130 dX6_advance_130 rfl ?_
          refine J_icmp_ne (tgt := 207) 131 dX6_advance_131 (by decide) (fun _ => ?_) (fun c_23_ => absurd c_23_ (by decide))
          refine J_aload_n 207 0 dX6_advance_207 rfl rfl ?_
          refine g_796 (v := .int 0) 208 0 rfl rfl dX6_advance_208 ?_
          refine J_iconst (v := 2) 211 dX6_advance_211 rfl ?_
          refine J_icmp_ne (tgt := 282) 212 dX6_advance_212 (by decide) (fun _ => ?_) (fun c_24_ => absurd c_24_ (by decide))
          refine J_mask (lv' := [some (.ref o), none]) 282 [true, false] rfl ?_
          exact cut_282_ s s 0 0 (mB tf tm s) (by first | exact mAdv_e hsk_ (by omega) | exact mAdv_l hs hsl hl (he.trans (fRun_no (by assumption))) hw | exact mAdv_d hs hsl hl hd (he.trans (fRun_no (by assumption))) hv | exact mAdv_o hsk_ (by omega) (by assumption) (by assumption) | (exfalso; omega))
      · skip
        have hlt_ := mB_lt c_8_ (by decide)
        refine J_aload_n 21 0 dX6_advance_21 rfl rfl ?_
        refine J_dup 22 dX6_advance_22 rfl ?_
        refine g_797 (v := .int (nI s)) 23 0 rfl rfl dX6_advance_23 ?_
        refine J_iconst (v := 1) 26 dX6_advance_26 rfl ?_
        refine J_iadd 27 dX6_advance_27 ?_
        refine J_topi (y := nI (s + 1)) 28 (nI_add s 1) ?_
        refine p_797 (ws' := (wF [wMo o rw fr kp tr ik tp tm mso (s + 1) en wd va gd rs mu rm ss msz msh mho mhn mhz kd nb tn tc bo ip, wI G tp 200 tf])) 28 0 rfl rfl rfl (Nat.le_of_ble_eq_true rfl) rfl dX6_advance_28 ?_
        refine J_goto (tgt := 8) 31 dX6_advance_31 (by decide) ?_
        exact ih_8_ (s + 1) (by omega) (by first | assumption | omega | rfl) (by first | assumption | omega | rfl) (by first | rfl | exact hs.trans (fRun_go hlt_ (by assumption)))
  refine J_aload_n 0 0 dX6_advance_0 rfl rfl ?_
  refine J_aload_n 1 0 dX6_advance_1 rfl rfl ?_
  refine g_798 (v := .int (nI en)) 2 0 rfl rfl dX6_advance_2 ?_
  refine p_797 (ws' := (wF [wMo o rw fr kp tr ik tp tm mso en en wd va gd rs mu rm ss msz msh mho mhn mhz kd nb tn tc bo ip, wI G tp 200 tf])) 5 0 rfl rfl rfl (Nat.le_of_ble_eq_true rfl) rfl dX6_advance_5 ?_
  exact cut_8_ ((tm - en) + 1) en (Nat.lt_succ_self _) (by first | assumption | omega | rfl) (by first | assumption | omega | rfl) (by first | rfl | exact hs.trans (fRun_go hlt_ (by assumption)))
set_option maxRecDepth 100000 in
set_option maxHeartbeats 4000000 in
theorem c_X6_isWord (l : Launch) (G : Gd) (w : Int64) (o : Nat) (rw : Nat) (fr : Nat) (kp : Nat) (tr : Nat) (ik : Int32) (tp : Nat) (tm : Nat) (mso : Int32) (bg : Nat) (en : Nat) (wd : Int64) (va : Int32) (gd : Int32) (rs : Nat) (mu : Nat) (rm : Nat) (ss : Nat) (msz : Nat) (msh : Nat) (mho : Nat) (mhn : Nat) (mhz : Nat) (kd : Int32) (nb : Int32) (tn : Int32) (tc : Nat) (bo : Nat) (ip : Int32)  : Ct l G yX6_isWord cX6_isWord 3 (some (FieldType.boolean)) 0 [.ref o, .long w] (wF [wMo o rw fr kp tr ik tp tm mso bg en wd va gd rs mu rm ss msz msh mho mhn mhz kd nb tn tc bo ip]) (some (.int (bI (mso = 1 ∧ wd = w)))) (wF [wMo o rw fr kp tr ik tp tm mso bg en wd va gd rs mu rm ss msz msh mho mhn mhz kd nb tn tc bo ip]) := by
  refine Ct.of "GooseArmsModel" [some (.ref o), some (.long w), none] (by decide +kernel) rfl (Nat.le_of_ble_eq_true rfl) rfl ?_
  refine J_aload_n 0 0 dX6_isWord_0 rfl rfl ?_
  refine g_796 (v := .int mso) 1 0 rfl rfl dX6_isWord_1 ?_
  refine J_iconst (v := 1) 4 dX6_isWord_4 rfl ?_
  refine J_icmp_ne (tgt := 21) 5 dX6_isWord_5 (by decide) (fun c_1_ => ?_) (fun c_1_ => ?_)
  · skip
    refine J_iconst (v := 0) 21 dX6_isWord_21 rfl ?_
    exact J_zret 22 rfl dX6_isWord_22 (congrArg (fun x_ => some (Value.int x_)) (bI_f (fun z_ => by first | exact absurd z_.1 (by assumption) | exact absurd (lgc0.mpr z_.2) (by assumption))).symm) rfl
  · skip
    refine J_aload_n 8 0 dX6_isWord_8 rfl rfl ?_
    refine g_799 (v := .long wd) 9 0 rfl rfl dX6_isWord_9 ?_
    refine J_lload_n 12 1 dX6_isWord_12 rfl rfl ?_
    refine J_lcmp 13 dX6_isWord_13 ?_
    refine J_if_ne (tgt := 21) 14 dX6_isWord_14 (by decide) (fun c_2_ => ?_) (fun c_2_ => ?_)
    · skip
      refine J_iconst (v := 0) 21 dX6_isWord_21 rfl ?_
      exact J_zret 22 rfl dX6_isWord_22 (congrArg (fun x_ => some (Value.int x_)) (bI_f (fun z_ => by first | exact absurd z_.1 (by assumption) | exact absurd (lgc0.mpr z_.2) (by assumption))).symm) rfl
    · skip
      refine J_iconst (v := 1) 17 dX6_isWord_17 rfl ?_
      refine J_goto (tgt := 22) 18 dX6_isWord_18 (by decide) ?_
      exact J_zret 22 rfl dX6_isWord_22 (congrArg (fun x_ => some (Value.int x_)) (bI_t ⟨by assumption, lgc0.mp (by assumption)⟩).symm) rfl
set_option maxRecDepth 100000 in
set_option maxHeartbeats 4000000 in
theorem c_X6_isMark (l : Launch) (G : Gd) (v : Int32) (o : Nat) (rw : Nat) (fr : Nat) (kp : Nat) (tr : Nat) (ik : Int32) (tp : Nat) (tm : Nat) (mso : Int32) (bg : Nat) (en : Nat) (wd : Int64) (va : Int32) (gd : Int32) (rs : Nat) (mu : Nat) (rm : Nat) (ss : Nat) (msz : Nat) (msh : Nat) (mho : Nat) (mhn : Nat) (mhz : Nat) (kd : Int32) (nb : Int32) (tn : Int32) (tc : Nat) (bo : Nat) (ip : Int32)  : Ct l G yX6_isMark cX6_isMark 2 (some (FieldType.boolean)) 0 [.ref o, .int v] (wF [wMo o rw fr kp tr ik tp tm mso bg en wd va gd rs mu rm ss msz msh mho mhn mhz kd nb tn tc bo ip]) (some (.int (bI (mso = 3 ∧ va = v)))) (wF [wMo o rw fr kp tr ik tp tm mso bg en wd va gd rs mu rm ss msz msh mho mhn mhz kd nb tn tc bo ip]) := by
  refine Ct.of "GooseArmsModel" [some (.ref o), some (.int v)] (by decide +kernel) rfl (Nat.le_of_ble_eq_true rfl) rfl ?_
  refine J_aload_n 0 0 dX6_isMark_0 rfl rfl ?_
  refine g_796 (v := .int mso) 1 0 rfl rfl dX6_isMark_1 ?_
  refine J_iconst (v := 3) 4 dX6_isMark_4 rfl ?_
  refine J_icmp_ne (tgt := 20) 5 dX6_isMark_5 (by decide) (fun c_1_ => ?_) (fun c_1_ => ?_)
  · skip
    refine J_iconst (v := 0) 20 dX6_isMark_20 rfl ?_
    exact J_zret 21 rfl dX6_isMark_21 (congrArg (fun x_ => some (Value.int x_)) (bI_f (fun z_ => by first | exact absurd z_.1 (by assumption) | exact absurd z_.2 (by assumption))).symm) rfl
  · skip
    refine J_aload_n 8 0 dX6_isMark_8 rfl rfl ?_
    refine g_800 (v := .int va) 9 0 rfl rfl dX6_isMark_9 ?_
    refine J_iload_n 12 1 dX6_isMark_12 rfl rfl ?_
    refine J_icmp_ne (tgt := 20) 13 dX6_isMark_13 (by decide) (fun c_2_ => ?_) (fun c_2_ => ?_)
    · skip
      refine J_iconst (v := 0) 20 dX6_isMark_20 rfl ?_
      exact J_zret 21 rfl dX6_isMark_21 (congrArg (fun x_ => some (Value.int x_)) (bI_f (fun z_ => by first | exact absurd z_.1 (by assumption) | exact absurd z_.2 (by assumption))).symm) rfl
    · skip
      refine J_iconst (v := 1) 16 dX6_isMark_16 rfl ?_
      refine J_goto (tgt := 21) 17 dX6_isMark_17 (by decide) ?_
      exact J_zret 21 rfl dX6_isMark_21 (congrArg (fun x_ => some (Value.int x_)) (bI_t ⟨by assumption, by assumption⟩).symm) rfl
set_option maxRecDepth 100000 in
set_option maxHeartbeats 4000000 in
theorem c_X6_kindHere (l : Launch) (G : Gd) (o : Nat) (rw : Nat) (fr : Nat) (kp : Nat) (tr : Nat) (ik : Int32) (tp : Nat) (tm : Nat) (mso : Int32) (bg : Nat) (en : Nat) (wd : Int64) (va : Int32) (gd : Int32) (rs : Nat) (mu : Nat) (rm : Nat) (ss : Nat) (msz : Nat) (msh : Nat) (mho : Nat) (mhn : Nat) (mhz : Nat) (kd : Int32) (nb : Int32) (tn : Int32) (tc : Nat) (bo : Nat) (ip : Int32)  : Ct l G yX6_kindHere cX6_kindHere 1 (some (FieldType.int)) 1 [.ref o] (wF [wMo o rw fr kp tr ik tp tm mso bg en wd va gd rs mu rm ss msz msh mho mhn mhz kd nb tn tc bo ip]) (some (.int (mKn mso wd))) (wF [wMo o rw fr kp tr ik tp tm mso bg en wd va gd rs mu rm ss msz msh mho mhn mhz kd nb tn tc bo ip]) := by
  refine Ct.of "GooseArmsModel" [some (.ref o)] (by decide +kernel) rfl (Nat.le_of_ble_eq_true rfl) rfl ?_
  refine J_aload_n 0 0 dX6_kindHere_0 rfl rfl ?_
  refine J_ldc2 (v := 117481419) 1 w_923 dX6_kindHere_1 ?_
  refine kb_RX6_101 (bs' := [wMo o rw fr kp tr ik tp tm mso bg en wd va gd rs mu rm ss msz msh mho mhn mhz kd nb tn tc bo ip]) (rest := []) (st' := [.int (bI (mso = 1 ∧ wd = 117481419))]) 4 (c_X6_isWord l G 117481419 o rw fr kp tr ik tp tm mso bg en wd va gd rs mu rm ss msz msh mho mhn mhz kd nb tn tc bo ip ) [0] 0 rfl rfl rfl [[o]] rfl rfl rfl rfl rfl rfl (Nat.le_of_ble_eq_true rfl) rfl dX6_kindHere_4 ?_
  refine J_ifB_eq (tgt := 14) 7 dX6_kindHere_7 (by decide) (fun c_1_ => ?_) (fun c_1_ => ?_)
  · skip
    refine J_aload_n 14 0 dX6_kindHere_14 rfl rfl ?_
    refine J_ldc2 (v := 5730863) 15 w_924 dX6_kindHere_15 ?_
    refine kb_RX6_101 (bs' := [wMo o rw fr kp tr ik tp tm mso bg en wd va gd rs mu rm ss msz msh mho mhn mhz kd nb tn tc bo ip]) (rest := []) (st' := [.int (bI (mso = 1 ∧ wd = 5730863))]) 18 (c_X6_isWord l G 5730863 o rw fr kp tr ik tp tm mso bg en wd va gd rs mu rm ss msz msh mho mhn mhz kd nb tn tc bo ip ) [0] 0 rfl rfl rfl [[o]] rfl rfl rfl rfl rfl rfl (Nat.le_of_ble_eq_true rfl) rfl dX6_kindHere_18 ?_
    refine J_ifB_eq (tgt := 28) 21 dX6_kindHere_21 (by decide) (fun c_2_ => ?_) (fun c_2_ => ?_)
    · skip
      refine J_aload_n 28 0 dX6_kindHere_28 rfl rfl ?_
      refine J_ldc2 (v := 12333743051) 29 w_925 dX6_kindHere_29 ?_
      refine kb_RX6_101 (bs' := [wMo o rw fr kp tr ik tp tm mso bg en wd va gd rs mu rm ss msz msh mho mhn mhz kd nb tn tc bo ip]) (rest := []) (st' := [.int (bI (mso = 1 ∧ wd = 12333743051))]) 32 (c_X6_isWord l G 12333743051 o rw fr kp tr ik tp tm mso bg en wd va gd rs mu rm ss msz msh mho mhn mhz kd nb tn tc bo ip ) [0] 0 rfl rfl rfl [[o]] rfl rfl rfl rfl rfl rfl (Nat.le_of_ble_eq_true rfl) rfl dX6_kindHere_32 ?_
      refine J_ifB_eq (tgt := 42) 35 dX6_kindHere_35 (by decide) (fun c_3_ => ?_) (fun c_3_ => ?_)
      · skip
        refine J_aload_n 42 0 dX6_kindHere_42 rfl rfl ?_
        refine J_ldc2 (v := 2896470) 43 w_926 dX6_kindHere_43 ?_
        refine kb_RX6_101 (bs' := [wMo o rw fr kp tr ik tp tm mso bg en wd va gd rs mu rm ss msz msh mho mhn mhz kd nb tn tc bo ip]) (rest := []) (st' := [.int (bI (mso = 1 ∧ wd = 2896470))]) 46 (c_X6_isWord l G 2896470 o rw fr kp tr ik tp tm mso bg en wd va gd rs mu rm ss msz msh mho mhn mhz kd nb tn tc bo ip ) [0] 0 rfl rfl rfl [[o]] rfl rfl rfl rfl rfl rfl (Nat.le_of_ble_eq_true rfl) rfl dX6_kindHere_46 ?_
        refine J_ifB_eq (tgt := 56) 49 dX6_kindHere_49 (by decide) (fun c_4_ => ?_) (fun c_4_ => ?_)
        · skip
          refine J_aload_n 56 0 dX6_kindHere_56 rfl rfl ?_
          refine J_ldc2 (v := 242802) 57 w_927 dX6_kindHere_57 ?_
          refine kb_RX6_101 (bs' := [wMo o rw fr kp tr ik tp tm mso bg en wd va gd rs mu rm ss msz msh mho mhn mhz kd nb tn tc bo ip]) (rest := []) (st' := [.int (bI (mso = 1 ∧ wd = 242802))]) 60 (c_X6_isWord l G 242802 o rw fr kp tr ik tp tm mso bg en wd va gd rs mu rm ss msz msh mho mhn mhz kd nb tn tc bo ip ) [0] 0 rfl rfl rfl [[o]] rfl rfl rfl rfl rfl rfl (Nat.le_of_ble_eq_true rfl) rfl dX6_kindHere_60 ?_
          refine J_ifB_eq (tgt := 70) 63 dX6_kindHere_63 (by decide) (fun c_5_ => ?_) (fun c_5_ => ?_)
          · skip
            refine J_aload_n 70 0 dX6_kindHere_70 rfl rfl ?_
            refine J_ldc2 (v := 4560413) 71 w_928 dX6_kindHere_71 ?_
            refine kb_RX6_101 (bs' := [wMo o rw fr kp tr ik tp tm mso bg en wd va gd rs mu rm ss msz msh mho mhn mhz kd nb tn tc bo ip]) (rest := []) (st' := [.int (bI (mso = 1 ∧ wd = 4560413))]) 74 (c_X6_isWord l G 4560413 o rw fr kp tr ik tp tm mso bg en wd va gd rs mu rm ss msz msh mho mhn mhz kd nb tn tc bo ip ) [0] 0 rfl rfl rfl [[o]] rfl rfl rfl rfl rfl rfl (Nat.le_of_ble_eq_true rfl) rfl dX6_kindHere_74 ?_
            refine J_ifB_eq (tgt := 84) 77 dX6_kindHere_77 (by decide) (fun c_6_ => ?_) (fun c_6_ => ?_)
            · skip
              refine J_iconst (v := (-1)) 84 dX6_kindHere_84 rfl ?_
              exact J_iret 85 dX6_kindHere_85 (congrArg (fun x_ => some (Value.int x_)) (by unfold mKn; first | exact (cif_t (by assumption)).symm | (refine Eq.trans ?_ (cif_f (by assumption)).symm; first | exact (cif_t (by assumption)).symm | (refine Eq.trans ?_ (cif_f (by assumption)).symm; first | exact (cif_t (by assumption)).symm | (refine Eq.trans ?_ (cif_f (by assumption)).symm; first | exact (cif_t (by assumption)).symm | (refine Eq.trans ?_ (cif_f (by assumption)).symm; first | exact (cif_t (by assumption)).symm | (refine Eq.trans ?_ (cif_f (by assumption)).symm; first | exact (cif_t (by assumption)).symm | (refine Eq.trans ?_ (cif_f (by assumption)).symm; rfl)))))))) rfl
            · skip
              refine J_iconst (v := 5) 80 dX6_kindHere_80 rfl ?_
              refine J_goto (tgt := 85) 81 dX6_kindHere_81 (by decide) ?_
              exact J_iret 85 dX6_kindHere_85 (congrArg (fun x_ => some (Value.int x_)) (by unfold mKn; first | exact (cif_t (by assumption)).symm | (refine Eq.trans ?_ (cif_f (by assumption)).symm; first | exact (cif_t (by assumption)).symm | (refine Eq.trans ?_ (cif_f (by assumption)).symm; first | exact (cif_t (by assumption)).symm | (refine Eq.trans ?_ (cif_f (by assumption)).symm; first | exact (cif_t (by assumption)).symm | (refine Eq.trans ?_ (cif_f (by assumption)).symm; first | exact (cif_t (by assumption)).symm | (refine Eq.trans ?_ (cif_f (by assumption)).symm; first | exact (cif_t (by assumption)).symm | (refine Eq.trans ?_ (cif_f (by assumption)).symm; rfl)))))))) rfl
          · skip
            refine J_iconst (v := 4) 66 dX6_kindHere_66 rfl ?_
            refine J_goto (tgt := 85) 67 dX6_kindHere_67 (by decide) ?_
            exact J_iret 85 dX6_kindHere_85 (congrArg (fun x_ => some (Value.int x_)) (by unfold mKn; first | exact (cif_t (by assumption)).symm | (refine Eq.trans ?_ (cif_f (by assumption)).symm; first | exact (cif_t (by assumption)).symm | (refine Eq.trans ?_ (cif_f (by assumption)).symm; first | exact (cif_t (by assumption)).symm | (refine Eq.trans ?_ (cif_f (by assumption)).symm; first | exact (cif_t (by assumption)).symm | (refine Eq.trans ?_ (cif_f (by assumption)).symm; first | exact (cif_t (by assumption)).symm | (refine Eq.trans ?_ (cif_f (by assumption)).symm; first | exact (cif_t (by assumption)).symm | (refine Eq.trans ?_ (cif_f (by assumption)).symm; rfl)))))))) rfl
        · skip
          refine J_iconst (v := 3) 52 dX6_kindHere_52 rfl ?_
          refine J_goto (tgt := 85) 53 dX6_kindHere_53 (by decide) ?_
          exact J_iret 85 dX6_kindHere_85 (congrArg (fun x_ => some (Value.int x_)) (by unfold mKn; first | exact (cif_t (by assumption)).symm | (refine Eq.trans ?_ (cif_f (by assumption)).symm; first | exact (cif_t (by assumption)).symm | (refine Eq.trans ?_ (cif_f (by assumption)).symm; first | exact (cif_t (by assumption)).symm | (refine Eq.trans ?_ (cif_f (by assumption)).symm; first | exact (cif_t (by assumption)).symm | (refine Eq.trans ?_ (cif_f (by assumption)).symm; first | exact (cif_t (by assumption)).symm | (refine Eq.trans ?_ (cif_f (by assumption)).symm; first | exact (cif_t (by assumption)).symm | (refine Eq.trans ?_ (cif_f (by assumption)).symm; rfl)))))))) rfl
      · skip
        refine J_iconst (v := 2) 38 dX6_kindHere_38 rfl ?_
        refine J_goto (tgt := 85) 39 dX6_kindHere_39 (by decide) ?_
        exact J_iret 85 dX6_kindHere_85 (congrArg (fun x_ => some (Value.int x_)) (by unfold mKn; first | exact (cif_t (by assumption)).symm | (refine Eq.trans ?_ (cif_f (by assumption)).symm; first | exact (cif_t (by assumption)).symm | (refine Eq.trans ?_ (cif_f (by assumption)).symm; first | exact (cif_t (by assumption)).symm | (refine Eq.trans ?_ (cif_f (by assumption)).symm; first | exact (cif_t (by assumption)).symm | (refine Eq.trans ?_ (cif_f (by assumption)).symm; first | exact (cif_t (by assumption)).symm | (refine Eq.trans ?_ (cif_f (by assumption)).symm; first | exact (cif_t (by assumption)).symm | (refine Eq.trans ?_ (cif_f (by assumption)).symm; rfl)))))))) rfl
    · skip
      refine J_iconst (v := 1) 24 dX6_kindHere_24 rfl ?_
      refine J_goto (tgt := 85) 25 dX6_kindHere_25 (by decide) ?_
      exact J_iret 85 dX6_kindHere_85 (congrArg (fun x_ => some (Value.int x_)) (by unfold mKn; first | exact (cif_t (by assumption)).symm | (refine Eq.trans ?_ (cif_f (by assumption)).symm; first | exact (cif_t (by assumption)).symm | (refine Eq.trans ?_ (cif_f (by assumption)).symm; first | exact (cif_t (by assumption)).symm | (refine Eq.trans ?_ (cif_f (by assumption)).symm; first | exact (cif_t (by assumption)).symm | (refine Eq.trans ?_ (cif_f (by assumption)).symm; first | exact (cif_t (by assumption)).symm | (refine Eq.trans ?_ (cif_f (by assumption)).symm; first | exact (cif_t (by assumption)).symm | (refine Eq.trans ?_ (cif_f (by assumption)).symm; rfl)))))))) rfl
  · skip
    refine J_iconst (v := 0) 10 dX6_kindHere_10 rfl ?_
    refine J_goto (tgt := 85) 11 dX6_kindHere_11 (by decide) ?_
    exact J_iret 85 dX6_kindHere_85 (congrArg (fun x_ => some (Value.int x_)) (by unfold mKn; first | exact (cif_t (by assumption)).symm | (refine Eq.trans ?_ (cif_f (by assumption)).symm; first | exact (cif_t (by assumption)).symm | (refine Eq.trans ?_ (cif_f (by assumption)).symm; first | exact (cif_t (by assumption)).symm | (refine Eq.trans ?_ (cif_f (by assumption)).symm; first | exact (cif_t (by assumption)).symm | (refine Eq.trans ?_ (cif_f (by assumption)).symm; first | exact (cif_t (by assumption)).symm | (refine Eq.trans ?_ (cif_f (by assumption)).symm; first | exact (cif_t (by assumption)).symm | (refine Eq.trans ?_ (cif_f (by assumption)).symm; rfl)))))))) rfl
set_option maxRecDepth 100000 in
set_option maxHeartbeats 4000000 in
theorem c_X6_lawHere (l : Launch) (G : Gd) (o : Nat) (rw : Nat) (fr : Nat) (kp : Nat) (tr : Nat) (ik : Int32) (tp : Nat) (tm : Nat) (mso : Int32) (bg : Nat) (en : Nat) (wd : Int64) (va : Int32) (gd : Int32) (rs : Nat) (mu : Nat) (rm : Nat) (ss : Nat) (msz : Nat) (msh : Nat) (mho : Nat) (mhn : Nat) (mhz : Nat) (kd : Int32) (nb : Int32) (tn : Int32) (tc : Nat) (bo : Nat) (ip : Int32)  : Ct l G yX6_lawHere cX6_lawHere 1 (some (FieldType.int)) 1 [.ref o] (wF [wMo o rw fr kp tr ik tp tm mso bg en wd va gd rs mu rm ss msz msh mho mhn mhz kd nb tn tc bo ip]) (some (.int (mLn mso wd))) (wF [wMo o rw fr kp tr ik tp tm mso bg en wd va gd rs mu rm ss msz msh mho mhn mhz kd nb tn tc bo ip]) := by
  refine Ct.of "GooseArmsModel" [some (.ref o)] (by decide +kernel) rfl (Nat.le_of_ble_eq_true rfl) rfl ?_
  refine J_aload_n 0 0 dX6_lawHere_0 rfl rfl ?_
  refine J_ldc2 (v := 70312) 1 w_911 dX6_lawHere_1 ?_
  refine kb_RX6_101 (bs' := [wMo o rw fr kp tr ik tp tm mso bg en wd va gd rs mu rm ss msz msh mho mhn mhz kd nb tn tc bo ip]) (rest := []) (st' := [.int (bI (mso = 1 ∧ wd = 70312))]) 4 (c_X6_isWord l G 70312 o rw fr kp tr ik tp tm mso bg en wd va gd rs mu rm ss msz msh mho mhn mhz kd nb tn tc bo ip ) [0] 0 rfl rfl rfl [[o]] rfl rfl rfl rfl rfl rfl (Nat.le_of_ble_eq_true rfl) rfl dX6_lawHere_4 ?_
  refine J_ifB_eq (tgt := 14) 7 dX6_lawHere_7 (by decide) (fun c_1_ => ?_) (fun c_1_ => ?_)
  · skip
    refine J_aload_n 14 0 dX6_lawHere_14 rfl rfl ?_
    refine J_ldc2 (v := 296522) 15 w_916 dX6_lawHere_15 ?_
    refine kb_RX6_101 (bs' := [wMo o rw fr kp tr ik tp tm mso bg en wd va gd rs mu rm ss msz msh mho mhn mhz kd nb tn tc bo ip]) (rest := []) (st' := [.int (bI (mso = 1 ∧ wd = 296522))]) 18 (c_X6_isWord l G 296522 o rw fr kp tr ik tp tm mso bg en wd va gd rs mu rm ss msz msh mho mhn mhz kd nb tn tc bo ip ) [0] 0 rfl rfl rfl [[o]] rfl rfl rfl rfl rfl rfl (Nat.le_of_ble_eq_true rfl) rfl dX6_lawHere_18 ?_
    refine J_ifB_eq (tgt := 28) 21 dX6_lawHere_21 (by decide) (fun c_2_ => ?_) (fun c_2_ => ?_)
    · skip
      refine J_aload_n 28 0 dX6_lawHere_28 rfl rfl ?_
      refine J_ldc2 (v := 456399) 29 w_917 dX6_lawHere_29 ?_
      refine kb_RX6_101 (bs' := [wMo o rw fr kp tr ik tp tm mso bg en wd va gd rs mu rm ss msz msh mho mhn mhz kd nb tn tc bo ip]) (rest := []) (st' := [.int (bI (mso = 1 ∧ wd = 456399))]) 32 (c_X6_isWord l G 456399 o rw fr kp tr ik tp tm mso bg en wd va gd rs mu rm ss msz msh mho mhn mhz kd nb tn tc bo ip ) [0] 0 rfl rfl rfl [[o]] rfl rfl rfl rfl rfl rfl (Nat.le_of_ble_eq_true rfl) rfl dX6_lawHere_32 ?_
      refine J_ifB_eq (tgt := 42) 35 dX6_lawHere_35 (by decide) (fun c_3_ => ?_) (fun c_3_ => ?_)
      · skip
        refine J_aload_n 42 0 dX6_lawHere_42 rfl rfl ?_
        refine J_ldc2 (v := 1808912405) 43 w_918 dX6_lawHere_43 ?_
        refine kb_RX6_101 (bs' := [wMo o rw fr kp tr ik tp tm mso bg en wd va gd rs mu rm ss msz msh mho mhn mhz kd nb tn tc bo ip]) (rest := []) (st' := [.int (bI (mso = 1 ∧ wd = 1808912405))]) 46 (c_X6_isWord l G 1808912405 o rw fr kp tr ik tp tm mso bg en wd va gd rs mu rm ss msz msh mho mhn mhz kd nb tn tc bo ip ) [0] 0 rfl rfl rfl [[o]] rfl rfl rfl rfl rfl rfl (Nat.le_of_ble_eq_true rfl) rfl dX6_lawHere_46 ?_
        refine J_ifB_eq (tgt := 56) 49 dX6_lawHere_49 (by decide) (fun c_4_ => ?_) (fun c_4_ => ?_)
        · skip
          refine J_iconst (v := (-1)) 56 dX6_lawHere_56 rfl ?_
          exact J_iret 57 dX6_lawHere_57 (congrArg (fun x_ => some (Value.int x_)) (by unfold mLn; first | exact (cif_t (by assumption)).symm | (refine Eq.trans ?_ (cif_f (by assumption)).symm; first | exact (cif_t (by assumption)).symm | (refine Eq.trans ?_ (cif_f (by assumption)).symm; first | exact (cif_t (by assumption)).symm | (refine Eq.trans ?_ (cif_f (by assumption)).symm; first | exact (cif_t (by assumption)).symm | (refine Eq.trans ?_ (cif_f (by assumption)).symm; rfl)))))) rfl
        · skip
          refine J_iconst (v := 3) 52 dX6_lawHere_52 rfl ?_
          refine J_goto (tgt := 57) 53 dX6_lawHere_53 (by decide) ?_
          exact J_iret 57 dX6_lawHere_57 (congrArg (fun x_ => some (Value.int x_)) (by unfold mLn; first | exact (cif_t (by assumption)).symm | (refine Eq.trans ?_ (cif_f (by assumption)).symm; first | exact (cif_t (by assumption)).symm | (refine Eq.trans ?_ (cif_f (by assumption)).symm; first | exact (cif_t (by assumption)).symm | (refine Eq.trans ?_ (cif_f (by assumption)).symm; first | exact (cif_t (by assumption)).symm | (refine Eq.trans ?_ (cif_f (by assumption)).symm; rfl)))))) rfl
      · skip
        refine J_iconst (v := 2) 38 dX6_lawHere_38 rfl ?_
        refine J_goto (tgt := 57) 39 dX6_lawHere_39 (by decide) ?_
        exact J_iret 57 dX6_lawHere_57 (congrArg (fun x_ => some (Value.int x_)) (by unfold mLn; first | exact (cif_t (by assumption)).symm | (refine Eq.trans ?_ (cif_f (by assumption)).symm; first | exact (cif_t (by assumption)).symm | (refine Eq.trans ?_ (cif_f (by assumption)).symm; first | exact (cif_t (by assumption)).symm | (refine Eq.trans ?_ (cif_f (by assumption)).symm; first | exact (cif_t (by assumption)).symm | (refine Eq.trans ?_ (cif_f (by assumption)).symm; rfl)))))) rfl
    · skip
      refine J_iconst (v := 1) 24 dX6_lawHere_24 rfl ?_
      refine J_goto (tgt := 57) 25 dX6_lawHere_25 (by decide) ?_
      exact J_iret 57 dX6_lawHere_57 (congrArg (fun x_ => some (Value.int x_)) (by unfold mLn; first | exact (cif_t (by assumption)).symm | (refine Eq.trans ?_ (cif_f (by assumption)).symm; first | exact (cif_t (by assumption)).symm | (refine Eq.trans ?_ (cif_f (by assumption)).symm; first | exact (cif_t (by assumption)).symm | (refine Eq.trans ?_ (cif_f (by assumption)).symm; first | exact (cif_t (by assumption)).symm | (refine Eq.trans ?_ (cif_f (by assumption)).symm; rfl)))))) rfl
  · skip
    refine J_iconst (v := 0) 10 dX6_lawHere_10 rfl ?_
    refine J_goto (tgt := 57) 11 dX6_lawHere_11 (by decide) ?_
    exact J_iret 57 dX6_lawHere_57 (congrArg (fun x_ => some (Value.int x_)) (by unfold mLn; first | exact (cif_t (by assumption)).symm | (refine Eq.trans ?_ (cif_f (by assumption)).symm; first | exact (cif_t (by assumption)).symm | (refine Eq.trans ?_ (cif_f (by assumption)).symm; first | exact (cif_t (by assumption)).symm | (refine Eq.trans ?_ (cif_f (by assumption)).symm; first | exact (cif_t (by assumption)).symm | (refine Eq.trans ?_ (cif_f (by assumption)).symm; rfl)))))) rfl
set_option maxRecDepth 100000 in
set_option maxHeartbeats 4000000 in
theorem c_X6_wantNumber (l : Launch) (G : Gd) (most : Int32) (o : Nat) (rw : Nat) (fr : Nat) (kp : Nat) (tr : Nat) (ik : Int32) (tp : Nat) (tm : Nat) (mso : Int32) (bg : Nat) (en : Nat) (wd : Int64) (va : Int32) (gd : Int32) (rs : Nat) (mu : Nat) (rm : Nat) (ss : Nat) (msz : Nat) (msh : Nat) (mho : Nat) (mhn : Nat) (mhz : Nat) (kd : Int32) (nb : Int32) (tn : Int32) (tc : Nat) (bo : Nat) (ip : Int32) (tf : Nat → Int32) (hin : mIn tm (bg, en, mso, wd, va, gd)) (htm : tm ≤ 200) (hbf : ∀ j_, j_ < tm → 0 ≤ tf j_) : Ct l G yX6_wantNumber cX6_wantNumber 4 (some (FieldType.int)) 3 [.ref o, .int 0, .int most] (wF [wMo o rw fr kp tr ik tp tm mso bg en wd va gd rs mu rm ss msz msh mho mhn mhz kd nb tn tc bo ip, wI G tp 200 tf]) (some (.int ((mNum tf tm most (bg, en, mso, wd, va, gd)).1))) (wF [wMo o rw fr kp tr ik tp tm ((mNum tf tm most (bg, en, mso, wd, va, gd)).2.2.2.1) ((mNum tf tm most (bg, en, mso, wd, va, gd)).2.1) ((mNum tf tm most (bg, en, mso, wd, va, gd)).2.2.1) ((mNum tf tm most (bg, en, mso, wd, va, gd)).2.2.2.2.1) ((mNum tf tm most (bg, en, mso, wd, va, gd)).2.2.2.2.2.1) ((mNum tf tm most (bg, en, mso, wd, va, gd)).2.2.2.2.2.2) rs mu rm ss msz msh mho mhn mhz kd nb tn tc bo ip, wI G tp 200 tf]) := by
  refine Ct.of "GooseArmsModel" [some (.ref o), some (.int 0), some (.int most), none] (by decide +kernel) rfl (Nat.le_of_ble_eq_true rfl) rfl ?_
  refine J_aload_n 0 0 dX6_wantNumber_0 rfl rfl ?_
  refine g_800 (v := .int va) 1 0 rfl rfl dX6_wantNumber_1 ?_
  refine J_istore_n (lv' := [some (.ref o), some (.int 0), some (.int most), some (.int va)]) 4 3 dX6_wantNumber_4 rfl (by decide) rfl ?_
  refine J_aload_n 5 0 dX6_wantNumber_5 rfl rfl ?_
  refine J_aload_n 6 0 dX6_wantNumber_6 rfl rfl ?_
  refine g_801 (v := .int gd) 7 0 rfl rfl dX6_wantNumber_7 ?_
  refine J_if_eq (tgt := 34) 10 dX6_wantNumber_10 (by decide) (fun c_1_ => ?_) (fun c_1_ => ?_)
  · skip
    refine J_iconst (v := 0) 34 dX6_wantNumber_34 rfl ?_
    refine p_801 (ws' := (wF [wMo o rw fr kp tr ik tp tm mso bg en wd va 0 rs mu rm ss msz msh mho mhn mhz kd nb tn tc bo ip, wI G tp 200 tf])) 35 0 rfl rfl rfl (Nat.le_of_ble_eq_true rfl) rfl dX6_wantNumber_35 ?_
    refine J_aload_n 38 0 dX6_wantNumber_38 rfl rfl ?_
    refine g_801 (v := .int 0) 39 0 rfl rfl dX6_wantNumber_39 ?_
    refine J_if_eq (tgt := 49) 42 dX6_wantNumber_42 (by decide) (fun _ => ?_) (fun c_2_ => absurd c_2_ (by decide))
    refine J_iload_n 49 3 dX6_wantNumber_49 rfl rfl ?_
    have hN_ : mNum tf tm most (bg, en, mso, wd, va, gd) = (va, bg, en, mso, wd, va, 0) := cif_f (fun z_ => by first | exact absurd (by assumption) z_.1 | exact absurd z_.2.1 (by assumption) | exact absurd z_.2.2 (by assumption))
    exact J_iret 50 dX6_wantNumber_50 (congrArg (fun x_ => some (Value.int x_)) (by rw [hN_])) (cg6 (fun (x0_ : Int32) (x1_ : Nat) (x2_ : Nat) (x3_ : Int64) (x4_ : Int32) (x5_ : Int32) => (wF [wMo o rw fr kp tr ik tp tm x0_ x1_ x2_ x3_ x4_ x5_ rs mu rm ss msz msh mho mhn mhz kd nb tn tc bo ip, wI G tp 200 tf])) mso ((mNum tf tm most (bg, en, mso, wd, va, gd)).2.2.2.1) bg ((mNum tf tm most (bg, en, mso, wd, va, gd)).2.1) en ((mNum tf tm most (bg, en, mso, wd, va, gd)).2.2.1) wd ((mNum tf tm most (bg, en, mso, wd, va, gd)).2.2.2.2.1) va ((mNum tf tm most (bg, en, mso, wd, va, gd)).2.2.2.2.2.1) 0 ((mNum tf tm most (bg, en, mso, wd, va, gd)).2.2.2.2.2.2) (by rw [hN_]) (by rw [hN_]) (by rw [hN_]) (by rw [hN_]) (by rw [hN_]) (by rw [hN_]))
  · skip
    refine J_aload_n 13 0 dX6_wantNumber_13 rfl rfl ?_
    refine g_796 (v := .int mso) 14 0 rfl rfl dX6_wantNumber_14 ?_
    refine J_iconst (v := 2) 17 dX6_wantNumber_17 rfl ?_
    refine J_icmp_ne (tgt := 34) 18 dX6_wantNumber_18 (by decide) (fun c_3_ => ?_) (fun c_3_ => ?_)
    · skip
      refine J_iconst (v := 0) 34 dX6_wantNumber_34 rfl ?_
      refine p_801 (ws' := (wF [wMo o rw fr kp tr ik tp tm mso bg en wd va 0 rs mu rm ss msz msh mho mhn mhz kd nb tn tc bo ip, wI G tp 200 tf])) 35 0 rfl rfl rfl (Nat.le_of_ble_eq_true rfl) rfl dX6_wantNumber_35 ?_
      refine J_aload_n 38 0 dX6_wantNumber_38 rfl rfl ?_
      refine g_801 (v := .int 0) 39 0 rfl rfl dX6_wantNumber_39 ?_
      refine J_if_eq (tgt := 49) 42 dX6_wantNumber_42 (by decide) (fun _ => ?_) (fun c_4_ => absurd c_4_ (by decide))
      refine J_iload_n 49 3 dX6_wantNumber_49 rfl rfl ?_
      have hN_ : mNum tf tm most (bg, en, mso, wd, va, gd) = (va, bg, en, mso, wd, va, 0) := cif_f (fun z_ => by first | exact absurd (by assumption) z_.1 | exact absurd z_.2.1 (by assumption) | exact absurd z_.2.2 (by assumption))
      exact J_iret 50 dX6_wantNumber_50 (congrArg (fun x_ => some (Value.int x_)) (by rw [hN_])) (cg6 (fun (x0_ : Int32) (x1_ : Nat) (x2_ : Nat) (x3_ : Int64) (x4_ : Int32) (x5_ : Int32) => (wF [wMo o rw fr kp tr ik tp tm x0_ x1_ x2_ x3_ x4_ x5_ rs mu rm ss msz msh mho mhn mhz kd nb tn tc bo ip, wI G tp 200 tf])) mso ((mNum tf tm most (bg, en, mso, wd, va, gd)).2.2.2.1) bg ((mNum tf tm most (bg, en, mso, wd, va, gd)).2.1) en ((mNum tf tm most (bg, en, mso, wd, va, gd)).2.2.1) wd ((mNum tf tm most (bg, en, mso, wd, va, gd)).2.2.2.2.1) va ((mNum tf tm most (bg, en, mso, wd, va, gd)).2.2.2.2.2.1) 0 ((mNum tf tm most (bg, en, mso, wd, va, gd)).2.2.2.2.2.2) (by rw [hN_]) (by rw [hN_]) (by rw [hN_]) (by rw [hN_]) (by rw [hN_]) (by rw [hN_]))
    · skip
      refine J_iload_n 21 3 dX6_wantNumber_21 rfl rfl ?_
      refine J_iload_n 22 1 dX6_wantNumber_22 rfl rfl ?_
      refine J_iload_n 23 2 dX6_wantNumber_23 rfl rfl ?_
      refine kb_RX6_57 (bs' := [wMo o rw fr kp tr ik tp tm mso bg en wd va gd rs mu rm ss msz msh mho mhn mhz kd nb tn tc bo ip, wI G tp 200 tf]) (rest := [.ref o]) (st' := [.int (bI (0 ≤ va ∧ va ≤ most)), .ref o]) 24 (c_X6_in l G va 0 most ) [] rfl rfl [] rfl rfl rfl rfl rfl rfl (Nat.le_of_ble_eq_true rfl) rfl dX6_wantNumber_24 ?_
      refine J_ifB_eq (tgt := 34) 27 dX6_wantNumber_27 (by decide) (fun c_5_ => ?_) (fun c_5_ => ?_)
      · skip
        refine J_iconst (v := 0) 34 dX6_wantNumber_34 rfl ?_
        refine p_801 (ws' := (wF [wMo o rw fr kp tr ik tp tm mso bg en wd va 0 rs mu rm ss msz msh mho mhn mhz kd nb tn tc bo ip, wI G tp 200 tf])) 35 0 rfl rfl rfl (Nat.le_of_ble_eq_true rfl) rfl dX6_wantNumber_35 ?_
        refine J_aload_n 38 0 dX6_wantNumber_38 rfl rfl ?_
        refine g_801 (v := .int 0) 39 0 rfl rfl dX6_wantNumber_39 ?_
        refine J_if_eq (tgt := 49) 42 dX6_wantNumber_42 (by decide) (fun _ => ?_) (fun c_6_ => absurd c_6_ (by decide))
        refine J_iload_n 49 3 dX6_wantNumber_49 rfl rfl ?_
        have hN_ : mNum tf tm most (bg, en, mso, wd, va, gd) = (va, bg, en, mso, wd, va, 0) := cif_f (fun z_ => by first | exact absurd (by assumption) z_.1 | exact absurd z_.2.1 (by assumption) | exact absurd z_.2.2 (by assumption))
        exact J_iret 50 dX6_wantNumber_50 (congrArg (fun x_ => some (Value.int x_)) (by rw [hN_])) (cg6 (fun (x0_ : Int32) (x1_ : Nat) (x2_ : Nat) (x3_ : Int64) (x4_ : Int32) (x5_ : Int32) => (wF [wMo o rw fr kp tr ik tp tm x0_ x1_ x2_ x3_ x4_ x5_ rs mu rm ss msz msh mho mhn mhz kd nb tn tc bo ip, wI G tp 200 tf])) mso ((mNum tf tm most (bg, en, mso, wd, va, gd)).2.2.2.1) bg ((mNum tf tm most (bg, en, mso, wd, va, gd)).2.1) en ((mNum tf tm most (bg, en, mso, wd, va, gd)).2.2.1) wd ((mNum tf tm most (bg, en, mso, wd, va, gd)).2.2.2.2.1) va ((mNum tf tm most (bg, en, mso, wd, va, gd)).2.2.2.2.2.1) 0 ((mNum tf tm most (bg, en, mso, wd, va, gd)).2.2.2.2.2.2) (by rw [hN_]) (by rw [hN_]) (by rw [hN_]) (by rw [hN_]) (by rw [hN_]) (by rw [hN_]))
      · skip
        have hc_ := c_5_
        refine J_iconst (v := 1) 30 dX6_wantNumber_30 rfl ?_
        refine J_goto (tgt := 35) 31 dX6_wantNumber_31 (by decide) ?_
        refine p_801 (ws' := (wF [wMo o rw fr kp tr ik tp tm mso bg en wd va 1 rs mu rm ss msz msh mho mhn mhz kd nb tn tc bo ip, wI G tp 200 tf])) 35 0 rfl rfl rfl (Nat.le_of_ble_eq_true rfl) rfl dX6_wantNumber_35 ?_
        refine J_aload_n 38 0 dX6_wantNumber_38 rfl rfl ?_
        refine g_801 (v := .int 1) 39 0 rfl rfl dX6_wantNumber_39 ?_
        refine J_if_eq (tgt := 49) 42 dX6_wantNumber_42 (by decide) (fun c_7_ => absurd c_7_ (by decide)) (fun _ => ?_)
        refine J_aload_n 45 0 dX6_wantNumber_45 rfl rfl ?_
        refine kb_RX6_127 (bs' := [wMo o rw fr kp tr ik tp tm ((mAdv tf tm en).2.2.1) ((mAdv tf tm en).1) ((mAdv tf tm en).2.1) ((mAdv tf tm en).2.2.2.1) ((mAdv tf tm en).2.2.2.2) 1 rs mu rm ss msz msh mho mhn mhz kd nb tn tc bo ip, wI G tp 200 tf]) (rest := []) (st' := []) 46 (c_X6_advance l G o rw fr kp tr ik tp tm mso bg en wd va 1 rs mu rm ss msz msh mho mhn mhz kd nb tn tc bo ip tf (by first | exact hin.1.2 | omega) htm hbf) [0, 1] 0 rfl rfl rfl [[o], [tp]] rfl rfl rfl rfl rfl rfl (Nat.le_of_ble_eq_true rfl) rfl dX6_wantNumber_46 ?_
        obtain ⟨⟨bg_46, en_46, so_46, wd_46, va_46⟩, hT_46⟩ : ∃ t_, mAdv tf tm en = t_ := ⟨_, rfl⟩
        refine J_ws (ws' := (wF [wMo o rw fr kp tr ik tp tm so_46 bg_46 en_46 wd_46 va_46 1 rs mu rm ss msz msh mho mhn mhz kd nb tn tc bo ip, wI G tp 200 tf])) 49 (by rw [hT_46]) ?_
        have hin_46 := fun g_ => mAdv_inE (gq := g_) hT_46 (by first | exact hin.1.2 | omega)
        refine J_iload_n 49 3 dX6_wantNumber_49 rfl rfl ?_
        have hN_ : mNum tf tm most (bg, en, mso, wd, va, gd) = (va, bg_46, en_46, so_46, wd_46, va_46, 1) := (cif_t ⟨by assumption, by assumption, hc_.1, hc_.2⟩).trans (by rw [mUp_e hT_46])
        exact J_iret 50 dX6_wantNumber_50 (congrArg (fun x_ => some (Value.int x_)) (by rw [hN_])) (cg6 (fun (x0_ : Int32) (x1_ : Nat) (x2_ : Nat) (x3_ : Int64) (x4_ : Int32) (x5_ : Int32) => (wF [wMo o rw fr kp tr ik tp tm x0_ x1_ x2_ x3_ x4_ x5_ rs mu rm ss msz msh mho mhn mhz kd nb tn tc bo ip, wI G tp 200 tf])) so_46 ((mNum tf tm most (bg, en, mso, wd, va, gd)).2.2.2.1) bg_46 ((mNum tf tm most (bg, en, mso, wd, va, gd)).2.1) en_46 ((mNum tf tm most (bg, en, mso, wd, va, gd)).2.2.1) wd_46 ((mNum tf tm most (bg, en, mso, wd, va, gd)).2.2.2.2.1) va_46 ((mNum tf tm most (bg, en, mso, wd, va, gd)).2.2.2.2.2.1) 1 ((mNum tf tm most (bg, en, mso, wd, va, gd)).2.2.2.2.2.2) (by rw [hN_]) (by rw [hN_]) (by rw [hN_]) (by rw [hN_]) (by rw [hN_]) (by rw [hN_]))
set_option maxRecDepth 100000 in
set_option maxHeartbeats 4000000 in
theorem c_X6_wantEnd (l : Launch) (G : Gd) (o : Nat) (rw : Nat) (fr : Nat) (kp : Nat) (tr : Nat) (ik : Int32) (tp : Nat) (tm : Nat) (mso : Int32) (bg : Nat) (en : Nat) (wd : Int64) (va : Int32) (gd : Int32) (rs : Nat) (mu : Nat) (rm : Nat) (ss : Nat) (msz : Nat) (msh : Nat) (mho : Nat) (mhn : Nat) (mhz : Nat) (kd : Int32) (nb : Int32) (tn : Int32) (tc : Nat) (bo : Nat) (ip : Int32) (tf : Nat → Int32) (hin : mIn tm (bg, en, mso, wd, va, gd)) (htm : tm ≤ 200) (hbf : ∀ j_, j_ < tm → 0 ≤ tf j_) : Ct l G yX6_wantEnd cX6_wantEnd 1 none 3 [.ref o] (wF [wMo o rw fr kp tr ik tp tm mso bg en wd va gd rs mu rm ss msz msh mho mhn mhz kd nb tn tc bo ip, wI G tp 200 tf]) none (wF [wMo o rw fr kp tr ik tp tm ((mEnd tf tm (bg, en, mso, wd, va, gd)).2.2.1) ((mEnd tf tm (bg, en, mso, wd, va, gd)).1) ((mEnd tf tm (bg, en, mso, wd, va, gd)).2.1) ((mEnd tf tm (bg, en, mso, wd, va, gd)).2.2.2.1) ((mEnd tf tm (bg, en, mso, wd, va, gd)).2.2.2.2.1) ((mEnd tf tm (bg, en, mso, wd, va, gd)).2.2.2.2.2) rs mu rm ss msz msh mho mhn mhz kd nb tn tc bo ip, wI G tp 200 tf]) := by
  refine Ct.of "GooseArmsModel" [some (.ref o)] (by decide +kernel) rfl (Nat.le_of_ble_eq_true rfl) rfl ?_
  refine J_aload_n 0 0 dX6_wantEnd_0 rfl rfl ?_
  refine J_aload_n 1 0 dX6_wantEnd_1 rfl rfl ?_
  refine g_801 (v := .int gd) 2 0 rfl rfl dX6_wantEnd_2 ?_
  refine J_if_eq (tgt := 21) 5 dX6_wantEnd_5 (by decide) (fun c_1_ => ?_) (fun c_1_ => ?_)
  · skip
    refine J_iconst (v := 0) 21 dX6_wantEnd_21 rfl ?_
    refine p_801 (ws' := (wF [wMo o rw fr kp tr ik tp tm mso bg en wd va 0 rs mu rm ss msz msh mho mhn mhz kd nb tn tc bo ip, wI G tp 200 tf])) 22 0 rfl rfl rfl (Nat.le_of_ble_eq_true rfl) rfl dX6_wantEnd_22 ?_
    refine J_aload_n 25 0 dX6_wantEnd_25 rfl rfl ?_
    refine g_801 (v := .int 0) 26 0 rfl rfl dX6_wantEnd_26 ?_
    refine J_if_eq (tgt := 36) 29 dX6_wantEnd_29 (by decide) (fun _ => ?_) (fun c_2_ => absurd c_2_ (by decide))
    have hN_ : mEnd tf tm (bg, en, mso, wd, va, gd) = (bg, en, mso, wd, va, 0) := cif_f (fun z_ => by first | exact absurd (by assumption) z_.1 | exact absurd z_.2 (by assumption))
    exact J_vret 36 dX6_wantEnd_36 rfl (cg6 (fun (x0_ : Int32) (x1_ : Nat) (x2_ : Nat) (x3_ : Int64) (x4_ : Int32) (x5_ : Int32) => (wF [wMo o rw fr kp tr ik tp tm x0_ x1_ x2_ x3_ x4_ x5_ rs mu rm ss msz msh mho mhn mhz kd nb tn tc bo ip, wI G tp 200 tf])) mso ((mEnd tf tm (bg, en, mso, wd, va, gd)).2.2.1) bg ((mEnd tf tm (bg, en, mso, wd, va, gd)).1) en ((mEnd tf tm (bg, en, mso, wd, va, gd)).2.1) wd ((mEnd tf tm (bg, en, mso, wd, va, gd)).2.2.2.1) va ((mEnd tf tm (bg, en, mso, wd, va, gd)).2.2.2.2.1) 0 ((mEnd tf tm (bg, en, mso, wd, va, gd)).2.2.2.2.2) (by rw [hN_]) (by rw [hN_]) (by rw [hN_]) (by rw [hN_]) (by rw [hN_]) (by rw [hN_]))
  · skip
    refine J_aload_n 8 0 dX6_wantEnd_8 rfl rfl ?_
    refine J_bipush (v := 59) 9 dX6_wantEnd_9 rfl ?_
    refine kb_RX6_130 (bs' := [wMo o rw fr kp tr ik tp tm mso bg en wd va gd rs mu rm ss msz msh mho mhn mhz kd nb tn tc bo ip, wI G tp 200 tf]) (rest := [.ref o]) (st' := [.int (bI (mso = 3 ∧ va = 59)), .ref o]) 11 (c_X6_isMark l G 59 o rw fr kp tr ik tp tm mso bg en wd va gd rs mu rm ss msz msh mho mhn mhz kd nb tn tc bo ip ) [0] 0 rfl rfl rfl [[o]] rfl rfl rfl rfl rfl rfl (Nat.le_of_ble_eq_true rfl) rfl dX6_wantEnd_11 ?_
    refine J_ifB_eq (tgt := 21) 14 dX6_wantEnd_14 (by decide) (fun c_3_ => ?_) (fun c_3_ => ?_)
    · skip
      refine J_iconst (v := 0) 21 dX6_wantEnd_21 rfl ?_
      refine p_801 (ws' := (wF [wMo o rw fr kp tr ik tp tm mso bg en wd va 0 rs mu rm ss msz msh mho mhn mhz kd nb tn tc bo ip, wI G tp 200 tf])) 22 0 rfl rfl rfl (Nat.le_of_ble_eq_true rfl) rfl dX6_wantEnd_22 ?_
      refine J_aload_n 25 0 dX6_wantEnd_25 rfl rfl ?_
      refine g_801 (v := .int 0) 26 0 rfl rfl dX6_wantEnd_26 ?_
      refine J_if_eq (tgt := 36) 29 dX6_wantEnd_29 (by decide) (fun _ => ?_) (fun c_4_ => absurd c_4_ (by decide))
      have hN_ : mEnd tf tm (bg, en, mso, wd, va, gd) = (bg, en, mso, wd, va, 0) := cif_f (fun z_ => by first | exact absurd (by assumption) z_.1 | exact absurd z_.2 (by assumption))
      exact J_vret 36 dX6_wantEnd_36 rfl (cg6 (fun (x0_ : Int32) (x1_ : Nat) (x2_ : Nat) (x3_ : Int64) (x4_ : Int32) (x5_ : Int32) => (wF [wMo o rw fr kp tr ik tp tm x0_ x1_ x2_ x3_ x4_ x5_ rs mu rm ss msz msh mho mhn mhz kd nb tn tc bo ip, wI G tp 200 tf])) mso ((mEnd tf tm (bg, en, mso, wd, va, gd)).2.2.1) bg ((mEnd tf tm (bg, en, mso, wd, va, gd)).1) en ((mEnd tf tm (bg, en, mso, wd, va, gd)).2.1) wd ((mEnd tf tm (bg, en, mso, wd, va, gd)).2.2.2.1) va ((mEnd tf tm (bg, en, mso, wd, va, gd)).2.2.2.2.1) 0 ((mEnd tf tm (bg, en, mso, wd, va, gd)).2.2.2.2.2) (by rw [hN_]) (by rw [hN_]) (by rw [hN_]) (by rw [hN_]) (by rw [hN_]) (by rw [hN_]))
    · skip
      refine J_iconst (v := 1) 17 dX6_wantEnd_17 rfl ?_
      refine J_goto (tgt := 22) 18 dX6_wantEnd_18 (by decide) ?_
      refine p_801 (ws' := (wF [wMo o rw fr kp tr ik tp tm mso bg en wd va 1 rs mu rm ss msz msh mho mhn mhz kd nb tn tc bo ip, wI G tp 200 tf])) 22 0 rfl rfl rfl (Nat.le_of_ble_eq_true rfl) rfl dX6_wantEnd_22 ?_
      refine J_aload_n 25 0 dX6_wantEnd_25 rfl rfl ?_
      refine g_801 (v := .int 1) 26 0 rfl rfl dX6_wantEnd_26 ?_
      refine J_if_eq (tgt := 36) 29 dX6_wantEnd_29 (by decide) (fun c_5_ => absurd c_5_ (by decide)) (fun _ => ?_)
      refine J_aload_n 32 0 dX6_wantEnd_32 rfl rfl ?_
      refine kb_RX6_127 (bs' := [wMo o rw fr kp tr ik tp tm ((mAdv tf tm en).2.2.1) ((mAdv tf tm en).1) ((mAdv tf tm en).2.1) ((mAdv tf tm en).2.2.2.1) ((mAdv tf tm en).2.2.2.2) 1 rs mu rm ss msz msh mho mhn mhz kd nb tn tc bo ip, wI G tp 200 tf]) (rest := []) (st' := []) 33 (c_X6_advance l G o rw fr kp tr ik tp tm mso bg en wd va 1 rs mu rm ss msz msh mho mhn mhz kd nb tn tc bo ip tf (by first | exact hin.1.2 | omega) htm hbf) [0, 1] 0 rfl rfl rfl [[o], [tp]] rfl rfl rfl rfl rfl rfl (Nat.le_of_ble_eq_true rfl) rfl dX6_wantEnd_33 ?_
      obtain ⟨⟨bg_33, en_33, so_33, wd_33, va_33⟩, hT_33⟩ : ∃ t_, mAdv tf tm en = t_ := ⟨_, rfl⟩
      refine J_ws (ws' := (wF [wMo o rw fr kp tr ik tp tm so_33 bg_33 en_33 wd_33 va_33 1 rs mu rm ss msz msh mho mhn mhz kd nb tn tc bo ip, wI G tp 200 tf])) 36 (by rw [hT_33]) ?_
      have hin_33 := fun g_ => mAdv_inE (gq := g_) hT_33 (by first | exact hin.1.2 | omega)
      have hN_ : mEnd tf tm (bg, en, mso, wd, va, gd) = (bg_33, en_33, so_33, wd_33, va_33, 1) := (cif_t ⟨by assumption, by assumption⟩).trans (by rw [mUp_e hT_33])
      exact J_vret 36 dX6_wantEnd_36 rfl (cg6 (fun (x0_ : Int32) (x1_ : Nat) (x2_ : Nat) (x3_ : Int64) (x4_ : Int32) (x5_ : Int32) => (wF [wMo o rw fr kp tr ik tp tm x0_ x1_ x2_ x3_ x4_ x5_ rs mu rm ss msz msh mho mhn mhz kd nb tn tc bo ip, wI G tp 200 tf])) so_33 ((mEnd tf tm (bg, en, mso, wd, va, gd)).2.2.1) bg_33 ((mEnd tf tm (bg, en, mso, wd, va, gd)).1) en_33 ((mEnd tf tm (bg, en, mso, wd, va, gd)).2.1) wd_33 ((mEnd tf tm (bg, en, mso, wd, va, gd)).2.2.2.1) va_33 ((mEnd tf tm (bg, en, mso, wd, va, gd)).2.2.2.2.1) 1 ((mEnd tf tm (bg, en, mso, wd, va, gd)).2.2.2.2.2) (by rw [hN_]) (by rw [hN_]) (by rw [hN_]) (by rw [hN_]) (by rw [hN_]) (by rw [hN_]))
set_option maxRecDepth 100000 in
set_option maxHeartbeats 4000000 in
theorem c_X6_may (l : Launch) (G : Gd) (w : Int64) (o : Nat) (rw : Nat) (fr : Nat) (kp : Nat) (tr : Nat) (ik : Int32) (tp : Nat) (tm : Nat) (mso : Int32) (bg : Nat) (en : Nat) (wd : Int64) (va : Int32) (gd : Int32) (rs : Nat) (mu : Nat) (rm : Nat) (ss : Nat) (msz : Nat) (msh : Nat) (mho : Nat) (mhn : Nat) (mhz : Nat) (kd : Int32) (nb : Int32) (tn : Int32) (tc : Nat) (bo : Nat) (ip : Int32) (tf : Nat → Int32) (hin : mIn tm (bg, en, mso, wd, va, gd)) (htm : tm ≤ 200) (hbf : ∀ j_, j_ < tm → 0 ≤ tf j_) : Ct l G yX6_may cX6_may 4 (some (FieldType.boolean)) 3 [.ref o, .long w] (wF [wMo o rw fr kp tr ik tp tm mso bg en wd va gd rs mu rm ss msz msh mho mhn mhz kd nb tn tc bo ip, wI G tp 200 tf]) (some (.int ((mMay tf tm w (bg, en, mso, wd, va, gd)).1))) (wF [wMo o rw fr kp tr ik tp tm ((mMay tf tm w (bg, en, mso, wd, va, gd)).2.2.2.1) ((mMay tf tm w (bg, en, mso, wd, va, gd)).2.1) ((mMay tf tm w (bg, en, mso, wd, va, gd)).2.2.1) ((mMay tf tm w (bg, en, mso, wd, va, gd)).2.2.2.2.1) ((mMay tf tm w (bg, en, mso, wd, va, gd)).2.2.2.2.2.1) ((mMay tf tm w (bg, en, mso, wd, va, gd)).2.2.2.2.2.2) rs mu rm ss msz msh mho mhn mhz kd nb tn tc bo ip, wI G tp 200 tf]) := by
  refine Ct.of "GooseArmsModel" [some (.ref o), some (.long w), none, none] (by decide +kernel) rfl (Nat.le_of_ble_eq_true rfl) rfl ?_
  refine J_aload_n 0 0 dX6_may_0 rfl rfl ?_
  refine g_801 (v := .int gd) 1 0 rfl rfl dX6_may_1 ?_
  refine J_if_eq (tgt := 19) 4 dX6_may_4 (by decide) (fun c_1_ => ?_) (fun c_1_ => ?_)
  · skip
    refine J_iconst (v := 0) 19 dX6_may_19 rfl ?_
    refine J_istore_n (lv' := [some (.ref o), some (.long w), none, some (.int 0)]) 20 3 dX6_may_20 rfl (by decide) rfl ?_
    refine J_iload_n 21 3 dX6_may_21 rfl rfl ?_
    refine J_if_eq (tgt := 29) 22 dX6_may_22 (by decide) (fun _ => ?_) (fun c_2_ => absurd c_2_ (by decide))
    refine J_iload_n 29 3 dX6_may_29 rfl rfl ?_
    have hN_ : mMay tf tm w (bg, en, mso, wd, va, gd) = (0, bg, en, mso, wd, va, gd) := cif_f (fun z_ => by first | exact absurd (by assumption) z_.1 | exact absurd z_.2 (by assumption))
    exact J_zret 30 rfl dX6_may_30 (congrArg (fun x_ => some (Value.int x_)) (by rw [hN_])) (cg6 (fun (x0_ : Int32) (x1_ : Nat) (x2_ : Nat) (x3_ : Int64) (x4_ : Int32) (x5_ : Int32) => (wF [wMo o rw fr kp tr ik tp tm x0_ x1_ x2_ x3_ x4_ x5_ rs mu rm ss msz msh mho mhn mhz kd nb tn tc bo ip, wI G tp 200 tf])) mso ((mMay tf tm w (bg, en, mso, wd, va, gd)).2.2.2.1) bg ((mMay tf tm w (bg, en, mso, wd, va, gd)).2.1) en ((mMay tf tm w (bg, en, mso, wd, va, gd)).2.2.1) wd ((mMay tf tm w (bg, en, mso, wd, va, gd)).2.2.2.2.1) va ((mMay tf tm w (bg, en, mso, wd, va, gd)).2.2.2.2.2.1) gd ((mMay tf tm w (bg, en, mso, wd, va, gd)).2.2.2.2.2.2) (by rw [hN_]) (by rw [hN_]) (by rw [hN_]) (by rw [hN_]) (by rw [hN_]) (by rw [hN_]))
  · skip
    refine J_aload_n 7 0 dX6_may_7 rfl rfl ?_
    refine J_lload_n 8 1 dX6_may_8 rfl rfl ?_
    refine kb_RX6_101 (bs' := [wMo o rw fr kp tr ik tp tm mso bg en wd va gd rs mu rm ss msz msh mho mhn mhz kd nb tn tc bo ip, wI G tp 200 tf]) (rest := []) (st' := [.int (bI (mso = 1 ∧ wd = w))]) 9 (c_X6_isWord l G w o rw fr kp tr ik tp tm mso bg en wd va gd rs mu rm ss msz msh mho mhn mhz kd nb tn tc bo ip ) [0] 0 rfl rfl rfl [[o]] rfl rfl rfl rfl rfl rfl (Nat.le_of_ble_eq_true rfl) rfl dX6_may_9 ?_
    refine J_ifB_eq (tgt := 19) 12 dX6_may_12 (by decide) (fun c_3_ => ?_) (fun c_3_ => ?_)
    · skip
      refine J_iconst (v := 0) 19 dX6_may_19 rfl ?_
      refine J_istore_n (lv' := [some (.ref o), some (.long w), none, some (.int 0)]) 20 3 dX6_may_20 rfl (by decide) rfl ?_
      refine J_iload_n 21 3 dX6_may_21 rfl rfl ?_
      refine J_if_eq (tgt := 29) 22 dX6_may_22 (by decide) (fun _ => ?_) (fun c_4_ => absurd c_4_ (by decide))
      refine J_iload_n 29 3 dX6_may_29 rfl rfl ?_
      have hN_ : mMay tf tm w (bg, en, mso, wd, va, gd) = (0, bg, en, mso, wd, va, gd) := cif_f (fun z_ => by first | exact absurd (by assumption) z_.1 | exact absurd z_.2 (by assumption))
      exact J_zret 30 rfl dX6_may_30 (congrArg (fun x_ => some (Value.int x_)) (by rw [hN_])) (cg6 (fun (x0_ : Int32) (x1_ : Nat) (x2_ : Nat) (x3_ : Int64) (x4_ : Int32) (x5_ : Int32) => (wF [wMo o rw fr kp tr ik tp tm x0_ x1_ x2_ x3_ x4_ x5_ rs mu rm ss msz msh mho mhn mhz kd nb tn tc bo ip, wI G tp 200 tf])) mso ((mMay tf tm w (bg, en, mso, wd, va, gd)).2.2.2.1) bg ((mMay tf tm w (bg, en, mso, wd, va, gd)).2.1) en ((mMay tf tm w (bg, en, mso, wd, va, gd)).2.2.1) wd ((mMay tf tm w (bg, en, mso, wd, va, gd)).2.2.2.2.1) va ((mMay tf tm w (bg, en, mso, wd, va, gd)).2.2.2.2.2.1) gd ((mMay tf tm w (bg, en, mso, wd, va, gd)).2.2.2.2.2.2) (by rw [hN_]) (by rw [hN_]) (by rw [hN_]) (by rw [hN_]) (by rw [hN_]) (by rw [hN_]))
    · skip
      refine J_iconst (v := 1) 15 dX6_may_15 rfl ?_
      refine J_goto (tgt := 20) 16 dX6_may_16 (by decide) ?_
      refine J_istore_n (lv' := [some (.ref o), some (.long w), none, some (.int 1)]) 20 3 dX6_may_20 rfl (by decide) rfl ?_
      refine J_iload_n 21 3 dX6_may_21 rfl rfl ?_
      refine J_if_eq (tgt := 29) 22 dX6_may_22 (by decide) (fun c_5_ => absurd c_5_ (by decide)) (fun _ => ?_)
      refine J_aload_n 25 0 dX6_may_25 rfl rfl ?_
      refine kb_RX6_127 (bs' := [wMo o rw fr kp tr ik tp tm ((mAdv tf tm en).2.2.1) ((mAdv tf tm en).1) ((mAdv tf tm en).2.1) ((mAdv tf tm en).2.2.2.1) ((mAdv tf tm en).2.2.2.2) gd rs mu rm ss msz msh mho mhn mhz kd nb tn tc bo ip, wI G tp 200 tf]) (rest := []) (st' := []) 26 (c_X6_advance l G o rw fr kp tr ik tp tm mso bg en wd va gd rs mu rm ss msz msh mho mhn mhz kd nb tn tc bo ip tf (by first | exact hin.1.2 | omega) htm hbf) [0, 1] 0 rfl rfl rfl [[o], [tp]] rfl rfl rfl rfl rfl rfl (Nat.le_of_ble_eq_true rfl) rfl dX6_may_26 ?_
      obtain ⟨⟨bg_26, en_26, so_26, wd_26, va_26⟩, hT_26⟩ : ∃ t_, mAdv tf tm en = t_ := ⟨_, rfl⟩
      refine J_ws (ws' := (wF [wMo o rw fr kp tr ik tp tm so_26 bg_26 en_26 wd_26 va_26 gd rs mu rm ss msz msh mho mhn mhz kd nb tn tc bo ip, wI G tp 200 tf])) 29 (by rw [hT_26]) ?_
      have hin_26 := fun g_ => mAdv_inE (gq := g_) hT_26 (by first | exact hin.1.2 | omega)
      refine J_iload_n 29 3 dX6_may_29 rfl rfl ?_
      have hN_ : mMay tf tm w (bg, en, mso, wd, va, gd) = (1, bg_26, en_26, so_26, wd_26, va_26, gd) := (cif_t ⟨by assumption, by assumption⟩).trans (by rw [mUp_e hT_26])
      exact J_zret 30 rfl dX6_may_30 (congrArg (fun x_ => some (Value.int x_)) (by rw [hN_])) (cg6 (fun (x0_ : Int32) (x1_ : Nat) (x2_ : Nat) (x3_ : Int64) (x4_ : Int32) (x5_ : Int32) => (wF [wMo o rw fr kp tr ik tp tm x0_ x1_ x2_ x3_ x4_ x5_ rs mu rm ss msz msh mho mhn mhz kd nb tn tc bo ip, wI G tp 200 tf])) so_26 ((mMay tf tm w (bg, en, mso, wd, va, gd)).2.2.2.1) bg_26 ((mMay tf tm w (bg, en, mso, wd, va, gd)).2.1) en_26 ((mMay tf tm w (bg, en, mso, wd, va, gd)).2.2.1) wd_26 ((mMay tf tm w (bg, en, mso, wd, va, gd)).2.2.2.2.1) va_26 ((mMay tf tm w (bg, en, mso, wd, va, gd)).2.2.2.2.2.1) gd ((mMay tf tm w (bg, en, mso, wd, va, gd)).2.2.2.2.2.2) (by rw [hN_]) (by rw [hN_]) (by rw [hN_]) (by rw [hN_]) (by rw [hN_]) (by rw [hN_]))
set_option maxRecDepth 100000 in
set_option maxHeartbeats 4000000 in
theorem c_X6_wantOne (l : Launch) (G : Gd) (kq : Int32) (o : Nat) (rw : Nat) (fr : Nat) (kp : Nat) (tr : Nat) (ik : Int32) (tp : Nat) (tm : Nat) (mso : Int32) (bg : Nat) (en : Nat) (wd : Int64) (va : Int32) (gd : Int32) (rs : Nat) (mu : Nat) (rm : Nat) (ss : Nat) (msz : Nat) (msh : Nat) (mho : Nat) (mhn : Nat) (mhz : Nat) (kd : Int32) (nb : Int32) (tn : Int32) (tc : Nat) (bo : Nat) (ip : Int32) (tf : Nat → Int32) (la : Nat → Int32) (ns : Nat) (sd : Nat) (to : Nat → Int32) (he : Nat → Int32) (sw : Nat → Int32) (nh : Nat) (ki : Nat → Int32) (te : Nat → Int32) (mi : Nat → Int32) (ar : Nat → Int32) (z : Int32) (hin : mIn tm (bg, en, mso, wd, va, gd)) (htm : tm ≤ 200) (hbf : ∀ j_, j_ < tm → 0 ≤ tf j_) (hnh : nh ≤ 8) : Ct l G yX6_wantOne cX6_wantOne 5 none 4 [.ref o, .int kq] (wF [wMo o rw fr kp tr ik tp tm mso bg en wd va gd rs mu rm ss msz msh mho mhn mhz kd nb tn tc bo ip, wI G tp 200 tf, wMr G fr la ns sd to he sw nh ki te mi ar z]) none (wF [wMo o rw fr kp tr ik tp tm ((mOne tf tm kq (bg, en, mso, wd, va, gd) nh ki te mi ar).1.2.2.1) ((mOne tf tm kq (bg, en, mso, wd, va, gd) nh ki te mi ar).1.1) ((mOne tf tm kq (bg, en, mso, wd, va, gd) nh ki te mi ar).1.2.1) ((mOne tf tm kq (bg, en, mso, wd, va, gd) nh ki te mi ar).1.2.2.2.1) ((mOne tf tm kq (bg, en, mso, wd, va, gd) nh ki te mi ar).1.2.2.2.2.1) ((mOne tf tm kq (bg, en, mso, wd, va, gd) nh ki te mi ar).1.2.2.2.2.2) rs mu rm ss msz msh mho mhn mhz kd nb tn tc bo ip, wI G tp 200 tf, wMr G fr la ns sd to he sw ((mOne tf tm kq (bg, en, mso, wd, va, gd) nh ki te mi ar).2.1) ((mOne tf tm kq (bg, en, mso, wd, va, gd) nh ki te mi ar).2.2.1) ((mOne tf tm kq (bg, en, mso, wd, va, gd) nh ki te mi ar).2.2.2.1) ((mOne tf tm kq (bg, en, mso, wd, va, gd) nh ki te mi ar).2.2.2.2.1) ((mOne tf tm kq (bg, en, mso, wd, va, gd) nh ki te mi ar).2.2.2.2.2) z]) := by
  refine Ct.of "GooseArmsModel" [some (.ref o), some (.int kq), none, none, none] (by decide +kernel) rfl (Nat.le_of_ble_eq_true rfl) rfl ?_
  have cut_78_ : ∀ (rv2 : Int32) (bg2 : Nat) (en2 : Nat) (so2 : Int32) (wd2 : Int64) (va2 : Int32) (gd2 : Int32) (rv1 : Int32), (hA1 : (mOp tf tm 289913976 99 3 (mO0 tf tm nh 8 (bg, en, mso, wd, va, gd))).1 = rv1) → (hB : mOp tf tm 7096213 255 255 (mOp tf tm 289913976 99 3 (mO0 tf tm nh 8 (bg, en, mso, wd, va, gd))).2 = (rv2, bg2, en2, so2, wd2, va2, gd2)) → J l G (bd G 4 none none (wF [wMo o rw fr kp tr ik tp tm ((mOne tf tm kq (bg, en, mso, wd, va, gd) nh ki te mi ar).1.2.2.1) ((mOne tf tm kq (bg, en, mso, wd, va, gd) nh ki te mi ar).1.1) ((mOne tf tm kq (bg, en, mso, wd, va, gd) nh ki te mi ar).1.2.1) ((mOne tf tm kq (bg, en, mso, wd, va, gd) nh ki te mi ar).1.2.2.2.1) ((mOne tf tm kq (bg, en, mso, wd, va, gd) nh ki te mi ar).1.2.2.2.2.1) ((mOne tf tm kq (bg, en, mso, wd, va, gd) nh ki te mi ar).1.2.2.2.2.2) rs mu rm ss msz msh mho mhn mhz kd nb tn tc bo ip, wI G tp 200 tf, wMr G fr la ns sd to he sw ((mOne tf tm kq (bg, en, mso, wd, va, gd) nh ki te mi ar).2.1) ((mOne tf tm kq (bg, en, mso, wd, va, gd) nh ki te mi ar).2.2.1) ((mOne tf tm kq (bg, en, mso, wd, va, gd) nh ki te mi ar).2.2.2.1) ((mOne tf tm kq (bg, en, mso, wd, va, gd) nh ki te mi ar).2.2.2.2.1) ((mOne tf tm kq (bg, en, mso, wd, va, gd) nh ki te mi ar).2.2.2.2.2) z])) cX6_wantOne 5 "GooseArmsModel" 78 [some (.ref o), some (.int kq), some (.int rv1), none, none] [.int rv2] (wF [wMo o rw fr kp tr ik tp tm so2 bg2 en2 wd2 va2 gd2 rs mu rm ss msz msh mho mhn mhz kd nb tn tc bo ip, wI G tp 200 tf, wMr G fr la ns sd to he sw nh ki te mi ar z]) := by
    intro rv2 bg2 en2 so2 wd2 va2 gd2 rv1 hA1 hB
    have hin2 := (mOp_inE hB (mOp_in (mO0_in hin).1).1).1
    refine J_istore_n (lv' := [some (.ref o), some (.int kq), some (.int rv1), some (.int rv2), none]) 78 3 dX6_wantOne_78 rfl (by decide) rfl ?_
    refine J_aload_n 79 0 dX6_wantOne_79 rfl rfl ?_
    refine kb_RX6_144 (bs' := [wMo o rw fr kp tr ik tp tm ((mEnd tf tm (bg2, en2, so2, wd2, va2, gd2)).2.2.1) ((mEnd tf tm (bg2, en2, so2, wd2, va2, gd2)).1) ((mEnd tf tm (bg2, en2, so2, wd2, va2, gd2)).2.1) ((mEnd tf tm (bg2, en2, so2, wd2, va2, gd2)).2.2.2.1) ((mEnd tf tm (bg2, en2, so2, wd2, va2, gd2)).2.2.2.2.1) ((mEnd tf tm (bg2, en2, so2, wd2, va2, gd2)).2.2.2.2.2) rs mu rm ss msz msh mho mhn mhz kd nb tn tc bo ip, wI G tp 200 tf, wMr G fr la ns sd to he sw nh ki te mi ar z]) (rest := []) (st' := []) 80 (c_X6_wantEnd l G o rw fr kp tr ik tp tm so2 bg2 en2 wd2 va2 gd2 rs mu rm ss msz msh mho mhn mhz kd nb tn tc bo ip tf (by assumption) htm hbf) [0, 1] 0 rfl rfl rfl [[o], [tp]] rfl rfl rfl rfl rfl rfl (Nat.le_of_ble_eq_true rfl) rfl dX6_wantOne_80 ?_
    obtain ⟨⟨bg_80, en_80, so_80, wd_80, va_80, gd_80⟩, hT_80⟩ : ∃ t_, mEnd tf tm (bg2, en2, so2, wd2, va2, gd2) = t_ := ⟨_, rfl⟩
    refine J_ws (ws' := (wF [wMo o rw fr kp tr ik tp tm so_80 bg_80 en_80 wd_80 va_80 gd_80 rs mu rm ss msz msh mho mhn mhz kd nb tn tc bo ip, wI G tp 200 tf, wMr G fr la ns sd to he sw nh ki te mi ar z])) 83 (by rw [hT_80]) ?_
    obtain ⟨hin_80, hbe_80, hen_80⟩ := mEnd_inE hT_80 (by first | assumption | solve_by_elim)
    refine J_aload_n 83 0 dX6_wantOne_83 rfl rfl ?_
    refine g_801 (v := .int gd_80) 84 0 rfl rfl dX6_wantOne_84 ?_
    refine J_if_eq (tgt := 153) 87 dX6_wantOne_87 (by decide) (fun c_1_ => ?_) (fun c_1_ => ?_)
    · skip
      have hN_ : mOne tf tm kq (bg, en, mso, wd, va, gd) nh ki te mi ar = ((bg_80, en_80, so_80, wd_80, va_80, gd_80), nh, ki, te, mi, ar) := by unfold mOne; rw [hB]; dsimp only; rw [hT_80]; exact if_pos (by assumption)
      exact J_vret 153 dX6_wantOne_153 rfl (cg11 (fun (x0_ : Int32) (x1_ : Nat) (x2_ : Nat) (x3_ : Int64) (x4_ : Int32) (x5_ : Int32) (x6_ : Nat) (x7_ : Nat → Int32) (x8_ : Nat → Int32) (x9_ : Nat → Int32) (x10_ : Nat → Int32) => (wF [wMo o rw fr kp tr ik tp tm x0_ x1_ x2_ x3_ x4_ x5_ rs mu rm ss msz msh mho mhn mhz kd nb tn tc bo ip, wI G tp 200 tf, wMr G fr la ns sd to he sw x6_ x7_ x8_ x9_ x10_ z])) so_80 ((mOne tf tm kq (bg, en, mso, wd, va, gd) nh ki te mi ar).1.2.2.1) bg_80 ((mOne tf tm kq (bg, en, mso, wd, va, gd) nh ki te mi ar).1.1) en_80 ((mOne tf tm kq (bg, en, mso, wd, va, gd) nh ki te mi ar).1.2.1) wd_80 ((mOne tf tm kq (bg, en, mso, wd, va, gd) nh ki te mi ar).1.2.2.2.1) va_80 ((mOne tf tm kq (bg, en, mso, wd, va, gd) nh ki te mi ar).1.2.2.2.2.1) gd_80 ((mOne tf tm kq (bg, en, mso, wd, va, gd) nh ki te mi ar).1.2.2.2.2.2) nh ((mOne tf tm kq (bg, en, mso, wd, va, gd) nh ki te mi ar).2.1) ki ((mOne tf tm kq (bg, en, mso, wd, va, gd) nh ki te mi ar).2.2.1) te ((mOne tf tm kq (bg, en, mso, wd, va, gd) nh ki te mi ar).2.2.2.1) mi ((mOne tf tm kq (bg, en, mso, wd, va, gd) nh ki te mi ar).2.2.2.2.1) ar ((mOne tf tm kq (bg, en, mso, wd, va, gd) nh ki te mi ar).2.2.2.2.2) (by rw [hN_]) (by rw [hN_]) (by rw [hN_]) (by rw [hN_]) (by rw [hN_]) (by rw [hN_]) (by rw [hN_]) (by rw [hN_]) (by rw [hN_]) (by rw [hN_]) (by rw [hN_]))
    · skip
      have hlt_ : nh < 8 := Classical.byContradiction (fun z_ => by
        have e1_ := mOp_g (f := tf) (tm := tm) (w := 7096213) (most := 255) (wo := 255) (mOp_g (f := tf) (tm := tm) (w := 289913976) (most := 99) (wo := 3) (mO0_g (f := tf) (tm := tm) (t := (bg, en, mso, wd, va, gd)) z_))
        rw [hB] at e1_
        have e2_ := mEnd_g (f := tf) (tm := tm) e1_
        dsimp only at e2_
        rw [hT_80] at e2_
        exact c_1_ e2_)
      refine J_bipush (v := 44) 90 dX6_wantOne_90 rfl ?_
      refine J_iconst (v := 4) 92 dX6_wantOne_92 rfl ?_
      refine J_aload_n 93 0 dX6_wantOne_93 rfl rfl ?_
      refine g_790 (v := .ref fr) 94 0 rfl rfl dX6_wantOne_94 ?_
      refine J_bipush (v := 6) 97 dX6_wantOne_97 rfl ?_
      refine J_iald 99 2 6 rfl rfl (by omega) (by decide) dX6_wantOne_99 ?_
      refine J_topi (y := nI nh) 100 (fR_nh rfl) ?_
      refine J_imul 100 dX6_wantOne_100 ?_
      refine J_topi (y := nI (4 * nh)) 101 (pk_mul 4 nh) ?_
      refine J_iadd 101 dX6_wantOne_101 ?_
      refine J_topi (y := nI (44 + (4 * nh))) 102 (nI_add 44 (4 * nh)) ?_
      refine J_istore (lv' := [some (.ref o), some (.int kq), some (.int rv1), some (.int rv2), some (.int (nI (44 + (4 * nh))))]) 102 dX6_wantOne_102 (by decide) rfl ?_
      refine J_aload_n 104 0 dX6_wantOne_104 rfl rfl ?_
      refine g_790 (v := .ref fr) 105 0 rfl rfl dX6_wantOne_105 ?_
      refine J_iload 108 dX6_wantOne_108 rfl ?_
      refine J_iload_n 110 1 dX6_wantOne_110 rfl rfl ?_
      refine J_iast (ws' := (wF [wMo o rw fr kp tr ik tp tm so_80 bg_80 en_80 wd_80 va_80 gd_80 rs mu rm ss msz msh mho mhn mhz kd nb tn tc bo ip, wI G tp 200 tf, wI G fr 76 (upd (fRow la ns sd to he sw nh ki te mi ar z) (44 + (4 * nh)) kq)])) 111 2 (44 + (4 * nh)) rfl rfl (by omega) (by decide) rfl dX6_wantOne_111 ?_
      refine J_ws (ws' := (wF [wMo o rw fr kp tr ik tp tm so_80 bg_80 en_80 wd_80 va_80 gd_80 rs mu rm ss msz msh mho mhn mhz kd nb tn tc bo ip, wI G tp 200 tf, wMr G fr la ns sd to he sw nh (upd ki nh kq) te mi ar z])) 112 (congrArg (fun x_ => (wF [wMo o rw fr kp tr ik tp tm so_80 bg_80 en_80 wd_80 va_80 gd_80 rs mu rm ss msz msh mho mhn mhz kd nb tn tc bo ip, wI G tp 200 tf, wI G fr 76 x_])) (fU_ki (i := nh) (by omega))) ?_
      refine J_aload_n 112 0 dX6_wantOne_112 rfl rfl ?_
      refine g_790 (v := .ref fr) 113 0 rfl rfl dX6_wantOne_113 ?_
      refine J_iload 116 dX6_wantOne_116 rfl ?_
      refine J_iconst (v := 1) 118 dX6_wantOne_118 rfl ?_
      refine J_iadd 119 dX6_wantOne_119 ?_
      refine J_topi (y := nI ((44 + (4 * nh)) + 1)) 120 (nI_add (44 + (4 * nh)) 1) ?_
      refine J_iload_n 120 2 dX6_wantOne_120 rfl rfl ?_
      refine J_iast (ws' := (wF [wMo o rw fr kp tr ik tp tm so_80 bg_80 en_80 wd_80 va_80 gd_80 rs mu rm ss msz msh mho mhn mhz kd nb tn tc bo ip, wI G tp 200 tf, wI G fr 76 (upd (fRow la ns sd to he sw nh (upd ki nh kq) te mi ar z) ((44 + (4 * nh)) + 1) rv1)])) 121 2 ((44 + (4 * nh)) + 1) rfl rfl (by omega) (by decide) rfl dX6_wantOne_121 ?_
      refine J_ws (ws' := (wF [wMo o rw fr kp tr ik tp tm so_80 bg_80 en_80 wd_80 va_80 gd_80 rs mu rm ss msz msh mho mhn mhz kd nb tn tc bo ip, wI G tp 200 tf, wMr G fr la ns sd to he sw nh (upd ki nh kq) (upd te nh rv1) mi ar z])) 122 (congrArg (fun x_ => (wF [wMo o rw fr kp tr ik tp tm so_80 bg_80 en_80 wd_80 va_80 gd_80 rs mu rm ss msz msh mho mhn mhz kd nb tn tc bo ip, wI G tp 200 tf, wI G fr 76 x_])) (fU_te (i := nh) (by omega))) ?_
      refine J_aload_n 122 0 dX6_wantOne_122 rfl rfl ?_
      refine g_790 (v := .ref fr) 123 0 rfl rfl dX6_wantOne_123 ?_
      refine J_iload 126 dX6_wantOne_126 rfl ?_
      refine J_iconst (v := 2) 128 dX6_wantOne_128 rfl ?_
      refine J_iadd 129 dX6_wantOne_129 ?_
      refine J_topi (y := nI ((44 + (4 * nh)) + 2)) 130 (nI_add (44 + (4 * nh)) 2) ?_
      refine J_iload_n 130 3 dX6_wantOne_130 rfl rfl ?_
      refine J_iast (ws' := (wF [wMo o rw fr kp tr ik tp tm so_80 bg_80 en_80 wd_80 va_80 gd_80 rs mu rm ss msz msh mho mhn mhz kd nb tn tc bo ip, wI G tp 200 tf, wI G fr 76 (upd (fRow la ns sd to he sw nh (upd ki nh kq) (upd te nh rv1) mi ar z) ((44 + (4 * nh)) + 2) rv2)])) 131 2 ((44 + (4 * nh)) + 2) rfl rfl (by omega) (by decide) rfl dX6_wantOne_131 ?_
      refine J_ws (ws' := (wF [wMo o rw fr kp tr ik tp tm so_80 bg_80 en_80 wd_80 va_80 gd_80 rs mu rm ss msz msh mho mhn mhz kd nb tn tc bo ip, wI G tp 200 tf, wMr G fr la ns sd to he sw nh (upd ki nh kq) (upd te nh rv1) (upd mi nh rv2) ar z])) 132 (congrArg (fun x_ => (wF [wMo o rw fr kp tr ik tp tm so_80 bg_80 en_80 wd_80 va_80 gd_80 rs mu rm ss msz msh mho mhn mhz kd nb tn tc bo ip, wI G tp 200 tf, wI G fr 76 x_])) (fU_mi (i := nh) (by omega))) ?_
      refine J_aload_n 132 0 dX6_wantOne_132 rfl rfl ?_
      refine g_790 (v := .ref fr) 133 0 rfl rfl dX6_wantOne_133 ?_
      refine J_iload 136 dX6_wantOne_136 rfl ?_
      refine J_iconst (v := 3) 138 dX6_wantOne_138 rfl ?_
      refine J_iadd 139 dX6_wantOne_139 ?_
      refine J_topi (y := nI ((44 + (4 * nh)) + 3)) 140 (nI_add (44 + (4 * nh)) 3) ?_
      refine J_iconst (v := 0) 140 dX6_wantOne_140 rfl ?_
      refine J_iast (ws' := (wF [wMo o rw fr kp tr ik tp tm so_80 bg_80 en_80 wd_80 va_80 gd_80 rs mu rm ss msz msh mho mhn mhz kd nb tn tc bo ip, wI G tp 200 tf, wI G fr 76 (upd (fRow la ns sd to he sw nh (upd ki nh kq) (upd te nh rv1) (upd mi nh rv2) ar z) ((44 + (4 * nh)) + 3) 0)])) 141 2 ((44 + (4 * nh)) + 3) rfl rfl (by omega) (by decide) rfl dX6_wantOne_141 ?_
      refine J_ws (ws' := (wF [wMo o rw fr kp tr ik tp tm so_80 bg_80 en_80 wd_80 va_80 gd_80 rs mu rm ss msz msh mho mhn mhz kd nb tn tc bo ip, wI G tp 200 tf, wMr G fr la ns sd to he sw nh (upd ki nh kq) (upd te nh rv1) (upd mi nh rv2) (upd ar nh 0) z])) 142 (congrArg (fun x_ => (wF [wMo o rw fr kp tr ik tp tm so_80 bg_80 en_80 wd_80 va_80 gd_80 rs mu rm ss msz msh mho mhn mhz kd nb tn tc bo ip, wI G tp 200 tf, wI G fr 76 x_])) (fU_ar (i := nh) (by omega))) ?_
      refine J_aload_n 142 0 dX6_wantOne_142 rfl rfl ?_
      refine g_790 (v := .ref fr) 143 0 rfl rfl dX6_wantOne_143 ?_
      refine J_bipush (v := 6) 146 dX6_wantOne_146 rfl ?_
      refine J_dup2 148 dX6_wantOne_148 rfl rfl ?_
      refine J_iald 149 2 6 rfl rfl (by omega) (by decide) dX6_wantOne_149 ?_
      refine J_topi (y := nI nh) 150 (fR_nh rfl) ?_
      refine J_iconst (v := 1) 150 dX6_wantOne_150 rfl ?_
      refine J_iadd 151 dX6_wantOne_151 ?_
      refine J_topi (y := nI (nh + 1)) 152 (nI_add nh 1) ?_
      refine J_iast (ws' := (wF [wMo o rw fr kp tr ik tp tm so_80 bg_80 en_80 wd_80 va_80 gd_80 rs mu rm ss msz msh mho mhn mhz kd nb tn tc bo ip, wI G tp 200 tf, wI G fr 76 (upd (fRow la ns sd to he sw nh (upd ki nh kq) (upd te nh rv1) (upd mi nh rv2) (upd ar nh 0) z) 6 (nI (nh + 1)))])) 152 2 6 rfl rfl (by omega) (by decide) rfl dX6_wantOne_152 ?_
      refine J_ws (ws' := (wF [wMo o rw fr kp tr ik tp tm so_80 bg_80 en_80 wd_80 va_80 gd_80 rs mu rm ss msz msh mho mhn mhz kd nb tn tc bo ip, wI G tp 200 tf, wMr G fr la ns sd to he sw (nh + 1) (upd ki nh kq) (upd te nh rv1) (upd mi nh rv2) (upd ar nh 0) z])) 153 (congrArg (fun x_ => (wF [wMo o rw fr kp tr ik tp tm so_80 bg_80 en_80 wd_80 va_80 gd_80 rs mu rm ss msz msh mho mhn mhz kd nb tn tc bo ip, wI G tp 200 tf, wI G fr 76 x_])) (fU_nh rfl)) ?_
      have hN_ : mOne tf tm kq (bg, en, mso, wd, va, gd) nh ki te mi ar = ((bg_80, en_80, so_80, wd_80, va_80, gd_80), nh + 1, upd ki nh kq, upd te nh rv1, upd mi nh rv2, upd ar nh 0) := by unfold mOne; rw [hB]; dsimp only; rw [hT_80]; dsimp only; rw [hA1]; exact if_neg (by assumption)
      exact J_vret 153 dX6_wantOne_153 rfl (cg11 (fun (x0_ : Int32) (x1_ : Nat) (x2_ : Nat) (x3_ : Int64) (x4_ : Int32) (x5_ : Int32) (x6_ : Nat) (x7_ : Nat → Int32) (x8_ : Nat → Int32) (x9_ : Nat → Int32) (x10_ : Nat → Int32) => (wF [wMo o rw fr kp tr ik tp tm x0_ x1_ x2_ x3_ x4_ x5_ rs mu rm ss msz msh mho mhn mhz kd nb tn tc bo ip, wI G tp 200 tf, wMr G fr la ns sd to he sw x6_ x7_ x8_ x9_ x10_ z])) so_80 ((mOne tf tm kq (bg, en, mso, wd, va, gd) nh ki te mi ar).1.2.2.1) bg_80 ((mOne tf tm kq (bg, en, mso, wd, va, gd) nh ki te mi ar).1.1) en_80 ((mOne tf tm kq (bg, en, mso, wd, va, gd) nh ki te mi ar).1.2.1) wd_80 ((mOne tf tm kq (bg, en, mso, wd, va, gd) nh ki te mi ar).1.2.2.2.1) va_80 ((mOne tf tm kq (bg, en, mso, wd, va, gd) nh ki te mi ar).1.2.2.2.2.1) gd_80 ((mOne tf tm kq (bg, en, mso, wd, va, gd) nh ki te mi ar).1.2.2.2.2.2) (nh + 1) ((mOne tf tm kq (bg, en, mso, wd, va, gd) nh ki te mi ar).2.1) (upd ki nh kq) ((mOne tf tm kq (bg, en, mso, wd, va, gd) nh ki te mi ar).2.2.1) (upd te nh rv1) ((mOne tf tm kq (bg, en, mso, wd, va, gd) nh ki te mi ar).2.2.2.1) (upd mi nh rv2) ((mOne tf tm kq (bg, en, mso, wd, va, gd) nh ki te mi ar).2.2.2.2.1) (upd ar nh 0) ((mOne tf tm kq (bg, en, mso, wd, va, gd) nh ki te mi ar).2.2.2.2.2) (by rw [hN_]) (by rw [hN_]) (by rw [hN_]) (by rw [hN_]) (by rw [hN_]) (by rw [hN_]) (by rw [hN_]) (by rw [hN_]) (by rw [hN_]) (by rw [hN_]) (by rw [hN_]))
  have cut_53_ : ∀ (rv1 : Int32) (bg1 : Nat) (en1 : Nat) (so1 : Int32) (wd1 : Int64) (va1 : Int32) (gd1 : Int32), (hA : mOp tf tm 289913976 99 3 (mO0 tf tm nh 8 (bg, en, mso, wd, va, gd)) = (rv1, bg1, en1, so1, wd1, va1, gd1)) → J l G (bd G 4 none none (wF [wMo o rw fr kp tr ik tp tm ((mOne tf tm kq (bg, en, mso, wd, va, gd) nh ki te mi ar).1.2.2.1) ((mOne tf tm kq (bg, en, mso, wd, va, gd) nh ki te mi ar).1.1) ((mOne tf tm kq (bg, en, mso, wd, va, gd) nh ki te mi ar).1.2.1) ((mOne tf tm kq (bg, en, mso, wd, va, gd) nh ki te mi ar).1.2.2.2.1) ((mOne tf tm kq (bg, en, mso, wd, va, gd) nh ki te mi ar).1.2.2.2.2.1) ((mOne tf tm kq (bg, en, mso, wd, va, gd) nh ki te mi ar).1.2.2.2.2.2) rs mu rm ss msz msh mho mhn mhz kd nb tn tc bo ip, wI G tp 200 tf, wMr G fr la ns sd to he sw ((mOne tf tm kq (bg, en, mso, wd, va, gd) nh ki te mi ar).2.1) ((mOne tf tm kq (bg, en, mso, wd, va, gd) nh ki te mi ar).2.2.1) ((mOne tf tm kq (bg, en, mso, wd, va, gd) nh ki te mi ar).2.2.2.1) ((mOne tf tm kq (bg, en, mso, wd, va, gd) nh ki te mi ar).2.2.2.2.1) ((mOne tf tm kq (bg, en, mso, wd, va, gd) nh ki te mi ar).2.2.2.2.2) z])) cX6_wantOne 5 "GooseArmsModel" 53 [some (.ref o), some (.int kq), none, none, none] [.int rv1] (wF [wMo o rw fr kp tr ik tp tm so1 bg1 en1 wd1 va1 gd1 rs mu rm ss msz msh mho mhn mhz kd nb tn tc bo ip, wI G tp 200 tf, wMr G fr la ns sd to he sw nh ki te mi ar z]) := by
    intro rv1 bg1 en1 so1 wd1 va1 gd1 hA
    have hin1 := (mOp_inE hA (mO0_in hin).1).1
    refine J_istore_n (lv' := [some (.ref o), some (.int kq), some (.int rv1), none, none]) 53 2 dX6_wantOne_53 rfl (by decide) rfl ?_
    refine J_aload_n 54 0 dX6_wantOne_54 rfl rfl ?_
    refine J_ldc2 (v := 7096213) 55 w_942 dX6_wantOne_55 ?_
    refine kb_RX6_135 (bs' := [wMo o rw fr kp tr ik tp tm ((mMay tf tm 7096213 (bg1, en1, so1, wd1, va1, gd1)).2.2.2.1) ((mMay tf tm 7096213 (bg1, en1, so1, wd1, va1, gd1)).2.1) ((mMay tf tm 7096213 (bg1, en1, so1, wd1, va1, gd1)).2.2.1) ((mMay tf tm 7096213 (bg1, en1, so1, wd1, va1, gd1)).2.2.2.2.1) ((mMay tf tm 7096213 (bg1, en1, so1, wd1, va1, gd1)).2.2.2.2.2.1) ((mMay tf tm 7096213 (bg1, en1, so1, wd1, va1, gd1)).2.2.2.2.2.2) rs mu rm ss msz msh mho mhn mhz kd nb tn tc bo ip, wI G tp 200 tf, wMr G fr la ns sd to he sw nh ki te mi ar z]) (rest := []) (st' := [.int ((mMay tf tm 7096213 (bg1, en1, so1, wd1, va1, gd1)).1)]) 58 (c_X6_may l G 7096213 o rw fr kp tr ik tp tm so1 bg1 en1 wd1 va1 gd1 rs mu rm ss msz msh mho mhn mhz kd nb tn tc bo ip tf (by assumption) htm hbf) [0, 1] 0 rfl rfl rfl [[o], [tp]] rfl rfl rfl rfl rfl rfl (Nat.le_of_ble_eq_true rfl) rfl dX6_wantOne_58 ?_
    obtain ⟨⟨rv_58, bg_58, en_58, so_58, wd_58, va_58, gd_58⟩, hT_58⟩ : ∃ t_, mMay tf tm 7096213 (bg1, en1, so1, wd1, va1, gd1) = t_ := ⟨_, rfl⟩
    refine J_ws (ws' := (wF [wMo o rw fr kp tr ik tp tm so_58 bg_58 en_58 wd_58 va_58 gd_58 rs mu rm ss msz msh mho mhn mhz kd nb tn tc bo ip, wI G tp 200 tf, wMr G fr la ns sd to he sw nh ki te mi ar z])) 61 (by rw [hT_58]) ?_
    refine J_st (st' := [.int rv_58]) 61 (by rw [hT_58]) ?_
    obtain ⟨hin_58, hbe_58, hen_58⟩ := mMay_inE hT_58 (by first | assumption | solve_by_elim)
    refine J_if_eq (tgt := 75) 61 dX6_wantOne_61 (by decide) (fun c_2_ => ?_) (fun c_2_ => ?_)
    · skip
      refine J_sipush (v := 255) 75 dX6_wantOne_75 rfl ?_
      exact cut_78_ 255 bg_58 en_58 so_58 wd_58 va_58 gd_58 rv1 (by rw [hA]) (by rw [hA]; first | exact (mOp_1 hT_58 (by assumption)).trans hT_69 | exact mOp_0 hT_58 (by assumption))
    · skip
      refine J_aload_n 64 0 dX6_wantOne_64 rfl rfl ?_
      refine J_iconst (v := 0) 65 dX6_wantOne_65 rfl ?_
      refine J_sipush (v := 255) 66 dX6_wantOne_66 rfl ?_
      refine kb_RX6_138 (bs' := [wMo o rw fr kp tr ik tp tm ((mNum tf tm 255 (bg_58, en_58, so_58, wd_58, va_58, gd_58)).2.2.2.1) ((mNum tf tm 255 (bg_58, en_58, so_58, wd_58, va_58, gd_58)).2.1) ((mNum tf tm 255 (bg_58, en_58, so_58, wd_58, va_58, gd_58)).2.2.1) ((mNum tf tm 255 (bg_58, en_58, so_58, wd_58, va_58, gd_58)).2.2.2.2.1) ((mNum tf tm 255 (bg_58, en_58, so_58, wd_58, va_58, gd_58)).2.2.2.2.2.1) ((mNum tf tm 255 (bg_58, en_58, so_58, wd_58, va_58, gd_58)).2.2.2.2.2.2) rs mu rm ss msz msh mho mhn mhz kd nb tn tc bo ip, wI G tp 200 tf, wMr G fr la ns sd to he sw nh ki te mi ar z]) (rest := []) (st' := [.int ((mNum tf tm 255 (bg_58, en_58, so_58, wd_58, va_58, gd_58)).1)]) 69 (c_X6_wantNumber l G 255 o rw fr kp tr ik tp tm so_58 bg_58 en_58 wd_58 va_58 gd_58 rs mu rm ss msz msh mho mhn mhz kd nb tn tc bo ip tf (by assumption) htm hbf) [0, 1] 0 rfl rfl rfl [[o], [tp]] rfl rfl rfl rfl rfl rfl (Nat.le_of_ble_eq_true rfl) rfl dX6_wantOne_69 ?_
      obtain ⟨⟨rv_69, bg_69, en_69, so_69, wd_69, va_69, gd_69⟩, hT_69⟩ : ∃ t_, mNum tf tm 255 (bg_58, en_58, so_58, wd_58, va_58, gd_58) = t_ := ⟨_, rfl⟩
      refine J_ws (ws' := (wF [wMo o rw fr kp tr ik tp tm so_69 bg_69 en_69 wd_69 va_69 gd_69 rs mu rm ss msz msh mho mhn mhz kd nb tn tc bo ip, wI G tp 200 tf, wMr G fr la ns sd to he sw nh ki te mi ar z])) 72 (by rw [hT_69]) ?_
      refine J_st (st' := [.int rv_69]) 72 (by rw [hT_69]) ?_
      obtain ⟨hin_69, hbe_69, hen_69⟩ := mNum_inE hT_69 (by first | assumption | solve_by_elim)
      refine J_goto (tgt := 78) 72 dX6_wantOne_72 (by decide) ?_
      exact cut_78_ rv_69 bg_69 en_69 so_69 wd_69 va_69 gd_69 rv1 (by rw [hA]) (by rw [hA]; first | exact (mOp_1 hT_58 (by assumption)).trans hT_69 | exact mOp_0 hT_58 (by assumption))
  have cut_32_ : ∀ (bg0 : Nat) (en0 : Nat) (so0 : Int32) (wd0 : Int64) (va0 : Int32) (gd0 : Int32), (h0 : mO0 tf tm nh 8 (bg, en, mso, wd, va, gd) = (bg0, en0, so0, wd0, va0, gd0)) → J l G (bd G 4 none none (wF [wMo o rw fr kp tr ik tp tm ((mOne tf tm kq (bg, en, mso, wd, va, gd) nh ki te mi ar).1.2.2.1) ((mOne tf tm kq (bg, en, mso, wd, va, gd) nh ki te mi ar).1.1) ((mOne tf tm kq (bg, en, mso, wd, va, gd) nh ki te mi ar).1.2.1) ((mOne tf tm kq (bg, en, mso, wd, va, gd) nh ki te mi ar).1.2.2.2.1) ((mOne tf tm kq (bg, en, mso, wd, va, gd) nh ki te mi ar).1.2.2.2.2.1) ((mOne tf tm kq (bg, en, mso, wd, va, gd) nh ki te mi ar).1.2.2.2.2.2) rs mu rm ss msz msh mho mhn mhz kd nb tn tc bo ip, wI G tp 200 tf, wMr G fr la ns sd to he sw ((mOne tf tm kq (bg, en, mso, wd, va, gd) nh ki te mi ar).2.1) ((mOne tf tm kq (bg, en, mso, wd, va, gd) nh ki te mi ar).2.2.1) ((mOne tf tm kq (bg, en, mso, wd, va, gd) nh ki te mi ar).2.2.2.1) ((mOne tf tm kq (bg, en, mso, wd, va, gd) nh ki te mi ar).2.2.2.2.1) ((mOne tf tm kq (bg, en, mso, wd, va, gd) nh ki te mi ar).2.2.2.2.2) z])) cX6_wantOne 5 "GooseArmsModel" 32 [some (.ref o), some (.int kq), none, none, none] [] (wF [wMo o rw fr kp tr ik tp tm so0 bg0 en0 wd0 va0 gd0 rs mu rm ss msz msh mho mhn mhz kd nb tn tc bo ip, wI G tp 200 tf, wMr G fr la ns sd to he sw nh ki te mi ar z]) := by
    intro bg0 en0 so0 wd0 va0 gd0 h0
    have hin0 := (mO0_inE h0 hin).1
    refine J_aload_n 32 0 dX6_wantOne_32 rfl rfl ?_
    refine J_ldc2 (v := 289913976) 33 w_933 dX6_wantOne_33 ?_
    refine kb_RX6_135 (bs' := [wMo o rw fr kp tr ik tp tm ((mMay tf tm 289913976 (bg0, en0, so0, wd0, va0, gd0)).2.2.2.1) ((mMay tf tm 289913976 (bg0, en0, so0, wd0, va0, gd0)).2.1) ((mMay tf tm 289913976 (bg0, en0, so0, wd0, va0, gd0)).2.2.1) ((mMay tf tm 289913976 (bg0, en0, so0, wd0, va0, gd0)).2.2.2.2.1) ((mMay tf tm 289913976 (bg0, en0, so0, wd0, va0, gd0)).2.2.2.2.2.1) ((mMay tf tm 289913976 (bg0, en0, so0, wd0, va0, gd0)).2.2.2.2.2.2) rs mu rm ss msz msh mho mhn mhz kd nb tn tc bo ip, wI G tp 200 tf, wMr G fr la ns sd to he sw nh ki te mi ar z]) (rest := []) (st' := [.int ((mMay tf tm 289913976 (bg0, en0, so0, wd0, va0, gd0)).1)]) 36 (c_X6_may l G 289913976 o rw fr kp tr ik tp tm so0 bg0 en0 wd0 va0 gd0 rs mu rm ss msz msh mho mhn mhz kd nb tn tc bo ip tf (by assumption) htm hbf) [0, 1] 0 rfl rfl rfl [[o], [tp]] rfl rfl rfl rfl rfl rfl (Nat.le_of_ble_eq_true rfl) rfl dX6_wantOne_36 ?_
    obtain ⟨⟨rv_36, bg_36, en_36, so_36, wd_36, va_36, gd_36⟩, hT_36⟩ : ∃ t_, mMay tf tm 289913976 (bg0, en0, so0, wd0, va0, gd0) = t_ := ⟨_, rfl⟩
    refine J_ws (ws' := (wF [wMo o rw fr kp tr ik tp tm so_36 bg_36 en_36 wd_36 va_36 gd_36 rs mu rm ss msz msh mho mhn mhz kd nb tn tc bo ip, wI G tp 200 tf, wMr G fr la ns sd to he sw nh ki te mi ar z])) 39 (by rw [hT_36]) ?_
    refine J_st (st' := [.int rv_36]) 39 (by rw [hT_36]) ?_
    obtain ⟨hin_36, hbe_36, hen_36⟩ := mMay_inE hT_36 (by first | assumption | solve_by_elim)
    refine J_if_eq (tgt := 52) 39 dX6_wantOne_39 (by decide) (fun c_3_ => ?_) (fun c_3_ => ?_)
    · skip
      refine J_iconst (v := 3) 52 dX6_wantOne_52 rfl ?_
      exact cut_53_ 3 bg_36 en_36 so_36 wd_36 va_36 gd_36 (by rw [h0]; first | exact (mOp_1 hT_36 (by assumption)).trans hT_46 | exact mOp_0 hT_36 (by assumption))
    · skip
      refine J_aload_n 42 0 dX6_wantOne_42 rfl rfl ?_
      refine J_iconst (v := 0) 43 dX6_wantOne_43 rfl ?_
      refine J_bipush (v := 99) 44 dX6_wantOne_44 rfl ?_
      refine kb_RX6_138 (bs' := [wMo o rw fr kp tr ik tp tm ((mNum tf tm 99 (bg_36, en_36, so_36, wd_36, va_36, gd_36)).2.2.2.1) ((mNum tf tm 99 (bg_36, en_36, so_36, wd_36, va_36, gd_36)).2.1) ((mNum tf tm 99 (bg_36, en_36, so_36, wd_36, va_36, gd_36)).2.2.1) ((mNum tf tm 99 (bg_36, en_36, so_36, wd_36, va_36, gd_36)).2.2.2.2.1) ((mNum tf tm 99 (bg_36, en_36, so_36, wd_36, va_36, gd_36)).2.2.2.2.2.1) ((mNum tf tm 99 (bg_36, en_36, so_36, wd_36, va_36, gd_36)).2.2.2.2.2.2) rs mu rm ss msz msh mho mhn mhz kd nb tn tc bo ip, wI G tp 200 tf, wMr G fr la ns sd to he sw nh ki te mi ar z]) (rest := []) (st' := [.int ((mNum tf tm 99 (bg_36, en_36, so_36, wd_36, va_36, gd_36)).1)]) 46 (c_X6_wantNumber l G 99 o rw fr kp tr ik tp tm so_36 bg_36 en_36 wd_36 va_36 gd_36 rs mu rm ss msz msh mho mhn mhz kd nb tn tc bo ip tf (by assumption) htm hbf) [0, 1] 0 rfl rfl rfl [[o], [tp]] rfl rfl rfl rfl rfl rfl (Nat.le_of_ble_eq_true rfl) rfl dX6_wantOne_46 ?_
      obtain ⟨⟨rv_46, bg_46, en_46, so_46, wd_46, va_46, gd_46⟩, hT_46⟩ : ∃ t_, mNum tf tm 99 (bg_36, en_36, so_36, wd_36, va_36, gd_36) = t_ := ⟨_, rfl⟩
      refine J_ws (ws' := (wF [wMo o rw fr kp tr ik tp tm so_46 bg_46 en_46 wd_46 va_46 gd_46 rs mu rm ss msz msh mho mhn mhz kd nb tn tc bo ip, wI G tp 200 tf, wMr G fr la ns sd to he sw nh ki te mi ar z])) 49 (by rw [hT_46]) ?_
      refine J_st (st' := [.int rv_46]) 49 (by rw [hT_46]) ?_
      obtain ⟨hin_46, hbe_46, hen_46⟩ := mNum_inE hT_46 (by first | assumption | solve_by_elim)
      refine J_goto (tgt := 53) 49 dX6_wantOne_49 (by decide) ?_
      exact cut_53_ rv_46 bg_46 en_46 so_46 wd_46 va_46 gd_46 (by rw [h0]; first | exact (mOp_1 hT_36 (by assumption)).trans hT_46 | exact mOp_0 hT_36 (by assumption))
  refine J_aload_n 0 0 dX6_wantOne_0 rfl rfl ?_
  refine J_aload_n 1 0 dX6_wantOne_1 rfl rfl ?_
  refine g_790 (v := .ref fr) 2 0 rfl rfl dX6_wantOne_2 ?_
  refine J_bipush (v := 6) 5 dX6_wantOne_5 rfl ?_
  refine J_iald 7 2 6 rfl rfl (by omega) (by decide) dX6_wantOne_7 ?_
  refine J_topi (y := nI nh) 8 (fR_nh rfl) ?_
  refine J_bipush (v := 8) 8 dX6_wantOne_8 rfl ?_
  refine J_icmp_ge (tgt := 17) 10 dX6_wantOne_10 (by decide) (fun c_4_ => ?_) (fun c_4_ => ?_)
  · skip
    have c_4_ : 8 ≤ nh := (nI_leI (a := 8) (b := nh) (by omega) (by omega)).mp c_4_
    refine J_iconst (v := 0) 17 dX6_wantOne_17 rfl ?_
    refine p_801 (ws' := (wF [wMo o rw fr kp tr ik tp tm mso bg en wd va 0 rs mu rm ss msz msh mho mhn mhz kd nb tn tc bo ip, wI G tp 200 tf, wMr G fr la ns sd to he sw nh ki te mi ar z])) 18 0 rfl rfl rfl (Nat.le_of_ble_eq_true rfl) rfl dX6_wantOne_18 ?_
    refine J_aload_n 21 0 dX6_wantOne_21 rfl rfl ?_
    refine g_801 (v := .int 0) 22 0 rfl rfl dX6_wantOne_22 ?_
    refine J_if_eq (tgt := 32) 25 dX6_wantOne_25 (by decide) (fun _ => ?_) (fun c_5_ => absurd c_5_ (by decide))
    exact cut_32_ bg en mso wd va 0 (by first | exact (if_pos (by omega)).trans (mUp_e hT_29) | exact if_neg (by omega))
  · skip
    have c_4_ : ¬ 8 ≤ nh := fun z_ => c_4_ ((nI_leI (a := 8) (b := nh) (by omega) (by omega)).mpr z_)
    refine J_iconst (v := 1) 13 dX6_wantOne_13 rfl ?_
    refine J_goto (tgt := 18) 14 dX6_wantOne_14 (by decide) ?_
    refine p_801 (ws' := (wF [wMo o rw fr kp tr ik tp tm mso bg en wd va 1 rs mu rm ss msz msh mho mhn mhz kd nb tn tc bo ip, wI G tp 200 tf, wMr G fr la ns sd to he sw nh ki te mi ar z])) 18 0 rfl rfl rfl (Nat.le_of_ble_eq_true rfl) rfl dX6_wantOne_18 ?_
    refine J_aload_n 21 0 dX6_wantOne_21 rfl rfl ?_
    refine g_801 (v := .int 1) 22 0 rfl rfl dX6_wantOne_22 ?_
    refine J_if_eq (tgt := 32) 25 dX6_wantOne_25 (by decide) (fun c_6_ => absurd c_6_ (by decide)) (fun _ => ?_)
    refine J_aload_n 28 0 dX6_wantOne_28 rfl rfl ?_
    refine kb_RX6_127 (bs' := [wMo o rw fr kp tr ik tp tm ((mAdv tf tm en).2.2.1) ((mAdv tf tm en).1) ((mAdv tf tm en).2.1) ((mAdv tf tm en).2.2.2.1) ((mAdv tf tm en).2.2.2.2) 1 rs mu rm ss msz msh mho mhn mhz kd nb tn tc bo ip, wI G tp 200 tf, wMr G fr la ns sd to he sw nh ki te mi ar z]) (rest := []) (st' := []) 29 (c_X6_advance l G o rw fr kp tr ik tp tm mso bg en wd va 1 rs mu rm ss msz msh mho mhn mhz kd nb tn tc bo ip tf hin.1.2 htm hbf) [0, 1] 0 rfl rfl rfl [[o], [tp]] rfl rfl rfl rfl rfl rfl (Nat.le_of_ble_eq_true rfl) rfl dX6_wantOne_29 ?_
    obtain ⟨⟨bg_29, en_29, so_29, wd_29, va_29⟩, hT_29⟩ : ∃ t_, mAdv tf tm en = t_ := ⟨_, rfl⟩
    refine J_ws (ws' := (wF [wMo o rw fr kp tr ik tp tm so_29 bg_29 en_29 wd_29 va_29 1 rs mu rm ss msz msh mho mhn mhz kd nb tn tc bo ip, wI G tp 200 tf, wMr G fr la ns sd to he sw nh ki te mi ar z])) 32 (by rw [hT_29]) ?_
    have hin_29 := fun g_ => mAdv_inE (gq := g_) hT_29 (by first | exact hin.1.2 | omega)
    exact cut_32_ bg_29 en_29 so_29 wd_29 va_29 1 (by first | exact (if_pos (by omega)).trans (mUp_e hT_29) | exact if_neg (by omega))
set_option maxRecDepth 100000 in
set_option maxHeartbeats 4000000 in
theorem c_X6_wantSaying (l : Launch) (G : Gd) (o : Nat) (rw : Nat) (fr : Nat) (kp : Nat) (tr : Nat) (ik : Int32) (tp : Nat) (tm : Nat) (mso : Int32) (bg : Nat) (en : Nat) (wd : Int64) (va : Int32) (gd : Int32) (rs : Nat) (mu : Nat) (rm : Nat) (ss : Nat) (msz : Nat) (msh : Nat) (mho : Nat) (mhn : Nat) (mhz : Nat) (kd : Int32) (nb : Int32) (tn : Int32) (tc : Nat) (bo : Nat) (ip : Int32) (tf : Nat → Int32) (la : Nat → Int32) (ns : Nat) (sd : Nat) (to : Nat → Int32) (he : Nat → Int32) (sw : Nat → Int32) (nh : Nat) (ki : Nat → Int32) (te : Nat → Int32) (mi : Nat → Int32) (ar : Nat → Int32) (z : Int32) (hin : mIn tm (bg, en, mso, wd, va, gd)) (htm : tm ≤ 200) (hbf : ∀ j_, j_ < tm → 0 ≤ tf j_) (hns : ns ≤ 12) : Ct l G yX6_wantSaying cX6_wantSaying 5 none 4 [.ref o] (wF [wMo o rw fr kp tr ik tp tm mso bg en wd va gd rs mu rm ss msz msh mho mhn mhz kd nb tn tc bo ip, wI G tp 200 tf, wMr G fr la ns sd to he sw nh ki te mi ar z]) none (wF [wMo o rw fr kp tr ik tp tm ((mSay tf tm (bg, en, mso, wd, va, gd) ns to he sw).1.2.2.1) ((mSay tf tm (bg, en, mso, wd, va, gd) ns to he sw).1.1) ((mSay tf tm (bg, en, mso, wd, va, gd) ns to he sw).1.2.1) ((mSay tf tm (bg, en, mso, wd, va, gd) ns to he sw).1.2.2.2.1) ((mSay tf tm (bg, en, mso, wd, va, gd) ns to he sw).1.2.2.2.2.1) ((mSay tf tm (bg, en, mso, wd, va, gd) ns to he sw).1.2.2.2.2.2) rs mu rm ss msz msh mho mhn mhz kd nb tn tc bo ip, wI G tp 200 tf, wMr G fr la ((mSay tf tm (bg, en, mso, wd, va, gd) ns to he sw).2.1) sd ((mSay tf tm (bg, en, mso, wd, va, gd) ns to he sw).2.2.1) ((mSay tf tm (bg, en, mso, wd, va, gd) ns to he sw).2.2.2.1) ((mSay tf tm (bg, en, mso, wd, va, gd) ns to he sw).2.2.2.2) nh ki te mi ar z]) := by
  refine Ct.of "GooseArmsModel" [some (.ref o), none, none, none, none] (by decide +kernel) rfl (Nat.le_of_ble_eq_true rfl) rfl ?_
  have cut_76_ : ∀ (rv3 : Int32) (bg3 : Nat) (en3 : Nat) (so3 : Int32) (wd3 : Int64) (va3 : Int32) (gd3 : Int32) (rv1 : Int32) (rv2 : Int32), (hA1 : (mNum tf tm 7 (mO0 tf tm ns 12 (bg, en, mso, wd, va, gd))).1 = rv1) → (hA2 : (mOp tf tm 161156 9 5 (mNum tf tm 7 (mO0 tf tm ns 12 (bg, en, mso, wd, va, gd))).2).1 = rv2) → (hC : mMay tf tm 528 (mOp tf tm 161156 9 5 (mNum tf tm 7 (mO0 tf tm ns 12 (bg, en, mso, wd, va, gd))).2).2 = (rv3, bg3, en3, so3, wd3, va3, gd3)) → J l G (bd G 4 none none (wF [wMo o rw fr kp tr ik tp tm ((mSay tf tm (bg, en, mso, wd, va, gd) ns to he sw).1.2.2.1) ((mSay tf tm (bg, en, mso, wd, va, gd) ns to he sw).1.1) ((mSay tf tm (bg, en, mso, wd, va, gd) ns to he sw).1.2.1) ((mSay tf tm (bg, en, mso, wd, va, gd) ns to he sw).1.2.2.2.1) ((mSay tf tm (bg, en, mso, wd, va, gd) ns to he sw).1.2.2.2.2.1) ((mSay tf tm (bg, en, mso, wd, va, gd) ns to he sw).1.2.2.2.2.2) rs mu rm ss msz msh mho mhn mhz kd nb tn tc bo ip, wI G tp 200 tf, wMr G fr la ((mSay tf tm (bg, en, mso, wd, va, gd) ns to he sw).2.1) sd ((mSay tf tm (bg, en, mso, wd, va, gd) ns to he sw).2.2.1) ((mSay tf tm (bg, en, mso, wd, va, gd) ns to he sw).2.2.2.1) ((mSay tf tm (bg, en, mso, wd, va, gd) ns to he sw).2.2.2.2) nh ki te mi ar z])) cX6_wantSaying 5 "GooseArmsModel" 76 [some (.ref o), some (.int rv1), some (.int rv2), none, none] [.int rv3] (wF [wMo o rw fr kp tr ik tp tm so3 bg3 en3 wd3 va3 gd3 rs mu rm ss msz msh mho mhn mhz kd nb tn tc bo ip, wI G tp 200 tf, wMr G fr la ns sd to he sw nh ki te mi ar z]) := by
    intro rv3 bg3 en3 so3 wd3 va3 gd3 rv1 rv2 hA1 hA2 hC
    have hin3 := (mMay_inE hC (mOp_in (mNum_in (mO0_in hin).1).1).1).1
    refine J_istore_n (lv' := [some (.ref o), some (.int rv1), some (.int rv2), some (.int rv3), none]) 76 3 dX6_wantSaying_76 rfl (by decide) rfl ?_
    refine J_aload_n 77 0 dX6_wantSaying_77 rfl rfl ?_
    refine kb_RX6_144 (bs' := [wMo o rw fr kp tr ik tp tm ((mEnd tf tm (bg3, en3, so3, wd3, va3, gd3)).2.2.1) ((mEnd tf tm (bg3, en3, so3, wd3, va3, gd3)).1) ((mEnd tf tm (bg3, en3, so3, wd3, va3, gd3)).2.1) ((mEnd tf tm (bg3, en3, so3, wd3, va3, gd3)).2.2.2.1) ((mEnd tf tm (bg3, en3, so3, wd3, va3, gd3)).2.2.2.2.1) ((mEnd tf tm (bg3, en3, so3, wd3, va3, gd3)).2.2.2.2.2) rs mu rm ss msz msh mho mhn mhz kd nb tn tc bo ip, wI G tp 200 tf, wMr G fr la ns sd to he sw nh ki te mi ar z]) (rest := []) (st' := []) 78 (c_X6_wantEnd l G o rw fr kp tr ik tp tm so3 bg3 en3 wd3 va3 gd3 rs mu rm ss msz msh mho mhn mhz kd nb tn tc bo ip tf (by assumption) htm hbf) [0, 1] 0 rfl rfl rfl [[o], [tp]] rfl rfl rfl rfl rfl rfl (Nat.le_of_ble_eq_true rfl) rfl dX6_wantSaying_78 ?_
    obtain ⟨⟨bg_78, en_78, so_78, wd_78, va_78, gd_78⟩, hT_78⟩ : ∃ t_, mEnd tf tm (bg3, en3, so3, wd3, va3, gd3) = t_ := ⟨_, rfl⟩
    refine J_ws (ws' := (wF [wMo o rw fr kp tr ik tp tm so_78 bg_78 en_78 wd_78 va_78 gd_78 rs mu rm ss msz msh mho mhn mhz kd nb tn tc bo ip, wI G tp 200 tf, wMr G fr la ns sd to he sw nh ki te mi ar z])) 81 (by rw [hT_78]) ?_
    obtain ⟨hin_78, hbe_78, hen_78⟩ := mEnd_inE hT_78 (by first | assumption | solve_by_elim)
    refine J_aload_n 81 0 dX6_wantSaying_81 rfl rfl ?_
    refine g_801 (v := .int gd_78) 82 0 rfl rfl dX6_wantSaying_82 ?_
    refine J_if_eq (tgt := 139) 85 dX6_wantSaying_85 (by decide) (fun c_1_ => ?_) (fun c_1_ => ?_)
    · skip
      have hN_ : mSay tf tm (bg, en, mso, wd, va, gd) ns to he sw = ((bg_78, en_78, so_78, wd_78, va_78, gd_78), ns, to, he, sw) := by unfold mSay; rw [hC]; dsimp only; rw [hT_78]; exact if_pos (by assumption)
      exact J_vret 139 dX6_wantSaying_139 rfl (cg10 (fun (x0_ : Int32) (x1_ : Nat) (x2_ : Nat) (x3_ : Int64) (x4_ : Int32) (x5_ : Int32) (x6_ : Nat) (x7_ : Nat → Int32) (x8_ : Nat → Int32) (x9_ : Nat → Int32) => (wF [wMo o rw fr kp tr ik tp tm x0_ x1_ x2_ x3_ x4_ x5_ rs mu rm ss msz msh mho mhn mhz kd nb tn tc bo ip, wI G tp 200 tf, wMr G fr la x6_ sd x7_ x8_ x9_ nh ki te mi ar z])) so_78 ((mSay tf tm (bg, en, mso, wd, va, gd) ns to he sw).1.2.2.1) bg_78 ((mSay tf tm (bg, en, mso, wd, va, gd) ns to he sw).1.1) en_78 ((mSay tf tm (bg, en, mso, wd, va, gd) ns to he sw).1.2.1) wd_78 ((mSay tf tm (bg, en, mso, wd, va, gd) ns to he sw).1.2.2.2.1) va_78 ((mSay tf tm (bg, en, mso, wd, va, gd) ns to he sw).1.2.2.2.2.1) gd_78 ((mSay tf tm (bg, en, mso, wd, va, gd) ns to he sw).1.2.2.2.2.2) ns ((mSay tf tm (bg, en, mso, wd, va, gd) ns to he sw).2.1) to ((mSay tf tm (bg, en, mso, wd, va, gd) ns to he sw).2.2.1) he ((mSay tf tm (bg, en, mso, wd, va, gd) ns to he sw).2.2.2.1) sw ((mSay tf tm (bg, en, mso, wd, va, gd) ns to he sw).2.2.2.2) (by rw [hN_]) (by rw [hN_]) (by rw [hN_]) (by rw [hN_]) (by rw [hN_]) (by rw [hN_]) (by rw [hN_]) (by rw [hN_]) (by rw [hN_]) (by rw [hN_]))
    · skip
      have hlt_ : ns < 12 := Classical.byContradiction (fun z_ => by
        have e1_ := mMay_g (f := tf) (tm := tm) (w := 528) (mOp_g (f := tf) (tm := tm) (w := 161156) (most := 9) (wo := 5) (mNum_g (f := tf) (tm := tm) (most := 7) (mO0_g (f := tf) (tm := tm) (t := (bg, en, mso, wd, va, gd)) z_)))
        rw [hC] at e1_
        have e2_ := mEnd_g (f := tf) (tm := tm) e1_
        dsimp only at e2_
        rw [hT_78] at e2_
        exact c_1_ e2_)
      refine J_bipush (v := 8) 88 dX6_wantSaying_88 rfl ?_
      refine J_iconst (v := 3) 90 dX6_wantSaying_90 rfl ?_
      refine J_aload_n 91 0 dX6_wantSaying_91 rfl rfl ?_
      refine g_790 (v := .ref fr) 92 0 rfl rfl dX6_wantSaying_92 ?_
      refine J_iconst (v := 5) 95 dX6_wantSaying_95 rfl ?_
      refine J_iald 96 2 5 rfl rfl (by omega) (by decide) dX6_wantSaying_96 ?_
      refine J_topi (y := nI ns) 97 (fR_ns rfl) ?_
      refine J_imul 97 dX6_wantSaying_97 ?_
      refine J_topi (y := nI (3 * ns)) 98 (pk_mul 3 ns) ?_
      refine J_iadd 98 dX6_wantSaying_98 ?_
      refine J_topi (y := nI (8 + (3 * ns))) 99 (nI_add 8 (3 * ns)) ?_
      refine J_istore (lv' := [some (.ref o), some (.int rv1), some (.int rv2), some (.int rv3), some (.int (nI (8 + (3 * ns))))]) 99 dX6_wantSaying_99 (by decide) rfl ?_
      refine J_aload_n 101 0 dX6_wantSaying_101 rfl rfl ?_
      refine g_790 (v := .ref fr) 102 0 rfl rfl dX6_wantSaying_102 ?_
      refine J_iload 105 dX6_wantSaying_105 rfl ?_
      refine J_iload_n 107 1 dX6_wantSaying_107 rfl rfl ?_
      refine J_iast (ws' := (wF [wMo o rw fr kp tr ik tp tm so_78 bg_78 en_78 wd_78 va_78 gd_78 rs mu rm ss msz msh mho mhn mhz kd nb tn tc bo ip, wI G tp 200 tf, wI G fr 76 (upd (fRow la ns sd to he sw nh ki te mi ar z) (8 + (3 * ns)) rv1)])) 108 2 (8 + (3 * ns)) rfl rfl (by omega) (by decide) rfl dX6_wantSaying_108 ?_
      refine J_ws (ws' := (wF [wMo o rw fr kp tr ik tp tm so_78 bg_78 en_78 wd_78 va_78 gd_78 rs mu rm ss msz msh mho mhn mhz kd nb tn tc bo ip, wI G tp 200 tf, wMr G fr la ns sd (upd to ns rv1) he sw nh ki te mi ar z])) 109 (congrArg (fun x_ => (wF [wMo o rw fr kp tr ik tp tm so_78 bg_78 en_78 wd_78 va_78 gd_78 rs mu rm ss msz msh mho mhn mhz kd nb tn tc bo ip, wI G tp 200 tf, wI G fr 76 x_])) (fU_to (i := ns) (by omega) (by omega))) ?_
      refine J_aload_n 109 0 dX6_wantSaying_109 rfl rfl ?_
      refine g_790 (v := .ref fr) 110 0 rfl rfl dX6_wantSaying_110 ?_
      refine J_iload 113 dX6_wantSaying_113 rfl ?_
      refine J_iconst (v := 1) 115 dX6_wantSaying_115 rfl ?_
      refine J_iadd 116 dX6_wantSaying_116 ?_
      refine J_topi (y := nI ((8 + (3 * ns)) + 1)) 117 (nI_add (8 + (3 * ns)) 1) ?_
      refine J_iload_n 117 2 dX6_wantSaying_117 rfl rfl ?_
      refine J_iast (ws' := (wF [wMo o rw fr kp tr ik tp tm so_78 bg_78 en_78 wd_78 va_78 gd_78 rs mu rm ss msz msh mho mhn mhz kd nb tn tc bo ip, wI G tp 200 tf, wI G fr 76 (upd (fRow la ns sd (upd to ns rv1) he sw nh ki te mi ar z) ((8 + (3 * ns)) + 1) rv2)])) 118 2 ((8 + (3 * ns)) + 1) rfl rfl (by omega) (by decide) rfl dX6_wantSaying_118 ?_
      refine J_ws (ws' := (wF [wMo o rw fr kp tr ik tp tm so_78 bg_78 en_78 wd_78 va_78 gd_78 rs mu rm ss msz msh mho mhn mhz kd nb tn tc bo ip, wI G tp 200 tf, wMr G fr la ns sd (upd to ns rv1) (upd he ns rv2) sw nh ki te mi ar z])) 119 (congrArg (fun x_ => (wF [wMo o rw fr kp tr ik tp tm so_78 bg_78 en_78 wd_78 va_78 gd_78 rs mu rm ss msz msh mho mhn mhz kd nb tn tc bo ip, wI G tp 200 tf, wI G fr 76 x_])) (fU_he (i := ns) (by omega) (by omega))) ?_
      refine J_aload_n 119 0 dX6_wantSaying_119 rfl rfl ?_
      refine g_790 (v := .ref fr) 120 0 rfl rfl dX6_wantSaying_120 ?_
      refine J_iload 123 dX6_wantSaying_123 rfl ?_
      refine J_iconst (v := 2) 125 dX6_wantSaying_125 rfl ?_
      refine J_iadd 126 dX6_wantSaying_126 ?_
      refine J_topi (y := nI ((8 + (3 * ns)) + 2)) 127 (nI_add (8 + (3 * ns)) 2) ?_
      refine J_iload_n 127 3 dX6_wantSaying_127 rfl rfl ?_
      refine J_iast (ws' := (wF [wMo o rw fr kp tr ik tp tm so_78 bg_78 en_78 wd_78 va_78 gd_78 rs mu rm ss msz msh mho mhn mhz kd nb tn tc bo ip, wI G tp 200 tf, wI G fr 76 (upd (fRow la ns sd (upd to ns rv1) (upd he ns rv2) sw nh ki te mi ar z) ((8 + (3 * ns)) + 2) rv3)])) 128 2 ((8 + (3 * ns)) + 2) rfl rfl (by omega) (by decide) rfl dX6_wantSaying_128 ?_
      refine J_ws (ws' := (wF [wMo o rw fr kp tr ik tp tm so_78 bg_78 en_78 wd_78 va_78 gd_78 rs mu rm ss msz msh mho mhn mhz kd nb tn tc bo ip, wI G tp 200 tf, wMr G fr la ns sd (upd to ns rv1) (upd he ns rv2) (upd sw ns rv3) nh ki te mi ar z])) 129 (congrArg (fun x_ => (wF [wMo o rw fr kp tr ik tp tm so_78 bg_78 en_78 wd_78 va_78 gd_78 rs mu rm ss msz msh mho mhn mhz kd nb tn tc bo ip, wI G tp 200 tf, wI G fr 76 x_])) (fU_sw (i := ns) (by omega) (by omega))) ?_
      refine J_aload_n 129 0 dX6_wantSaying_129 rfl rfl ?_
      refine g_790 (v := .ref fr) 130 0 rfl rfl dX6_wantSaying_130 ?_
      refine J_iconst (v := 5) 133 dX6_wantSaying_133 rfl ?_
      refine J_dup2 134 dX6_wantSaying_134 rfl rfl ?_
      refine J_iald 135 2 5 rfl rfl (by omega) (by decide) dX6_wantSaying_135 ?_
      refine J_topi (y := nI ns) 136 (fR_ns rfl) ?_
      refine J_iconst (v := 1) 136 dX6_wantSaying_136 rfl ?_
      refine J_iadd 137 dX6_wantSaying_137 ?_
      refine J_topi (y := nI (ns + 1)) 138 (nI_add ns 1) ?_
      refine J_iast (ws' := (wF [wMo o rw fr kp tr ik tp tm so_78 bg_78 en_78 wd_78 va_78 gd_78 rs mu rm ss msz msh mho mhn mhz kd nb tn tc bo ip, wI G tp 200 tf, wI G fr 76 (upd (fRow la ns sd (upd to ns rv1) (upd he ns rv2) (upd sw ns rv3) nh ki te mi ar z) 5 (nI (ns + 1)))])) 138 2 5 rfl rfl (by omega) (by decide) rfl dX6_wantSaying_138 ?_
      refine J_ws (ws' := (wF [wMo o rw fr kp tr ik tp tm so_78 bg_78 en_78 wd_78 va_78 gd_78 rs mu rm ss msz msh mho mhn mhz kd nb tn tc bo ip, wI G tp 200 tf, wMr G fr la (ns + 1) sd (upd to ns rv1) (upd he ns rv2) (upd sw ns rv3) nh ki te mi ar z])) 139 (congrArg (fun x_ => (wF [wMo o rw fr kp tr ik tp tm so_78 bg_78 en_78 wd_78 va_78 gd_78 rs mu rm ss msz msh mho mhn mhz kd nb tn tc bo ip, wI G tp 200 tf, wI G fr 76 x_])) (fU_ns rfl)) ?_
      have hN_ : mSay tf tm (bg, en, mso, wd, va, gd) ns to he sw = ((bg_78, en_78, so_78, wd_78, va_78, gd_78), ns + 1, upd to ns rv1, upd he ns rv2, upd sw ns rv3) := by unfold mSay; rw [hC]; dsimp only; rw [hT_78]; dsimp only; rw [hA1, hA2]; exact if_neg (by assumption)
      exact J_vret 139 dX6_wantSaying_139 rfl (cg10 (fun (x0_ : Int32) (x1_ : Nat) (x2_ : Nat) (x3_ : Int64) (x4_ : Int32) (x5_ : Int32) (x6_ : Nat) (x7_ : Nat → Int32) (x8_ : Nat → Int32) (x9_ : Nat → Int32) => (wF [wMo o rw fr kp tr ik tp tm x0_ x1_ x2_ x3_ x4_ x5_ rs mu rm ss msz msh mho mhn mhz kd nb tn tc bo ip, wI G tp 200 tf, wMr G fr la x6_ sd x7_ x8_ x9_ nh ki te mi ar z])) so_78 ((mSay tf tm (bg, en, mso, wd, va, gd) ns to he sw).1.2.2.1) bg_78 ((mSay tf tm (bg, en, mso, wd, va, gd) ns to he sw).1.1) en_78 ((mSay tf tm (bg, en, mso, wd, va, gd) ns to he sw).1.2.1) wd_78 ((mSay tf tm (bg, en, mso, wd, va, gd) ns to he sw).1.2.2.2.1) va_78 ((mSay tf tm (bg, en, mso, wd, va, gd) ns to he sw).1.2.2.2.2.1) gd_78 ((mSay tf tm (bg, en, mso, wd, va, gd) ns to he sw).1.2.2.2.2.2) (ns + 1) ((mSay tf tm (bg, en, mso, wd, va, gd) ns to he sw).2.1) (upd to ns rv1) ((mSay tf tm (bg, en, mso, wd, va, gd) ns to he sw).2.2.1) (upd he ns rv2) ((mSay tf tm (bg, en, mso, wd, va, gd) ns to he sw).2.2.2.1) (upd sw ns rv3) ((mSay tf tm (bg, en, mso, wd, va, gd) ns to he sw).2.2.2.2) (by rw [hN_]) (by rw [hN_]) (by rw [hN_]) (by rw [hN_]) (by rw [hN_]) (by rw [hN_]) (by rw [hN_]) (by rw [hN_]) (by rw [hN_]) (by rw [hN_]))
  have cut_60_ : ∀ (rv2 : Int32) (bg2 : Nat) (en2 : Nat) (so2 : Int32) (wd2 : Int64) (va2 : Int32) (gd2 : Int32) (rv1 : Int32), (hA1 : (mNum tf tm 7 (mO0 tf tm ns 12 (bg, en, mso, wd, va, gd))).1 = rv1) → (hB : mOp tf tm 161156 9 5 (mNum tf tm 7 (mO0 tf tm ns 12 (bg, en, mso, wd, va, gd))).2 = (rv2, bg2, en2, so2, wd2, va2, gd2)) → J l G (bd G 4 none none (wF [wMo o rw fr kp tr ik tp tm ((mSay tf tm (bg, en, mso, wd, va, gd) ns to he sw).1.2.2.1) ((mSay tf tm (bg, en, mso, wd, va, gd) ns to he sw).1.1) ((mSay tf tm (bg, en, mso, wd, va, gd) ns to he sw).1.2.1) ((mSay tf tm (bg, en, mso, wd, va, gd) ns to he sw).1.2.2.2.1) ((mSay tf tm (bg, en, mso, wd, va, gd) ns to he sw).1.2.2.2.2.1) ((mSay tf tm (bg, en, mso, wd, va, gd) ns to he sw).1.2.2.2.2.2) rs mu rm ss msz msh mho mhn mhz kd nb tn tc bo ip, wI G tp 200 tf, wMr G fr la ((mSay tf tm (bg, en, mso, wd, va, gd) ns to he sw).2.1) sd ((mSay tf tm (bg, en, mso, wd, va, gd) ns to he sw).2.2.1) ((mSay tf tm (bg, en, mso, wd, va, gd) ns to he sw).2.2.2.1) ((mSay tf tm (bg, en, mso, wd, va, gd) ns to he sw).2.2.2.2) nh ki te mi ar z])) cX6_wantSaying 5 "GooseArmsModel" 60 [some (.ref o), some (.int rv1), none, none, none] [.int rv2] (wF [wMo o rw fr kp tr ik tp tm so2 bg2 en2 wd2 va2 gd2 rs mu rm ss msz msh mho mhn mhz kd nb tn tc bo ip, wI G tp 200 tf, wMr G fr la ns sd to he sw nh ki te mi ar z]) := by
    intro rv2 bg2 en2 so2 wd2 va2 gd2 rv1 hA1 hB
    have hin2 := (mOp_inE hB (mNum_in (mO0_in hin).1).1).1
    refine J_istore_n (lv' := [some (.ref o), some (.int rv1), some (.int rv2), none, none]) 60 2 dX6_wantSaying_60 rfl (by decide) rfl ?_
    refine J_aload_n 61 0 dX6_wantSaying_61 rfl rfl ?_
    refine J_ldc2 (v := 528) 62 w_960 dX6_wantSaying_62 ?_
    refine kb_RX6_135 (bs' := [wMo o rw fr kp tr ik tp tm ((mMay tf tm 528 (bg2, en2, so2, wd2, va2, gd2)).2.2.2.1) ((mMay tf tm 528 (bg2, en2, so2, wd2, va2, gd2)).2.1) ((mMay tf tm 528 (bg2, en2, so2, wd2, va2, gd2)).2.2.1) ((mMay tf tm 528 (bg2, en2, so2, wd2, va2, gd2)).2.2.2.2.1) ((mMay tf tm 528 (bg2, en2, so2, wd2, va2, gd2)).2.2.2.2.2.1) ((mMay tf tm 528 (bg2, en2, so2, wd2, va2, gd2)).2.2.2.2.2.2) rs mu rm ss msz msh mho mhn mhz kd nb tn tc bo ip, wI G tp 200 tf, wMr G fr la ns sd to he sw nh ki te mi ar z]) (rest := []) (st' := [.int ((mMay tf tm 528 (bg2, en2, so2, wd2, va2, gd2)).1)]) 65 (c_X6_may l G 528 o rw fr kp tr ik tp tm so2 bg2 en2 wd2 va2 gd2 rs mu rm ss msz msh mho mhn mhz kd nb tn tc bo ip tf (by assumption) htm hbf) [0, 1] 0 rfl rfl rfl [[o], [tp]] rfl rfl rfl rfl rfl rfl (Nat.le_of_ble_eq_true rfl) rfl dX6_wantSaying_65 ?_
    obtain ⟨⟨rv_65, bg_65, en_65, so_65, wd_65, va_65, gd_65⟩, hT_65⟩ : ∃ t_, mMay tf tm 528 (bg2, en2, so2, wd2, va2, gd2) = t_ := ⟨_, rfl⟩
    refine J_ws (ws' := (wF [wMo o rw fr kp tr ik tp tm so_65 bg_65 en_65 wd_65 va_65 gd_65 rs mu rm ss msz msh mho mhn mhz kd nb tn tc bo ip, wI G tp 200 tf, wMr G fr la ns sd to he sw nh ki te mi ar z])) 68 (by rw [hT_65]) ?_
    refine J_st (st' := [.int rv_65]) 68 (by rw [hT_65]) ?_
    obtain ⟨hin_65, hbe_65, hen_65⟩ := mMay_inE hT_65 (by first | assumption | solve_by_elim)
    refine J_if_eq (tgt := 75) 68 dX6_wantSaying_68 (by decide) (fun c_2_ => ?_) (fun c_2_ => ?_)
    · skip
      refine J_iconst (v := 0) 75 dX6_wantSaying_75 rfl ?_
      exact cut_76_ 0 bg_65 en_65 so_65 wd_65 va_65 gd_65 rv1 rv2 (by first | assumption | omega | rfl) (by rw [hB]) (by rw [hB]; first | exact hT_65.trans (by rw [(by assumption : rv_65 = 0)]) | exact hT_65.trans (by rw [(mMay_01 hT_65).resolve_left (by assumption)]))
    · skip
      refine J_iconst (v := 1) 71 dX6_wantSaying_71 rfl ?_
      refine J_goto (tgt := 76) 72 dX6_wantSaying_72 (by decide) ?_
      exact cut_76_ 1 bg_65 en_65 so_65 wd_65 va_65 gd_65 rv1 rv2 (by first | assumption | omega | rfl) (by rw [hB]) (by rw [hB]; first | exact hT_65.trans (by rw [(by assumption : rv_65 = 0)]) | exact hT_65.trans (by rw [(mMay_01 hT_65).resolve_left (by assumption)]))
  have cut_31_ : ∀ (bg0 : Nat) (en0 : Nat) (so0 : Int32) (wd0 : Int64) (va0 : Int32) (gd0 : Int32), (h0 : mO0 tf tm ns 12 (bg, en, mso, wd, va, gd) = (bg0, en0, so0, wd0, va0, gd0)) → J l G (bd G 4 none none (wF [wMo o rw fr kp tr ik tp tm ((mSay tf tm (bg, en, mso, wd, va, gd) ns to he sw).1.2.2.1) ((mSay tf tm (bg, en, mso, wd, va, gd) ns to he sw).1.1) ((mSay tf tm (bg, en, mso, wd, va, gd) ns to he sw).1.2.1) ((mSay tf tm (bg, en, mso, wd, va, gd) ns to he sw).1.2.2.2.1) ((mSay tf tm (bg, en, mso, wd, va, gd) ns to he sw).1.2.2.2.2.1) ((mSay tf tm (bg, en, mso, wd, va, gd) ns to he sw).1.2.2.2.2.2) rs mu rm ss msz msh mho mhn mhz kd nb tn tc bo ip, wI G tp 200 tf, wMr G fr la ((mSay tf tm (bg, en, mso, wd, va, gd) ns to he sw).2.1) sd ((mSay tf tm (bg, en, mso, wd, va, gd) ns to he sw).2.2.1) ((mSay tf tm (bg, en, mso, wd, va, gd) ns to he sw).2.2.2.1) ((mSay tf tm (bg, en, mso, wd, va, gd) ns to he sw).2.2.2.2) nh ki te mi ar z])) cX6_wantSaying 5 "GooseArmsModel" 31 [some (.ref o), none, none, none, none] [] (wF [wMo o rw fr kp tr ik tp tm so0 bg0 en0 wd0 va0 gd0 rs mu rm ss msz msh mho mhn mhz kd nb tn tc bo ip, wI G tp 200 tf, wMr G fr la ns sd to he sw nh ki te mi ar z]) := by
    intro bg0 en0 so0 wd0 va0 gd0 h0
    have hin0 := (mO0_inE h0 hin).1
    refine J_aload_n 31 0 dX6_wantSaying_31 rfl rfl ?_
    refine J_iconst (v := 0) 32 dX6_wantSaying_32 rfl ?_
    refine J_bipush (v := 7) 33 dX6_wantSaying_33 rfl ?_
    refine kb_RX6_138 (bs' := [wMo o rw fr kp tr ik tp tm ((mNum tf tm 7 (bg0, en0, so0, wd0, va0, gd0)).2.2.2.1) ((mNum tf tm 7 (bg0, en0, so0, wd0, va0, gd0)).2.1) ((mNum tf tm 7 (bg0, en0, so0, wd0, va0, gd0)).2.2.1) ((mNum tf tm 7 (bg0, en0, so0, wd0, va0, gd0)).2.2.2.2.1) ((mNum tf tm 7 (bg0, en0, so0, wd0, va0, gd0)).2.2.2.2.2.1) ((mNum tf tm 7 (bg0, en0, so0, wd0, va0, gd0)).2.2.2.2.2.2) rs mu rm ss msz msh mho mhn mhz kd nb tn tc bo ip, wI G tp 200 tf, wMr G fr la ns sd to he sw nh ki te mi ar z]) (rest := []) (st' := [.int ((mNum tf tm 7 (bg0, en0, so0, wd0, va0, gd0)).1)]) 35 (c_X6_wantNumber l G 7 o rw fr kp tr ik tp tm so0 bg0 en0 wd0 va0 gd0 rs mu rm ss msz msh mho mhn mhz kd nb tn tc bo ip tf (by assumption) htm hbf) [0, 1] 0 rfl rfl rfl [[o], [tp]] rfl rfl rfl rfl rfl rfl (Nat.le_of_ble_eq_true rfl) rfl dX6_wantSaying_35 ?_
    obtain ⟨⟨rv_35, bg_35, en_35, so_35, wd_35, va_35, gd_35⟩, hT_35⟩ : ∃ t_, mNum tf tm 7 (bg0, en0, so0, wd0, va0, gd0) = t_ := ⟨_, rfl⟩
    refine J_ws (ws' := (wF [wMo o rw fr kp tr ik tp tm so_35 bg_35 en_35 wd_35 va_35 gd_35 rs mu rm ss msz msh mho mhn mhz kd nb tn tc bo ip, wI G tp 200 tf, wMr G fr la ns sd to he sw nh ki te mi ar z])) 38 (by rw [hT_35]) ?_
    refine J_st (st' := [.int rv_35]) 38 (by rw [hT_35]) ?_
    obtain ⟨hin_35, hbe_35, hen_35⟩ := mNum_inE hT_35 (by first | assumption | solve_by_elim)
    refine J_istore_n (lv' := [some (.ref o), some (.int rv_35), none, none, none]) 38 1 dX6_wantSaying_38 rfl (by decide) rfl ?_
    refine J_aload_n 39 0 dX6_wantSaying_39 rfl rfl ?_
    refine J_ldc2 (v := 161156) 40 w_959 dX6_wantSaying_40 ?_
    refine kb_RX6_135 (bs' := [wMo o rw fr kp tr ik tp tm ((mMay tf tm 161156 (bg_35, en_35, so_35, wd_35, va_35, gd_35)).2.2.2.1) ((mMay tf tm 161156 (bg_35, en_35, so_35, wd_35, va_35, gd_35)).2.1) ((mMay tf tm 161156 (bg_35, en_35, so_35, wd_35, va_35, gd_35)).2.2.1) ((mMay tf tm 161156 (bg_35, en_35, so_35, wd_35, va_35, gd_35)).2.2.2.2.1) ((mMay tf tm 161156 (bg_35, en_35, so_35, wd_35, va_35, gd_35)).2.2.2.2.2.1) ((mMay tf tm 161156 (bg_35, en_35, so_35, wd_35, va_35, gd_35)).2.2.2.2.2.2) rs mu rm ss msz msh mho mhn mhz kd nb tn tc bo ip, wI G tp 200 tf, wMr G fr la ns sd to he sw nh ki te mi ar z]) (rest := []) (st' := [.int ((mMay tf tm 161156 (bg_35, en_35, so_35, wd_35, va_35, gd_35)).1)]) 43 (c_X6_may l G 161156 o rw fr kp tr ik tp tm so_35 bg_35 en_35 wd_35 va_35 gd_35 rs mu rm ss msz msh mho mhn mhz kd nb tn tc bo ip tf (by assumption) htm hbf) [0, 1] 0 rfl rfl rfl [[o], [tp]] rfl rfl rfl rfl rfl rfl (Nat.le_of_ble_eq_true rfl) rfl dX6_wantSaying_43 ?_
    obtain ⟨⟨rv_43, bg_43, en_43, so_43, wd_43, va_43, gd_43⟩, hT_43⟩ : ∃ t_, mMay tf tm 161156 (bg_35, en_35, so_35, wd_35, va_35, gd_35) = t_ := ⟨_, rfl⟩
    refine J_ws (ws' := (wF [wMo o rw fr kp tr ik tp tm so_43 bg_43 en_43 wd_43 va_43 gd_43 rs mu rm ss msz msh mho mhn mhz kd nb tn tc bo ip, wI G tp 200 tf, wMr G fr la ns sd to he sw nh ki te mi ar z])) 46 (by rw [hT_43]) ?_
    refine J_st (st' := [.int rv_43]) 46 (by rw [hT_43]) ?_
    obtain ⟨hin_43, hbe_43, hen_43⟩ := mMay_inE hT_43 (by first | assumption | solve_by_elim)
    refine J_if_eq (tgt := 59) 46 dX6_wantSaying_46 (by decide) (fun c_3_ => ?_) (fun c_3_ => ?_)
    · skip
      refine J_iconst (v := 5) 59 dX6_wantSaying_59 rfl ?_
      exact cut_60_ 5 bg_43 en_43 so_43 wd_43 va_43 gd_43 rv_35 (by rw [h0, hT_35]) (by rw [h0, hT_35]; first | exact (mOp_1 hT_43 (by assumption)).trans hT_53 | exact mOp_0 hT_43 (by assumption))
    · skip
      refine J_aload_n 49 0 dX6_wantSaying_49 rfl rfl ?_
      refine J_iconst (v := 0) 50 dX6_wantSaying_50 rfl ?_
      refine J_bipush (v := 9) 51 dX6_wantSaying_51 rfl ?_
      refine kb_RX6_138 (bs' := [wMo o rw fr kp tr ik tp tm ((mNum tf tm 9 (bg_43, en_43, so_43, wd_43, va_43, gd_43)).2.2.2.1) ((mNum tf tm 9 (bg_43, en_43, so_43, wd_43, va_43, gd_43)).2.1) ((mNum tf tm 9 (bg_43, en_43, so_43, wd_43, va_43, gd_43)).2.2.1) ((mNum tf tm 9 (bg_43, en_43, so_43, wd_43, va_43, gd_43)).2.2.2.2.1) ((mNum tf tm 9 (bg_43, en_43, so_43, wd_43, va_43, gd_43)).2.2.2.2.2.1) ((mNum tf tm 9 (bg_43, en_43, so_43, wd_43, va_43, gd_43)).2.2.2.2.2.2) rs mu rm ss msz msh mho mhn mhz kd nb tn tc bo ip, wI G tp 200 tf, wMr G fr la ns sd to he sw nh ki te mi ar z]) (rest := []) (st' := [.int ((mNum tf tm 9 (bg_43, en_43, so_43, wd_43, va_43, gd_43)).1)]) 53 (c_X6_wantNumber l G 9 o rw fr kp tr ik tp tm so_43 bg_43 en_43 wd_43 va_43 gd_43 rs mu rm ss msz msh mho mhn mhz kd nb tn tc bo ip tf (by assumption) htm hbf) [0, 1] 0 rfl rfl rfl [[o], [tp]] rfl rfl rfl rfl rfl rfl (Nat.le_of_ble_eq_true rfl) rfl dX6_wantSaying_53 ?_
      obtain ⟨⟨rv_53, bg_53, en_53, so_53, wd_53, va_53, gd_53⟩, hT_53⟩ : ∃ t_, mNum tf tm 9 (bg_43, en_43, so_43, wd_43, va_43, gd_43) = t_ := ⟨_, rfl⟩
      refine J_ws (ws' := (wF [wMo o rw fr kp tr ik tp tm so_53 bg_53 en_53 wd_53 va_53 gd_53 rs mu rm ss msz msh mho mhn mhz kd nb tn tc bo ip, wI G tp 200 tf, wMr G fr la ns sd to he sw nh ki te mi ar z])) 56 (by rw [hT_53]) ?_
      refine J_st (st' := [.int rv_53]) 56 (by rw [hT_53]) ?_
      obtain ⟨hin_53, hbe_53, hen_53⟩ := mNum_inE hT_53 (by first | assumption | solve_by_elim)
      refine J_goto (tgt := 60) 56 dX6_wantSaying_56 (by decide) ?_
      exact cut_60_ rv_53 bg_53 en_53 so_53 wd_53 va_53 gd_53 rv_35 (by rw [h0, hT_35]) (by rw [h0, hT_35]; first | exact (mOp_1 hT_43 (by assumption)).trans hT_53 | exact mOp_0 hT_43 (by assumption))
  refine J_aload_n 0 0 dX6_wantSaying_0 rfl rfl ?_
  refine J_aload_n 1 0 dX6_wantSaying_1 rfl rfl ?_
  refine g_790 (v := .ref fr) 2 0 rfl rfl dX6_wantSaying_2 ?_
  refine J_iconst (v := 5) 5 dX6_wantSaying_5 rfl ?_
  refine J_iald 6 2 5 rfl rfl (by omega) (by decide) dX6_wantSaying_6 ?_
  refine J_topi (y := nI ns) 7 (fR_ns rfl) ?_
  refine J_bipush (v := 12) 7 dX6_wantSaying_7 rfl ?_
  refine J_icmp_ge (tgt := 16) 9 dX6_wantSaying_9 (by decide) (fun c_4_ => ?_) (fun c_4_ => ?_)
  · skip
    have c_4_ : 12 ≤ ns := (nI_leI (a := 12) (b := ns) (by omega) (by omega)).mp c_4_
    refine J_iconst (v := 0) 16 dX6_wantSaying_16 rfl ?_
    refine p_801 (ws' := (wF [wMo o rw fr kp tr ik tp tm mso bg en wd va 0 rs mu rm ss msz msh mho mhn mhz kd nb tn tc bo ip, wI G tp 200 tf, wMr G fr la ns sd to he sw nh ki te mi ar z])) 17 0 rfl rfl rfl (Nat.le_of_ble_eq_true rfl) rfl dX6_wantSaying_17 ?_
    refine J_aload_n 20 0 dX6_wantSaying_20 rfl rfl ?_
    refine g_801 (v := .int 0) 21 0 rfl rfl dX6_wantSaying_21 ?_
    refine J_if_eq (tgt := 31) 24 dX6_wantSaying_24 (by decide) (fun _ => ?_) (fun c_5_ => absurd c_5_ (by decide))
    exact cut_31_ bg en mso wd va 0 (by first | exact (if_pos (by omega)).trans (mUp_e hT_28) | exact if_neg (by omega))
  · skip
    have c_4_ : ¬ 12 ≤ ns := fun z_ => c_4_ ((nI_leI (a := 12) (b := ns) (by omega) (by omega)).mpr z_)
    refine J_iconst (v := 1) 12 dX6_wantSaying_12 rfl ?_
    refine J_goto (tgt := 17) 13 dX6_wantSaying_13 (by decide) ?_
    refine p_801 (ws' := (wF [wMo o rw fr kp tr ik tp tm mso bg en wd va 1 rs mu rm ss msz msh mho mhn mhz kd nb tn tc bo ip, wI G tp 200 tf, wMr G fr la ns sd to he sw nh ki te mi ar z])) 17 0 rfl rfl rfl (Nat.le_of_ble_eq_true rfl) rfl dX6_wantSaying_17 ?_
    refine J_aload_n 20 0 dX6_wantSaying_20 rfl rfl ?_
    refine g_801 (v := .int 1) 21 0 rfl rfl dX6_wantSaying_21 ?_
    refine J_if_eq (tgt := 31) 24 dX6_wantSaying_24 (by decide) (fun c_6_ => absurd c_6_ (by decide)) (fun _ => ?_)
    refine J_aload_n 27 0 dX6_wantSaying_27 rfl rfl ?_
    refine kb_RX6_127 (bs' := [wMo o rw fr kp tr ik tp tm ((mAdv tf tm en).2.2.1) ((mAdv tf tm en).1) ((mAdv tf tm en).2.1) ((mAdv tf tm en).2.2.2.1) ((mAdv tf tm en).2.2.2.2) 1 rs mu rm ss msz msh mho mhn mhz kd nb tn tc bo ip, wI G tp 200 tf, wMr G fr la ns sd to he sw nh ki te mi ar z]) (rest := []) (st' := []) 28 (c_X6_advance l G o rw fr kp tr ik tp tm mso bg en wd va 1 rs mu rm ss msz msh mho mhn mhz kd nb tn tc bo ip tf hin.1.2 htm hbf) [0, 1] 0 rfl rfl rfl [[o], [tp]] rfl rfl rfl rfl rfl rfl (Nat.le_of_ble_eq_true rfl) rfl dX6_wantSaying_28 ?_
    obtain ⟨⟨bg_28, en_28, so_28, wd_28, va_28⟩, hT_28⟩ : ∃ t_, mAdv tf tm en = t_ := ⟨_, rfl⟩
    refine J_ws (ws' := (wF [wMo o rw fr kp tr ik tp tm so_28 bg_28 en_28 wd_28 va_28 1 rs mu rm ss msz msh mho mhn mhz kd nb tn tc bo ip, wI G tp 200 tf, wMr G fr la ns sd to he sw nh ki te mi ar z])) 31 (by rw [hT_28]) ?_
    have hin_28 := fun g_ => mAdv_inE (gq := g_) hT_28 (by first | exact hin.1.2 | omega)
    exact cut_31_ bg_28 en_28 so_28 wd_28 va_28 1 (by first | exact (if_pos (by omega)).trans (mUp_e hT_28) | exact if_neg (by omega))
set_option maxRecDepth 100000 in
set_option maxHeartbeats 4000000 in
theorem c_X6_wantClause (l : Launch) (G : Gd) (o : Nat) (rw : Nat) (fr : Nat) (kp : Nat) (tr : Nat) (ik : Int32) (tp : Nat) (tm : Nat) (mso : Int32) (bg : Nat) (en : Nat) (wd : Int64) (va : Int32) (gd : Int32) (rs : Nat) (mu : Nat) (rm : Nat) (ss : Nat) (msz : Nat) (msh : Nat) (mho : Nat) (mhn : Nat) (mhz : Nat) (kd : Int32) (nb : Int32) (tn : Int32) (tc : Nat) (bo : Nat) (ip : Int32) (tf : Nat → Int32) (la : Nat → Int32) (ns : Nat) (sd : Nat) (to : Nat → Int32) (he : Nat → Int32) (sw : Nat → Int32) (nh : Nat) (ki : Nat → Int32) (te : Nat → Int32) (mi : Nat → Int32) (ar : Nat → Int32) (z : Int32) (hin : mIn tm (bg, en, mso, wd, va, gd)) (htm : tm ≤ 200) (hbf : ∀ j_, j_ < tm → 0 ≤ tf j_) (hns : ns ≤ 12) (hnh : nh ≤ 8) : Ct l G yX6_wantClause cX6_wantClause 2 none 5 [.ref o] (wF [wMo o rw fr kp tr ik tp tm mso bg en wd va gd rs mu rm ss msz msh mho mhn mhz kd nb tn tc bo ip, wI G tp 200 tf, wMr G fr la ns sd to he sw nh ki te mi ar z]) none (wF [wMo o rw fr kp tr ik tp tm ((mCl tf tm ((bg, en, mso, wd, va, gd), (la, ns, to, he, sw, nh, ki, te, mi, ar))).1.2.2.1) ((mCl tf tm ((bg, en, mso, wd, va, gd), (la, ns, to, he, sw, nh, ki, te, mi, ar))).1.1) ((mCl tf tm ((bg, en, mso, wd, va, gd), (la, ns, to, he, sw, nh, ki, te, mi, ar))).1.2.1) ((mCl tf tm ((bg, en, mso, wd, va, gd), (la, ns, to, he, sw, nh, ki, te, mi, ar))).1.2.2.2.1) ((mCl tf tm ((bg, en, mso, wd, va, gd), (la, ns, to, he, sw, nh, ki, te, mi, ar))).1.2.2.2.2.1) ((mCl tf tm ((bg, en, mso, wd, va, gd), (la, ns, to, he, sw, nh, ki, te, mi, ar))).1.2.2.2.2.2) rs mu rm ss msz msh mho mhn mhz kd nb tn tc bo ip, wI G tp 200 tf, wMr G fr ((mCl tf tm ((bg, en, mso, wd, va, gd), (la, ns, to, he, sw, nh, ki, te, mi, ar))).2.1) ((mCl tf tm ((bg, en, mso, wd, va, gd), (la, ns, to, he, sw, nh, ki, te, mi, ar))).2.2.1) sd ((mCl tf tm ((bg, en, mso, wd, va, gd), (la, ns, to, he, sw, nh, ki, te, mi, ar))).2.2.2.1) ((mCl tf tm ((bg, en, mso, wd, va, gd), (la, ns, to, he, sw, nh, ki, te, mi, ar))).2.2.2.2.1) ((mCl tf tm ((bg, en, mso, wd, va, gd), (la, ns, to, he, sw, nh, ki, te, mi, ar))).2.2.2.2.2.1) ((mCl tf tm ((bg, en, mso, wd, va, gd), (la, ns, to, he, sw, nh, ki, te, mi, ar))).2.2.2.2.2.2.1) ((mCl tf tm ((bg, en, mso, wd, va, gd), (la, ns, to, he, sw, nh, ki, te, mi, ar))).2.2.2.2.2.2.2.1) ((mCl tf tm ((bg, en, mso, wd, va, gd), (la, ns, to, he, sw, nh, ki, te, mi, ar))).2.2.2.2.2.2.2.2.1) ((mCl tf tm ((bg, en, mso, wd, va, gd), (la, ns, to, he, sw, nh, ki, te, mi, ar))).2.2.2.2.2.2.2.2.2.1) ((mCl tf tm ((bg, en, mso, wd, va, gd), (la, ns, to, he, sw, nh, ki, te, mi, ar))).2.2.2.2.2.2.2.2.2.2) z]) := by
  refine Ct.of "GooseArmsModel" [some (.ref o), none] (by decide +kernel) rfl (Nat.le_of_ble_eq_true rfl) rfl ?_
  refine J_aload_n 0 0 dX6_wantClause_0 rfl rfl ?_
  refine kb_RX6_151 (bs' := [wMo o rw fr kp tr ik tp tm mso bg en wd va gd rs mu rm ss msz msh mho mhn mhz kd nb tn tc bo ip, wI G tp 200 tf, wMr G fr la ns sd to he sw nh ki te mi ar z]) (rest := []) (st' := [.int (mLn mso wd)]) 1 (c_X6_lawHere l G o rw fr kp tr ik tp tm mso bg en wd va gd rs mu rm ss msz msh mho mhn mhz kd nb tn tc bo ip ) [0] 0 rfl rfl rfl [[o]] rfl rfl rfl rfl rfl rfl (Nat.le_of_ble_eq_true rfl) rfl dX6_wantClause_1 ?_
  refine J_istore_n (lv' := [some (.ref o), some (.int (mLn mso wd))]) 4 1 dX6_wantClause_4 rfl (by decide) rfl ?_
  refine J_aload_n 5 0 dX6_wantClause_5 rfl rfl ?_
  refine kb_RX6_155 (bs' := [wMo o rw fr kp tr ik tp tm mso bg en wd va gd rs mu rm ss msz msh mho mhn mhz kd nb tn tc bo ip, wI G tp 200 tf, wMr G fr la ns sd to he sw nh ki te mi ar z]) (rest := []) (st' := [.int (mKn mso wd)]) 6 (c_X6_kindHere l G o rw fr kp tr ik tp tm mso bg en wd va gd rs mu rm ss msz msh mho mhn mhz kd nb tn tc bo ip ) [0] 0 rfl rfl rfl [[o]] rfl rfl rfl rfl rfl rfl (Nat.le_of_ble_eq_true rfl) rfl dX6_wantClause_6 ?_
  refine J_if_lt (tgt := 23) 9 dX6_wantClause_9 (by decide) (fun c_1_ => ?_) (fun c_1_ => ?_)
  · skip
    refine J_iload_n 23 1 dX6_wantClause_23 rfl rfl ?_
    refine J_if_lt (tgt := 53) 24 dX6_wantClause_24 (by decide) (fun c_2_ => ?_) (fun c_2_ => ?_)
    · skip
      refine J_aload_n 53 0 dX6_wantClause_53 rfl rfl ?_
      refine J_ldc2 (v := 13903) 54 w_954 dX6_wantClause_54 ?_
      refine kb_RX6_101 (bs' := [wMo o rw fr kp tr ik tp tm mso bg en wd va gd rs mu rm ss msz msh mho mhn mhz kd nb tn tc bo ip, wI G tp 200 tf, wMr G fr la ns sd to he sw nh ki te mi ar z]) (rest := []) (st' := [.int (bI (mso = 1 ∧ wd = 13903))]) 57 (c_X6_isWord l G 13903 o rw fr kp tr ik tp tm mso bg en wd va gd rs mu rm ss msz msh mho mhn mhz kd nb tn tc bo ip ) [0] 0 rfl rfl rfl [[o]] rfl rfl rfl rfl rfl rfl (Nat.le_of_ble_eq_true rfl) rfl dX6_wantClause_57 ?_
      refine J_ifB_eq (tgt := 70) 60 dX6_wantClause_60 (by decide) (fun c_3_ => ?_) (fun c_3_ => ?_)
      · skip
        refine J_aload_n 70 0 dX6_wantClause_70 rfl rfl ?_
        refine J_iconst (v := 0) 71 dX6_wantClause_71 rfl ?_
        refine p_801 (ws' := (wF [wMo o rw fr kp tr ik tp tm mso bg en wd va 0 rs mu rm ss msz msh mho mhn mhz kd nb tn tc bo ip, wI G tp 200 tf, wMr G fr la ns sd to he sw nh ki te mi ar z])) 72 0 rfl rfl rfl (Nat.le_of_ble_eq_true rfl) rfl dX6_wantClause_72 ?_
        have hN_ : mCl tf tm ((bg, en, mso, wd, va, gd), (la, ns, to, he, sw, nh, ki, te, mi, ar)) = ((bg, en, mso, wd, va, 0), la, ns, to, he, sw, nh, ki, te, mi, ar) := by unfold mCl; (try dsimp only); rw [cif_f (Int32.not_le.mpr (by assumption)), cif_f (Int32.not_le.mpr (by assumption)), cif_f (by assumption)]
        exact J_vret 75 dX6_wantClause_75 rfl (cg16 (fun (x0_ : Int32) (x1_ : Nat) (x2_ : Nat) (x3_ : Int64) (x4_ : Int32) (x5_ : Int32) (x6_ : Nat → Int32) (x7_ : Nat) (x8_ : Nat → Int32) (x9_ : Nat → Int32) (x10_ : Nat → Int32) (x11_ : Nat) (x12_ : Nat → Int32) (x13_ : Nat → Int32) (x14_ : Nat → Int32) (x15_ : Nat → Int32) => (wF [wMo o rw fr kp tr ik tp tm x0_ x1_ x2_ x3_ x4_ x5_ rs mu rm ss msz msh mho mhn mhz kd nb tn tc bo ip, wI G tp 200 tf, wMr G fr x6_ x7_ sd x8_ x9_ x10_ x11_ x12_ x13_ x14_ x15_ z])) mso ((mCl tf tm ((bg, en, mso, wd, va, gd), (la, ns, to, he, sw, nh, ki, te, mi, ar))).1.2.2.1) bg ((mCl tf tm ((bg, en, mso, wd, va, gd), (la, ns, to, he, sw, nh, ki, te, mi, ar))).1.1) en ((mCl tf tm ((bg, en, mso, wd, va, gd), (la, ns, to, he, sw, nh, ki, te, mi, ar))).1.2.1) wd ((mCl tf tm ((bg, en, mso, wd, va, gd), (la, ns, to, he, sw, nh, ki, te, mi, ar))).1.2.2.2.1) va ((mCl tf tm ((bg, en, mso, wd, va, gd), (la, ns, to, he, sw, nh, ki, te, mi, ar))).1.2.2.2.2.1) 0 ((mCl tf tm ((bg, en, mso, wd, va, gd), (la, ns, to, he, sw, nh, ki, te, mi, ar))).1.2.2.2.2.2) la ((mCl tf tm ((bg, en, mso, wd, va, gd), (la, ns, to, he, sw, nh, ki, te, mi, ar))).2.1) ns ((mCl tf tm ((bg, en, mso, wd, va, gd), (la, ns, to, he, sw, nh, ki, te, mi, ar))).2.2.1) to ((mCl tf tm ((bg, en, mso, wd, va, gd), (la, ns, to, he, sw, nh, ki, te, mi, ar))).2.2.2.1) he ((mCl tf tm ((bg, en, mso, wd, va, gd), (la, ns, to, he, sw, nh, ki, te, mi, ar))).2.2.2.2.1) sw ((mCl tf tm ((bg, en, mso, wd, va, gd), (la, ns, to, he, sw, nh, ki, te, mi, ar))).2.2.2.2.2.1) nh ((mCl tf tm ((bg, en, mso, wd, va, gd), (la, ns, to, he, sw, nh, ki, te, mi, ar))).2.2.2.2.2.2.1) ki ((mCl tf tm ((bg, en, mso, wd, va, gd), (la, ns, to, he, sw, nh, ki, te, mi, ar))).2.2.2.2.2.2.2.1) te ((mCl tf tm ((bg, en, mso, wd, va, gd), (la, ns, to, he, sw, nh, ki, te, mi, ar))).2.2.2.2.2.2.2.2.1) mi ((mCl tf tm ((bg, en, mso, wd, va, gd), (la, ns, to, he, sw, nh, ki, te, mi, ar))).2.2.2.2.2.2.2.2.2.1) ar ((mCl tf tm ((bg, en, mso, wd, va, gd), (la, ns, to, he, sw, nh, ki, te, mi, ar))).2.2.2.2.2.2.2.2.2.2) (by rw [hN_]) (by rw [hN_]) (by rw [hN_]) (by rw [hN_]) (by rw [hN_]) (by rw [hN_]) (by rw [hN_]) (by rw [hN_]) (by rw [hN_]) (by rw [hN_]) (by rw [hN_]) (by rw [hN_]) (by rw [hN_]) (by rw [hN_]) (by rw [hN_]) (by rw [hN_]))
      · skip
        refine J_aload_n 63 0 dX6_wantClause_63 rfl rfl ?_
        refine kb_RX6_167 (bs' := [wMo o rw fr kp tr ik tp tm ((mSay tf tm (bg, en, mso, wd, va, gd) ns to he sw).1.2.2.1) ((mSay tf tm (bg, en, mso, wd, va, gd) ns to he sw).1.1) ((mSay tf tm (bg, en, mso, wd, va, gd) ns to he sw).1.2.1) ((mSay tf tm (bg, en, mso, wd, va, gd) ns to he sw).1.2.2.2.1) ((mSay tf tm (bg, en, mso, wd, va, gd) ns to he sw).1.2.2.2.2.1) ((mSay tf tm (bg, en, mso, wd, va, gd) ns to he sw).1.2.2.2.2.2) rs mu rm ss msz msh mho mhn mhz kd nb tn tc bo ip, wI G tp 200 tf, wMr G fr la ((mSay tf tm (bg, en, mso, wd, va, gd) ns to he sw).2.1) sd ((mSay tf tm (bg, en, mso, wd, va, gd) ns to he sw).2.2.1) ((mSay tf tm (bg, en, mso, wd, va, gd) ns to he sw).2.2.2.1) ((mSay tf tm (bg, en, mso, wd, va, gd) ns to he sw).2.2.2.2) nh ki te mi ar z]) (rest := []) (st' := []) 64 (c_X6_wantSaying l G o rw fr kp tr ik tp tm mso bg en wd va gd rs mu rm ss msz msh mho mhn mhz kd nb tn tc bo ip tf la ns sd to he sw nh ki te mi ar z (by assumption) htm hbf (by first | omega | assumption)) [0, 1, 2] 0 rfl rfl rfl [[o], [tp], [fr]] rfl rfl rfl rfl rfl rfl (Nat.le_of_ble_eq_true rfl) rfl dX6_wantClause_64 ?_
        obtain ⟨⟨⟨bg_64, en_64, so_64, wd_64, va_64, gd_64⟩, ns_64, to_64, he_64, sw_64⟩, hT_64⟩ : ∃ t_, mSay tf tm (bg, en, mso, wd, va, gd) ns to he sw = t_ := ⟨_, rfl⟩
        refine J_ws (ws' := (wF [wMo o rw fr kp tr ik tp tm so_64 bg_64 en_64 wd_64 va_64 gd_64 rs mu rm ss msz msh mho mhn mhz kd nb tn tc bo ip, wI G tp 200 tf, wMr G fr la ns_64 sd to_64 he_64 sw_64 nh ki te mi ar z])) 67 (by rw [hT_64]) ?_
        obtain ⟨hin_64, hbe_64, hns_64, hpr_64⟩ := mSay_inE hT_64 (by assumption) (by assumption)
        refine J_goto (tgt := 75) 67 dX6_wantClause_67 (by decide) ?_
        have hN_ : mCl tf tm ((bg, en, mso, wd, va, gd), (la, ns, to, he, sw, nh, ki, te, mi, ar)) = ((bg_64, en_64, so_64, wd_64, va_64, gd_64), la, ns_64, to_64, he_64, sw_64, nh, ki, te, mi, ar) := by unfold mCl; (try dsimp only); rw [cif_f (Int32.not_le.mpr (by assumption)), cif_f (Int32.not_le.mpr (by assumption)), cif_t (by assumption), hT_64]
        exact J_vret 75 dX6_wantClause_75 rfl (cg16 (fun (x0_ : Int32) (x1_ : Nat) (x2_ : Nat) (x3_ : Int64) (x4_ : Int32) (x5_ : Int32) (x6_ : Nat → Int32) (x7_ : Nat) (x8_ : Nat → Int32) (x9_ : Nat → Int32) (x10_ : Nat → Int32) (x11_ : Nat) (x12_ : Nat → Int32) (x13_ : Nat → Int32) (x14_ : Nat → Int32) (x15_ : Nat → Int32) => (wF [wMo o rw fr kp tr ik tp tm x0_ x1_ x2_ x3_ x4_ x5_ rs mu rm ss msz msh mho mhn mhz kd nb tn tc bo ip, wI G tp 200 tf, wMr G fr x6_ x7_ sd x8_ x9_ x10_ x11_ x12_ x13_ x14_ x15_ z])) so_64 ((mCl tf tm ((bg, en, mso, wd, va, gd), (la, ns, to, he, sw, nh, ki, te, mi, ar))).1.2.2.1) bg_64 ((mCl tf tm ((bg, en, mso, wd, va, gd), (la, ns, to, he, sw, nh, ki, te, mi, ar))).1.1) en_64 ((mCl tf tm ((bg, en, mso, wd, va, gd), (la, ns, to, he, sw, nh, ki, te, mi, ar))).1.2.1) wd_64 ((mCl tf tm ((bg, en, mso, wd, va, gd), (la, ns, to, he, sw, nh, ki, te, mi, ar))).1.2.2.2.1) va_64 ((mCl tf tm ((bg, en, mso, wd, va, gd), (la, ns, to, he, sw, nh, ki, te, mi, ar))).1.2.2.2.2.1) gd_64 ((mCl tf tm ((bg, en, mso, wd, va, gd), (la, ns, to, he, sw, nh, ki, te, mi, ar))).1.2.2.2.2.2) la ((mCl tf tm ((bg, en, mso, wd, va, gd), (la, ns, to, he, sw, nh, ki, te, mi, ar))).2.1) ns_64 ((mCl tf tm ((bg, en, mso, wd, va, gd), (la, ns, to, he, sw, nh, ki, te, mi, ar))).2.2.1) to_64 ((mCl tf tm ((bg, en, mso, wd, va, gd), (la, ns, to, he, sw, nh, ki, te, mi, ar))).2.2.2.1) he_64 ((mCl tf tm ((bg, en, mso, wd, va, gd), (la, ns, to, he, sw, nh, ki, te, mi, ar))).2.2.2.2.1) sw_64 ((mCl tf tm ((bg, en, mso, wd, va, gd), (la, ns, to, he, sw, nh, ki, te, mi, ar))).2.2.2.2.2.1) nh ((mCl tf tm ((bg, en, mso, wd, va, gd), (la, ns, to, he, sw, nh, ki, te, mi, ar))).2.2.2.2.2.2.1) ki ((mCl tf tm ((bg, en, mso, wd, va, gd), (la, ns, to, he, sw, nh, ki, te, mi, ar))).2.2.2.2.2.2.2.1) te ((mCl tf tm ((bg, en, mso, wd, va, gd), (la, ns, to, he, sw, nh, ki, te, mi, ar))).2.2.2.2.2.2.2.2.1) mi ((mCl tf tm ((bg, en, mso, wd, va, gd), (la, ns, to, he, sw, nh, ki, te, mi, ar))).2.2.2.2.2.2.2.2.2.1) ar ((mCl tf tm ((bg, en, mso, wd, va, gd), (la, ns, to, he, sw, nh, ki, te, mi, ar))).2.2.2.2.2.2.2.2.2.2) (by rw [hN_]) (by rw [hN_]) (by rw [hN_]) (by rw [hN_]) (by rw [hN_]) (by rw [hN_]) (by rw [hN_]) (by rw [hN_]) (by rw [hN_]) (by rw [hN_]) (by rw [hN_]) (by rw [hN_]) (by rw [hN_]) (by rw [hN_]) (by rw [hN_]) (by rw [hN_]))
    · skip
      obtain ⟨jl_, hjl_, hj_⟩ := mLn_nI (Int32.not_lt.mp c_2_)
      refine J_aload_n 27 0 dX6_wantClause_27 rfl rfl ?_
      refine kb_RX6_127 (bs' := [wMo o rw fr kp tr ik tp tm ((mAdv tf tm en).2.2.1) ((mAdv tf tm en).1) ((mAdv tf tm en).2.1) ((mAdv tf tm en).2.2.2.1) ((mAdv tf tm en).2.2.2.2) gd rs mu rm ss msz msh mho mhn mhz kd nb tn tc bo ip, wI G tp 200 tf, wMr G fr la ns sd to he sw nh ki te mi ar z]) (rest := []) (st' := []) 28 (c_X6_advance l G o rw fr kp tr ik tp tm mso bg en wd va gd rs mu rm ss msz msh mho mhn mhz kd nb tn tc bo ip tf hin.1.2 htm hbf) [0, 1] 0 rfl rfl rfl [[o], [tp]] rfl rfl rfl rfl rfl rfl (Nat.le_of_ble_eq_true rfl) rfl dX6_wantClause_28 ?_
      obtain ⟨⟨bg_28, en_28, so_28, wd_28, va_28⟩, hT_28⟩ : ∃ t_, mAdv tf tm en = t_ := ⟨_, rfl⟩
      refine J_ws (ws' := (wF [wMo o rw fr kp tr ik tp tm so_28 bg_28 en_28 wd_28 va_28 gd rs mu rm ss msz msh mho mhn mhz kd nb tn tc bo ip, wI G tp 200 tf, wMr G fr la ns sd to he sw nh ki te mi ar z])) 31 (by rw [hT_28]) ?_
      have hin_28 := fun g_ => mAdv_inE (gq := g_) hT_28 (by first | exact hin.1.2 | omega)
      refine J_aload_n 31 0 dX6_wantClause_31 rfl rfl ?_
      refine g_790 (v := .ref fr) 32 0 rfl rfl dX6_wantClause_32 ?_
      refine J_iload_n 35 1 dX6_wantClause_35 rfl rfl ?_
      refine J_topi (y := nI jl_) 36 hj_ ?_
      refine J_aload_n 36 0 dX6_wantClause_36 rfl rfl ?_
      refine J_iconst (v := 0) 37 dX6_wantClause_37 rfl ?_
      refine J_iload_n 38 1 dX6_wantClause_38 rfl rfl ?_
      refine J_topi (y := nI jl_) 39 hj_ ?_
      refine kb_RX6_162 (bs' := [wMo o rw fr kp tr ik tp tm so_28 bg_28 en_28 wd_28 va_28 gd rs mu rm ss msz msh mho mhn mhz kd nb tn tc bo ip, wI G tp 200 tf, wMr G fr la ns sd to he sw nh ki te mi ar z]) (rest := [.int 0, .ref o, .int (nI jl_), .ref fr]) (st' := [.int (([9, 9, 9, 99] : List Int32).getD jl_ 0), .int 0, .ref o, .int (nI jl_), .ref fr]) 39 (c_X6_mostOf l G jl_ (by first | omega | assumption)) [] rfl rfl [] rfl rfl rfl rfl rfl rfl (Nat.le_of_ble_eq_true rfl) rfl dX6_wantClause_39 ?_
      refine kb_RX6_138 (bs' := [wMo o rw fr kp tr ik tp tm ((mNum tf tm (([9, 9, 9, 99] : List Int32).getD jl_ 0) (bg_28, en_28, so_28, wd_28, va_28, gd)).2.2.2.1) ((mNum tf tm (([9, 9, 9, 99] : List Int32).getD jl_ 0) (bg_28, en_28, so_28, wd_28, va_28, gd)).2.1) ((mNum tf tm (([9, 9, 9, 99] : List Int32).getD jl_ 0) (bg_28, en_28, so_28, wd_28, va_28, gd)).2.2.1) ((mNum tf tm (([9, 9, 9, 99] : List Int32).getD jl_ 0) (bg_28, en_28, so_28, wd_28, va_28, gd)).2.2.2.2.1) ((mNum tf tm (([9, 9, 9, 99] : List Int32).getD jl_ 0) (bg_28, en_28, so_28, wd_28, va_28, gd)).2.2.2.2.2.1) ((mNum tf tm (([9, 9, 9, 99] : List Int32).getD jl_ 0) (bg_28, en_28, so_28, wd_28, va_28, gd)).2.2.2.2.2.2) rs mu rm ss msz msh mho mhn mhz kd nb tn tc bo ip, wI G tp 200 tf, wMr G fr la ns sd to he sw nh ki te mi ar z]) (rest := [.int (nI jl_), .ref fr]) (st' := [.int ((mNum tf tm (([9, 9, 9, 99] : List Int32).getD jl_ 0) (bg_28, en_28, so_28, wd_28, va_28, gd)).1), .int (nI jl_), .ref fr]) 42 (c_X6_wantNumber l G (([9, 9, 9, 99] : List Int32).getD jl_ 0) o rw fr kp tr ik tp tm so_28 bg_28 en_28 wd_28 va_28 gd rs mu rm ss msz msh mho mhn mhz kd nb tn tc bo ip tf (mAdv_inE hT_28 hin.1.2) htm hbf) [0, 1] 0 rfl rfl rfl [[o], [tp]] rfl rfl rfl rfl rfl rfl (Nat.le_of_ble_eq_true rfl) rfl dX6_wantClause_42 ?_
      obtain ⟨⟨rv_42, bg_42, en_42, so_42, wd_42, va_42, gd_42⟩, hT_42⟩ : ∃ t_, mNum tf tm (([9, 9, 9, 99] : List Int32).getD jl_ 0) (bg_28, en_28, so_28, wd_28, va_28, gd) = t_ := ⟨_, rfl⟩
      refine J_ws (ws' := (wF [wMo o rw fr kp tr ik tp tm so_42 bg_42 en_42 wd_42 va_42 gd_42 rs mu rm ss msz msh mho mhn mhz kd nb tn tc bo ip, wI G tp 200 tf, wMr G fr la ns sd to he sw nh ki te mi ar z])) 45 (by rw [hT_42]) ?_
      refine J_st (st' := [.int rv_42, .int (nI jl_), .ref fr]) 45 (by rw [hT_42]) ?_
      obtain ⟨hin_42, hbe_42, hen_42⟩ := mNum_inE hT_42 (by first | assumption | solve_by_elim)
      refine J_iast (ws' := (wF [wMo o rw fr kp tr ik tp tm so_42 bg_42 en_42 wd_42 va_42 gd_42 rs mu rm ss msz msh mho mhn mhz kd nb tn tc bo ip, wI G tp 200 tf, wI G fr 76 (upd (fRow la ns sd to he sw nh ki te mi ar z) jl_ rv_42)])) 45 2 jl_ rfl rfl (by omega) (by decide) rfl dX6_wantClause_45 ?_
      refine J_ws (ws' := (wF [wMo o rw fr kp tr ik tp tm so_42 bg_42 en_42 wd_42 va_42 gd_42 rs mu rm ss msz msh mho mhn mhz kd nb tn tc bo ip, wI G tp 200 tf, wMr G fr (upd la jl_ rv_42) ns sd to he sw nh ki te mi ar z])) 46 (congrArg (fun x_ => (wF [wMo o rw fr kp tr ik tp tm so_42 bg_42 en_42 wd_42 va_42 gd_42 rs mu rm ss msz msh mho mhn mhz kd nb tn tc bo ip, wI G tp 200 tf, wI G fr 76 x_])) (fU_la (by omega))) ?_
      refine J_aload_n 46 0 dX6_wantClause_46 rfl rfl ?_
      refine kb_RX6_144 (bs' := [wMo o rw fr kp tr ik tp tm ((mEnd tf tm (bg_42, en_42, so_42, wd_42, va_42, gd_42)).2.2.1) ((mEnd tf tm (bg_42, en_42, so_42, wd_42, va_42, gd_42)).1) ((mEnd tf tm (bg_42, en_42, so_42, wd_42, va_42, gd_42)).2.1) ((mEnd tf tm (bg_42, en_42, so_42, wd_42, va_42, gd_42)).2.2.2.1) ((mEnd tf tm (bg_42, en_42, so_42, wd_42, va_42, gd_42)).2.2.2.2.1) ((mEnd tf tm (bg_42, en_42, so_42, wd_42, va_42, gd_42)).2.2.2.2.2) rs mu rm ss msz msh mho mhn mhz kd nb tn tc bo ip, wI G tp 200 tf, wMr G fr (upd la jl_ rv_42) ns sd to he sw nh ki te mi ar z]) (rest := []) (st' := []) 47 (c_X6_wantEnd l G o rw fr kp tr ik tp tm so_42 bg_42 en_42 wd_42 va_42 gd_42 rs mu rm ss msz msh mho mhn mhz kd nb tn tc bo ip tf (by assumption) htm hbf) [0, 1] 0 rfl rfl rfl [[o], [tp]] rfl rfl rfl rfl rfl rfl (Nat.le_of_ble_eq_true rfl) rfl dX6_wantClause_47 ?_
      obtain ⟨⟨bg_47, en_47, so_47, wd_47, va_47, gd_47⟩, hT_47⟩ : ∃ t_, mEnd tf tm (bg_42, en_42, so_42, wd_42, va_42, gd_42) = t_ := ⟨_, rfl⟩
      refine J_ws (ws' := (wF [wMo o rw fr kp tr ik tp tm so_47 bg_47 en_47 wd_47 va_47 gd_47 rs mu rm ss msz msh mho mhn mhz kd nb tn tc bo ip, wI G tp 200 tf, wMr G fr (upd la jl_ rv_42) ns sd to he sw nh ki te mi ar z])) 50 (by rw [hT_47]) ?_
      obtain ⟨hin_47, hbe_47, hen_47⟩ := mEnd_inE hT_47 (by first | assumption | solve_by_elim)
      refine J_goto (tgt := 75) 50 dX6_wantClause_50 (by decide) ?_
      have hN_ : mCl tf tm ((bg, en, mso, wd, va, gd), (la, ns, to, he, sw, nh, ki, te, mi, ar)) = ((bg_47, en_47, so_47, wd_47, va_47, gd_47), upd la jl_ rv_42, ns, to, he, sw, nh, ki, te, mi, ar) := by unfold mCl; (try dsimp only); rw [cif_f (Int32.not_le.mpr (by assumption)), cif_t (Int32.not_lt.mp (by assumption)), hj_, nI_clamp (by omega), mUp_e hT_28, hT_42]; (try dsimp only); rw [hT_47]
      exact J_vret 75 dX6_wantClause_75 rfl (cg16 (fun (x0_ : Int32) (x1_ : Nat) (x2_ : Nat) (x3_ : Int64) (x4_ : Int32) (x5_ : Int32) (x6_ : Nat → Int32) (x7_ : Nat) (x8_ : Nat → Int32) (x9_ : Nat → Int32) (x10_ : Nat → Int32) (x11_ : Nat) (x12_ : Nat → Int32) (x13_ : Nat → Int32) (x14_ : Nat → Int32) (x15_ : Nat → Int32) => (wF [wMo o rw fr kp tr ik tp tm x0_ x1_ x2_ x3_ x4_ x5_ rs mu rm ss msz msh mho mhn mhz kd nb tn tc bo ip, wI G tp 200 tf, wMr G fr x6_ x7_ sd x8_ x9_ x10_ x11_ x12_ x13_ x14_ x15_ z])) so_47 ((mCl tf tm ((bg, en, mso, wd, va, gd), (la, ns, to, he, sw, nh, ki, te, mi, ar))).1.2.2.1) bg_47 ((mCl tf tm ((bg, en, mso, wd, va, gd), (la, ns, to, he, sw, nh, ki, te, mi, ar))).1.1) en_47 ((mCl tf tm ((bg, en, mso, wd, va, gd), (la, ns, to, he, sw, nh, ki, te, mi, ar))).1.2.1) wd_47 ((mCl tf tm ((bg, en, mso, wd, va, gd), (la, ns, to, he, sw, nh, ki, te, mi, ar))).1.2.2.2.1) va_47 ((mCl tf tm ((bg, en, mso, wd, va, gd), (la, ns, to, he, sw, nh, ki, te, mi, ar))).1.2.2.2.2.1) gd_47 ((mCl tf tm ((bg, en, mso, wd, va, gd), (la, ns, to, he, sw, nh, ki, te, mi, ar))).1.2.2.2.2.2) (upd la jl_ rv_42) ((mCl tf tm ((bg, en, mso, wd, va, gd), (la, ns, to, he, sw, nh, ki, te, mi, ar))).2.1) ns ((mCl tf tm ((bg, en, mso, wd, va, gd), (la, ns, to, he, sw, nh, ki, te, mi, ar))).2.2.1) to ((mCl tf tm ((bg, en, mso, wd, va, gd), (la, ns, to, he, sw, nh, ki, te, mi, ar))).2.2.2.1) he ((mCl tf tm ((bg, en, mso, wd, va, gd), (la, ns, to, he, sw, nh, ki, te, mi, ar))).2.2.2.2.1) sw ((mCl tf tm ((bg, en, mso, wd, va, gd), (la, ns, to, he, sw, nh, ki, te, mi, ar))).2.2.2.2.2.1) nh ((mCl tf tm ((bg, en, mso, wd, va, gd), (la, ns, to, he, sw, nh, ki, te, mi, ar))).2.2.2.2.2.2.1) ki ((mCl tf tm ((bg, en, mso, wd, va, gd), (la, ns, to, he, sw, nh, ki, te, mi, ar))).2.2.2.2.2.2.2.1) te ((mCl tf tm ((bg, en, mso, wd, va, gd), (la, ns, to, he, sw, nh, ki, te, mi, ar))).2.2.2.2.2.2.2.2.1) mi ((mCl tf tm ((bg, en, mso, wd, va, gd), (la, ns, to, he, sw, nh, ki, te, mi, ar))).2.2.2.2.2.2.2.2.2.1) ar ((mCl tf tm ((bg, en, mso, wd, va, gd), (la, ns, to, he, sw, nh, ki, te, mi, ar))).2.2.2.2.2.2.2.2.2.2) (by rw [hN_]) (by rw [hN_]) (by rw [hN_]) (by rw [hN_]) (by rw [hN_]) (by rw [hN_]) (by rw [hN_]) (by rw [hN_]) (by rw [hN_]) (by rw [hN_]) (by rw [hN_]) (by rw [hN_]) (by rw [hN_]) (by rw [hN_]) (by rw [hN_]) (by rw [hN_]))
  · skip
    refine J_aload_n 12 0 dX6_wantClause_12 rfl rfl ?_
    refine J_aload_n 13 0 dX6_wantClause_13 rfl rfl ?_
    refine kb_RX6_155 (bs' := [wMo o rw fr kp tr ik tp tm mso bg en wd va gd rs mu rm ss msz msh mho mhn mhz kd nb tn tc bo ip, wI G tp 200 tf, wMr G fr la ns sd to he sw nh ki te mi ar z]) (rest := [.ref o]) (st' := [.int (mKn mso wd), .ref o]) 14 (c_X6_kindHere l G o rw fr kp tr ik tp tm mso bg en wd va gd rs mu rm ss msz msh mho mhn mhz kd nb tn tc bo ip ) [0] 0 rfl rfl rfl [[o]] rfl rfl rfl rfl rfl rfl (Nat.le_of_ble_eq_true rfl) rfl dX6_wantClause_14 ?_
    refine kb_RX6_158 (bs' := [wMo o rw fr kp tr ik tp tm ((mOne tf tm (mKn mso wd) (bg, en, mso, wd, va, gd) nh ki te mi ar).1.2.2.1) ((mOne tf tm (mKn mso wd) (bg, en, mso, wd, va, gd) nh ki te mi ar).1.1) ((mOne tf tm (mKn mso wd) (bg, en, mso, wd, va, gd) nh ki te mi ar).1.2.1) ((mOne tf tm (mKn mso wd) (bg, en, mso, wd, va, gd) nh ki te mi ar).1.2.2.2.1) ((mOne tf tm (mKn mso wd) (bg, en, mso, wd, va, gd) nh ki te mi ar).1.2.2.2.2.1) ((mOne tf tm (mKn mso wd) (bg, en, mso, wd, va, gd) nh ki te mi ar).1.2.2.2.2.2) rs mu rm ss msz msh mho mhn mhz kd nb tn tc bo ip, wI G tp 200 tf, wMr G fr la ns sd to he sw ((mOne tf tm (mKn mso wd) (bg, en, mso, wd, va, gd) nh ki te mi ar).2.1) ((mOne tf tm (mKn mso wd) (bg, en, mso, wd, va, gd) nh ki te mi ar).2.2.1) ((mOne tf tm (mKn mso wd) (bg, en, mso, wd, va, gd) nh ki te mi ar).2.2.2.1) ((mOne tf tm (mKn mso wd) (bg, en, mso, wd, va, gd) nh ki te mi ar).2.2.2.2.1) ((mOne tf tm (mKn mso wd) (bg, en, mso, wd, va, gd) nh ki te mi ar).2.2.2.2.2) z]) (rest := []) (st' := []) 17 (c_X6_wantOne l G (mKn mso wd) o rw fr kp tr ik tp tm mso bg en wd va gd rs mu rm ss msz msh mho mhn mhz kd nb tn tc bo ip tf la ns sd to he sw nh ki te mi ar z (by assumption) htm hbf (by first | omega | assumption)) [0, 1, 2] 0 rfl rfl rfl [[o], [tp], [fr]] rfl rfl rfl rfl rfl rfl (Nat.le_of_ble_eq_true rfl) rfl dX6_wantClause_17 ?_
    obtain ⟨⟨⟨bg_17, en_17, so_17, wd_17, va_17, gd_17⟩, nh_17, ki_17, te_17, mi_17, ar_17⟩, hT_17⟩ : ∃ t_, mOne tf tm (mKn mso wd) (bg, en, mso, wd, va, gd) nh ki te mi ar = t_ := ⟨_, rfl⟩
    refine J_ws (ws' := (wF [wMo o rw fr kp tr ik tp tm so_17 bg_17 en_17 wd_17 va_17 gd_17 rs mu rm ss msz msh mho mhn mhz kd nb tn tc bo ip, wI G tp 200 tf, wMr G fr la ns sd to he sw nh_17 ki_17 te_17 mi_17 ar_17 z])) 20 (by rw [hT_17]) ?_
    obtain ⟨hin_17, hbe_17, hnh_17, hpr_17⟩ := mOne_inE hT_17 (by assumption) (by assumption)
    refine J_goto (tgt := 75) 20 dX6_wantClause_20 (by decide) ?_
    have hN_ : mCl tf tm ((bg, en, mso, wd, va, gd), (la, ns, to, he, sw, nh, ki, te, mi, ar)) = ((bg_17, en_17, so_17, wd_17, va_17, gd_17), la, ns, to, he, sw, nh_17, ki_17, te_17, mi_17, ar_17) := by unfold mCl; (try dsimp only); rw [cif_t (Int32.not_lt.mp (by assumption)), hT_17]
    exact J_vret 75 dX6_wantClause_75 rfl (cg16 (fun (x0_ : Int32) (x1_ : Nat) (x2_ : Nat) (x3_ : Int64) (x4_ : Int32) (x5_ : Int32) (x6_ : Nat → Int32) (x7_ : Nat) (x8_ : Nat → Int32) (x9_ : Nat → Int32) (x10_ : Nat → Int32) (x11_ : Nat) (x12_ : Nat → Int32) (x13_ : Nat → Int32) (x14_ : Nat → Int32) (x15_ : Nat → Int32) => (wF [wMo o rw fr kp tr ik tp tm x0_ x1_ x2_ x3_ x4_ x5_ rs mu rm ss msz msh mho mhn mhz kd nb tn tc bo ip, wI G tp 200 tf, wMr G fr x6_ x7_ sd x8_ x9_ x10_ x11_ x12_ x13_ x14_ x15_ z])) so_17 ((mCl tf tm ((bg, en, mso, wd, va, gd), (la, ns, to, he, sw, nh, ki, te, mi, ar))).1.2.2.1) bg_17 ((mCl tf tm ((bg, en, mso, wd, va, gd), (la, ns, to, he, sw, nh, ki, te, mi, ar))).1.1) en_17 ((mCl tf tm ((bg, en, mso, wd, va, gd), (la, ns, to, he, sw, nh, ki, te, mi, ar))).1.2.1) wd_17 ((mCl tf tm ((bg, en, mso, wd, va, gd), (la, ns, to, he, sw, nh, ki, te, mi, ar))).1.2.2.2.1) va_17 ((mCl tf tm ((bg, en, mso, wd, va, gd), (la, ns, to, he, sw, nh, ki, te, mi, ar))).1.2.2.2.2.1) gd_17 ((mCl tf tm ((bg, en, mso, wd, va, gd), (la, ns, to, he, sw, nh, ki, te, mi, ar))).1.2.2.2.2.2) la ((mCl tf tm ((bg, en, mso, wd, va, gd), (la, ns, to, he, sw, nh, ki, te, mi, ar))).2.1) ns ((mCl tf tm ((bg, en, mso, wd, va, gd), (la, ns, to, he, sw, nh, ki, te, mi, ar))).2.2.1) to ((mCl tf tm ((bg, en, mso, wd, va, gd), (la, ns, to, he, sw, nh, ki, te, mi, ar))).2.2.2.1) he ((mCl tf tm ((bg, en, mso, wd, va, gd), (la, ns, to, he, sw, nh, ki, te, mi, ar))).2.2.2.2.1) sw ((mCl tf tm ((bg, en, mso, wd, va, gd), (la, ns, to, he, sw, nh, ki, te, mi, ar))).2.2.2.2.2.1) nh_17 ((mCl tf tm ((bg, en, mso, wd, va, gd), (la, ns, to, he, sw, nh, ki, te, mi, ar))).2.2.2.2.2.2.1) ki_17 ((mCl tf tm ((bg, en, mso, wd, va, gd), (la, ns, to, he, sw, nh, ki, te, mi, ar))).2.2.2.2.2.2.2.1) te_17 ((mCl tf tm ((bg, en, mso, wd, va, gd), (la, ns, to, he, sw, nh, ki, te, mi, ar))).2.2.2.2.2.2.2.2.1) mi_17 ((mCl tf tm ((bg, en, mso, wd, va, gd), (la, ns, to, he, sw, nh, ki, te, mi, ar))).2.2.2.2.2.2.2.2.2.1) ar_17 ((mCl tf tm ((bg, en, mso, wd, va, gd), (la, ns, to, he, sw, nh, ki, te, mi, ar))).2.2.2.2.2.2.2.2.2.2) (by rw [hN_]) (by rw [hN_]) (by rw [hN_]) (by rw [hN_]) (by rw [hN_]) (by rw [hN_]) (by rw [hN_]) (by rw [hN_]) (by rw [hN_]) (by rw [hN_]) (by rw [hN_]) (by rw [hN_]) (by rw [hN_]) (by rw [hN_]) (by rw [hN_]) (by rw [hN_]))
set_option maxRecDepth 100000 in
set_option maxHeartbeats 4000000 in
theorem c_X6_court_bad (l : Launch) (G : Gd) (o : Nat) (rw : Nat) (fr : Nat) (kp : Nat) (tr : Nat) (ik : Int32) (tp : Nat) (tm : Nat) (mso : Int32) (bg : Nat) (en : Nat) (wd : Int64) (va : Int32) (gd : Int32) (rs : Nat) (mu : Nat) (rm : Nat) (ss : Nat) (msz : Nat) (msh : Nat) (mho : Nat) (mhn : Nat) (mhz : Nat) (kd : Int32) (nb : Int32) (tn : Int32) (tc : Nat) (bo : Nat) (ip : Int32) (tf : Nat → Int32) (f_la : Nat → Int32) (f_ns : Nat) (f_sd : Nat) (f_to : Nat → Int32) (f_he : Nat → Int32) (f_sw : Nat → Int32) (f_nh : Nat) (f_ki : Nat → Int32) (f_te : Nat → Int32) (f_mi : Nat → Int32) (f_ar : Nat → Int32) (f_z : Int32) (la : Nat → Int32) (ns : Nat) (sd : Nat) (to : Nat → Int32) (he : Nat → Int32) (sw : Nat → Int32) (nh : Nat) (ki : Nat → Int32) (te : Nat → Int32) (mi : Nat → Int32) (ar : Nat → Int32) (z : Int32) (htm : tm ≤ 200) (hbf : ∀ j_, j_ < tm → 0 ≤ tf j_) (hg : (mAll tf tm 201 (mUp tf tm 0 1, (svI [2, 3, 1, 20], 0, zF, zF, zF, 0, zF, zF, zF, zF))).1.2.2.2.2.2 = 0) : CtP l G yX6_court cX6_court 1 (some (FieldType.int)) 6 [.ref o] (wF [wMo o rw fr kp tr ik tp tm mso bg en wd va gd rs mu rm ss msz msh mho mhn mhz kd nb tn tc bo ip, wI G tp 200 tf, wMr G fr f_la f_ns f_sd f_to f_he f_sw f_nh f_ki f_te f_mi f_ar f_z, wMr G rw la ns sd to he sw nh ki te mi ar z]) (some (.int (-100 - nI (mAll tf tm 201 (mUp tf tm 0 1, (svI [2, 3, 1, 20], 0, zF, zF, zF, 0, zF, zF, zF, zF))).1.1))) (fun w_ => ∃ (j_0_bg : Nat) (j_0_te : Nat) (j_0_so : Int32) (j_0_wd : Int64) (j_0_va : Int32) (j_0_gd : Int32) (j_2_la : Nat → Int32) (j_2_ns : Nat) (j_2_sd : Nat) (j_2_to : Nat → Int32) (j_2_he : Nat → Int32) (j_2_sw : Nat → Int32) (j_2_nh : Nat) (j_2_ki : Nat → Int32) (j_2_te : Nat → Int32) (j_2_mi : Nat → Int32) (j_2_ar : Nat → Int32) (j_2_z : Int32), w_ = (wF [wMo o rw fr kp tr ik tp 0 j_0_so j_0_bg j_0_te j_0_wd j_0_va j_0_gd rs mu rm ss msz msh mho mhn mhz kd nb tn tc bo ip, wI G tp 200 tf, wMr G fr j_2_la j_2_ns j_2_sd j_2_to j_2_he j_2_sw j_2_nh j_2_ki j_2_te j_2_mi j_2_ar j_2_z, wMr G rw la ns sd to he sw nh ki te mi ar z])) := by
  refine CtP.of "GooseArmsModel" [some (.ref o)] (by decide +kernel) rfl (Nat.le_of_ble_eq_true rfl) rfl ?_
  have cut_21_ : ∀ (n_21_ : Nat) (bg1 : Nat) (en1 : Nat) (so1 : Int32) (wd1 : Int64) (va1 : Int32) (gd1 : Int32) (la1 : Nat → Int32) (ns1 : Nat) (to1 : Nat → Int32) (he1 : Nat → Int32) (sw1 : Nat → Int32) (nh1 : Nat) (ki1 : Nat → Int32) (te1 : Nat → Int32) (mi1 : Nat → Int32) (ar1 : Nat → Int32) (nf : Nat), (nf < n_21_) → (hin1 : mIn tm (bg1, en1, so1, wd1, va1, gd1)) → (hns1 : ns1 ≤ 12) → (hnh1 : nh1 ≤ 8) → (hnf : gd1 = 0 ∨ tm + 1 ≤ bg1 + nf) → (hall : mAll tf tm 201 (mUp tf tm 0 1, (svI [2, 3, 1, 20], 0, zF, zF, zF, 0, zF, zF, zF, zF)) = mAll tf tm nf ((bg1, en1, so1, wd1, va1, gd1), (la1, ns1, to1, he1, sw1, nh1, ki1, te1, mi1, ar1))) → J l G (bdP G 6 (some (FieldType.int)) (some (.int (-100 - nI (mAll tf tm 201 (mUp tf tm 0 1, (svI [2, 3, 1, 20], 0, zF, zF, zF, 0, zF, zF, zF, zF))).1.1))) (fun w_ => ∃ (j_0_bg : Nat) (j_0_te : Nat) (j_0_so : Int32) (j_0_wd : Int64) (j_0_va : Int32) (j_0_gd : Int32) (j_2_la : Nat → Int32) (j_2_ns : Nat) (j_2_sd : Nat) (j_2_to : Nat → Int32) (j_2_he : Nat → Int32) (j_2_sw : Nat → Int32) (j_2_nh : Nat) (j_2_ki : Nat → Int32) (j_2_te : Nat → Int32) (j_2_mi : Nat → Int32) (j_2_ar : Nat → Int32) (j_2_z : Int32), w_ = (wF [wMo o rw fr kp tr ik tp 0 j_0_so j_0_bg j_0_te j_0_wd j_0_va j_0_gd rs mu rm ss msz msh mho mhn mhz kd nb tn tc bo ip, wI G tp 200 tf, wMr G fr j_2_la j_2_ns j_2_sd j_2_to j_2_he j_2_sw j_2_nh j_2_ki j_2_te j_2_mi j_2_ar j_2_z, wMr G rw la ns sd to he sw nh ki te mi ar z]))) cX6_court 1 "GooseArmsModel" 21 [some (.ref o)] [] (wF [wMo o rw fr kp tr ik tp tm so1 bg1 en1 wd1 va1 gd1 rs mu rm ss msz msh mho mhn mhz kd nb tn tc bo ip, wI G tp 200 tf, wMr G fr la1 ns1 0 to1 he1 sw1 nh1 ki1 te1 mi1 ar1 0, wMr G rw la ns sd to he sw nh ki te mi ar z]) := by
    intro n_21_
    induction n_21_ with
    | zero => intro bg1 en1 so1 wd1 va1 gd1 la1 ns1 to1 he1 sw1 nh1 ki1 te1 mi1 ar1 nf m_21_; exact absurd m_21_ (Nat.not_lt_zero _)
    | succ n_21_ ih_21_ =>
      intro bg1 en1 so1 wd1 va1 gd1 la1 ns1 to1 he1 sw1 nh1 ki1 te1 mi1 ar1 nf m_21_ hin1 hns1 hnh1 hnf hall
      refine J_aload_n 21 0 dX6_court_21 rfl rfl ?_
      refine g_801 (v := .int gd1) 22 0 rfl rfl dX6_court_22 ?_
      refine J_if_eq (tgt := 42) 25 dX6_court_25 (by decide) (fun c_1_ => ?_) (fun c_1_ => ?_)
      · skip
        refine J_aload_n 42 0 dX6_court_42 rfl rfl ?_
        refine J_iconst (v := 0) 43 dX6_court_43 rfl ?_
        refine p_795 (ws' := (wF [wMo o rw fr kp tr ik tp 0 so1 bg1 en1 wd1 va1 gd1 rs mu rm ss msz msh mho mhn mhz kd nb tn tc bo ip, wI G tp 200 tf, wMr G fr la1 ns1 0 to1 he1 sw1 nh1 ki1 te1 mi1 ar1 0, wMr G rw la ns sd to he sw nh ki te mi ar z])) 44 0 rfl rfl rfl (Nat.le_of_ble_eq_true rfl) rfl dX6_court_44 ?_
        refine J_aload_n 47 0 dX6_court_47 rfl rfl ?_
        refine g_801 (v := .int gd1) 48 0 rfl rfl dX6_court_48 ?_
        refine J_if_ne (tgt := 62) 51 dX6_court_51 (by decide) (fun c_2_ => ?_) (fun c_2_ => ?_)
        · skip
          have hN_ : mAll tf tm 201 (mUp tf tm 0 1, (svI [2, 3, 1, 20], 0, zF, zF, zF, 0, zF, zF, zF, zF)) = ((bg1, en1, so1, wd1, va1, gd1), (la1, ns1, to1, he1, sw1, nh1, ki1, te1, mi1, ar1)) := hall.trans (mAll_d (by first | exact Or.inl (by assumption) | exact Or.inr (by assumption)))
          rw [hN_] at hg
          exact absurd hg c_2_
        · skip
          refine J_bipush (v := (-100)) 54 dX6_court_54 rfl ?_
          refine J_aload_n 56 0 dX6_court_56 rfl rfl ?_
          refine g_797 (v := .int (nI bg1)) 57 0 rfl rfl dX6_court_57 ?_
          refine J_isub 60 dX6_court_60 ?_
          have hN_ : mAll tf tm 201 (mUp tf tm 0 1, (svI [2, 3, 1, 20], 0, zF, zF, zF, 0, zF, zF, zF, zF)) = ((bg1, en1, so1, wd1, va1, gd1), (la1, ns1, to1, he1, sw1, nh1, ki1, te1, mi1, ar1)) := hall.trans (mAll_d (by first | exact Or.inl (by assumption) | exact Or.inr (by assumption)))
          exact J_iretP 61 dX6_court_61 (congrArg (fun x_ => some (Value.int x_)) (by rw [hN_])) ⟨bg1, en1, so1, wd1, va1, gd1, la1, ns1, 0, to1, he1, sw1, nh1, ki1, te1, mi1, ar1, 0, rfl⟩
      · skip
        refine J_aload_n 28 0 dX6_court_28 rfl rfl ?_
        refine g_796 (v := .int so1) 29 0 rfl rfl dX6_court_29 ?_
        refine J_if_eq (tgt := 42) 32 dX6_court_32 (by decide) (fun c_3_ => ?_) (fun c_3_ => ?_)
        · skip
          refine J_aload_n 42 0 dX6_court_42 rfl rfl ?_
          refine J_iconst (v := 0) 43 dX6_court_43 rfl ?_
          refine p_795 (ws' := (wF [wMo o rw fr kp tr ik tp 0 so1 bg1 en1 wd1 va1 gd1 rs mu rm ss msz msh mho mhn mhz kd nb tn tc bo ip, wI G tp 200 tf, wMr G fr la1 ns1 0 to1 he1 sw1 nh1 ki1 te1 mi1 ar1 0, wMr G rw la ns sd to he sw nh ki te mi ar z])) 44 0 rfl rfl rfl (Nat.le_of_ble_eq_true rfl) rfl dX6_court_44 ?_
          refine J_aload_n 47 0 dX6_court_47 rfl rfl ?_
          refine g_801 (v := .int gd1) 48 0 rfl rfl dX6_court_48 ?_
          refine J_if_ne (tgt := 62) 51 dX6_court_51 (by decide) (fun c_4_ => ?_) (fun c_4_ => ?_)
          · skip
            have hN_ : mAll tf tm 201 (mUp tf tm 0 1, (svI [2, 3, 1, 20], 0, zF, zF, zF, 0, zF, zF, zF, zF)) = ((bg1, en1, so1, wd1, va1, gd1), (la1, ns1, to1, he1, sw1, nh1, ki1, te1, mi1, ar1)) := hall.trans (mAll_d (by first | exact Or.inl (by assumption) | exact Or.inr (by assumption)))
            rw [hN_] at hg
            exact absurd hg c_4_
          · skip
            refine J_bipush (v := (-100)) 54 dX6_court_54 rfl ?_
            refine J_aload_n 56 0 dX6_court_56 rfl rfl ?_
            refine g_797 (v := .int (nI bg1)) 57 0 rfl rfl dX6_court_57 ?_
            refine J_isub 60 dX6_court_60 ?_
            have hN_ : mAll tf tm 201 (mUp tf tm 0 1, (svI [2, 3, 1, 20], 0, zF, zF, zF, 0, zF, zF, zF, zF)) = ((bg1, en1, so1, wd1, va1, gd1), (la1, ns1, to1, he1, sw1, nh1, ki1, te1, mi1, ar1)) := hall.trans (mAll_d (by first | exact Or.inl (by assumption) | exact Or.inr (by assumption)))
            exact J_iretP 61 dX6_court_61 (congrArg (fun x_ => some (Value.int x_)) (by rw [hN_])) ⟨bg1, en1, so1, wd1, va1, gd1, la1, ns1, 0, to1, he1, sw1, nh1, ki1, te1, mi1, ar1, 0, rfl⟩
        · skip
          have hlt_ : bg1 < en1 := hin1.2 c_3_
          have hle_ : en1 ≤ tm := hin1.1.2
          have hnf2_ := hnf.resolve_left (by assumption)
          refine J_aload_n 35 0 dX6_court_35 rfl rfl ?_
          refine kb_RX6_170 (bs' := [wMo o rw fr kp tr ik tp tm ((mCl tf tm ((bg1, en1, so1, wd1, va1, gd1), (la1, ns1, to1, he1, sw1, nh1, ki1, te1, mi1, ar1))).1.2.2.1) ((mCl tf tm ((bg1, en1, so1, wd1, va1, gd1), (la1, ns1, to1, he1, sw1, nh1, ki1, te1, mi1, ar1))).1.1) ((mCl tf tm ((bg1, en1, so1, wd1, va1, gd1), (la1, ns1, to1, he1, sw1, nh1, ki1, te1, mi1, ar1))).1.2.1) ((mCl tf tm ((bg1, en1, so1, wd1, va1, gd1), (la1, ns1, to1, he1, sw1, nh1, ki1, te1, mi1, ar1))).1.2.2.2.1) ((mCl tf tm ((bg1, en1, so1, wd1, va1, gd1), (la1, ns1, to1, he1, sw1, nh1, ki1, te1, mi1, ar1))).1.2.2.2.2.1) ((mCl tf tm ((bg1, en1, so1, wd1, va1, gd1), (la1, ns1, to1, he1, sw1, nh1, ki1, te1, mi1, ar1))).1.2.2.2.2.2) rs mu rm ss msz msh mho mhn mhz kd nb tn tc bo ip, wI G tp 200 tf, wMr G fr ((mCl tf tm ((bg1, en1, so1, wd1, va1, gd1), (la1, ns1, to1, he1, sw1, nh1, ki1, te1, mi1, ar1))).2.1) ((mCl tf tm ((bg1, en1, so1, wd1, va1, gd1), (la1, ns1, to1, he1, sw1, nh1, ki1, te1, mi1, ar1))).2.2.1) 0 ((mCl tf tm ((bg1, en1, so1, wd1, va1, gd1), (la1, ns1, to1, he1, sw1, nh1, ki1, te1, mi1, ar1))).2.2.2.1) ((mCl tf tm ((bg1, en1, so1, wd1, va1, gd1), (la1, ns1, to1, he1, sw1, nh1, ki1, te1, mi1, ar1))).2.2.2.2.1) ((mCl tf tm ((bg1, en1, so1, wd1, va1, gd1), (la1, ns1, to1, he1, sw1, nh1, ki1, te1, mi1, ar1))).2.2.2.2.2.1) ((mCl tf tm ((bg1, en1, so1, wd1, va1, gd1), (la1, ns1, to1, he1, sw1, nh1, ki1, te1, mi1, ar1))).2.2.2.2.2.2.1) ((mCl tf tm ((bg1, en1, so1, wd1, va1, gd1), (la1, ns1, to1, he1, sw1, nh1, ki1, te1, mi1, ar1))).2.2.2.2.2.2.2.1) ((mCl tf tm ((bg1, en1, so1, wd1, va1, gd1), (la1, ns1, to1, he1, sw1, nh1, ki1, te1, mi1, ar1))).2.2.2.2.2.2.2.2.1) ((mCl tf tm ((bg1, en1, so1, wd1, va1, gd1), (la1, ns1, to1, he1, sw1, nh1, ki1, te1, mi1, ar1))).2.2.2.2.2.2.2.2.2.1) ((mCl tf tm ((bg1, en1, so1, wd1, va1, gd1), (la1, ns1, to1, he1, sw1, nh1, ki1, te1, mi1, ar1))).2.2.2.2.2.2.2.2.2.2) 0, wMr G rw la ns sd to he sw nh ki te mi ar z]) (rest := []) (st' := []) 36 (c_X6_wantClause l G o rw fr kp tr ik tp tm so1 bg1 en1 wd1 va1 gd1 rs mu rm ss msz msh mho mhn mhz kd nb tn tc bo ip tf la1 ns1 0 to1 he1 sw1 nh1 ki1 te1 mi1 ar1 0 hin1 htm hbf hns1 hnh1) [0, 1, 2] 0 rfl rfl rfl [[o], [tp], [fr]] rfl rfl rfl rfl rfl rfl (Nat.le_of_ble_eq_true rfl) rfl dX6_court_36 ?_
          obtain ⟨⟨⟨bg_36, en_36, so_36, wd_36, va_36, gd_36⟩, la_36, ns_36, to_36, he_36, sw_36, nh_36, ki_36, te_36, mi_36, ar_36⟩, hT_36⟩ : ∃ t_, mCl tf tm ((bg1, en1, so1, wd1, va1, gd1), (la1, ns1, to1, he1, sw1, nh1, ki1, te1, mi1, ar1)) = t_ := ⟨_, rfl⟩
          refine J_ws (ws' := (wF [wMo o rw fr kp tr ik tp tm so_36 bg_36 en_36 wd_36 va_36 gd_36 rs mu rm ss msz msh mho mhn mhz kd nb tn tc bo ip, wI G tp 200 tf, wMr G fr la_36 ns_36 0 to_36 he_36 sw_36 nh_36 ki_36 te_36 mi_36 ar_36 0, wMr G rw la ns sd to he sw nh ki te mi ar z])) 39 (by rw [hT_36]) ?_
          obtain ⟨hin_36, hbe_36, hns_36, hnh_36, hpr_36⟩ := mCl_inE hT_36 (by assumption) (by assumption) (by assumption)
          refine J_goto (tgt := 21) 39 dX6_court_39 (by decide) ?_
          exact ih_21_ bg_36 en_36 so_36 wd_36 va_36 gd_36 la_36 ns_36 to_36 he_36 sw_36 nh_36 ki_36 te_36 mi_36 ar_36 (nf - 1) (by omega) (by first | exact hin_36 | exact mAdv_inE hT_18 (Nat.zero_le _)) (by first | exact hns_36 | exact Nat.zero_le _) (by first | exact hnh_36 | exact Nat.zero_le _) (by first | exact Or.inr (by omega) | exact (Classical.em (gd_36 = 0)).imp id (fun z_ => by have y_ : en1 ≤ bg_36 := hpr_36 z_; omega)) (by first | rw [mUp_e hT_18] | (rw [hall, mAll_s (by assumption) (by assumption) (by omega), hT_36]))
  refine J_aload_n 0 0 dX6_court_0 rfl rfl ?_
  refine J_iconst (v := 0) 1 dX6_court_1 rfl ?_
  refine p_798 (ws' := (wF [wMo o rw fr kp tr ik tp tm mso bg 0 wd va gd rs mu rm ss msz msh mho mhn mhz kd nb tn tc bo ip, wI G tp 200 tf, wMr G fr f_la f_ns f_sd f_to f_he f_sw f_nh f_ki f_te f_mi f_ar f_z, wMr G rw la ns sd to he sw nh ki te mi ar z])) 2 0 rfl rfl rfl (Nat.le_of_ble_eq_true rfl) rfl dX6_court_2 ?_
  refine J_aload_n 5 0 dX6_court_5 rfl rfl ?_
  refine J_iconst (v := 1) 6 dX6_court_6 rfl ?_
  refine p_801 (ws' := (wF [wMo o rw fr kp tr ik tp tm mso bg 0 wd va 1 rs mu rm ss msz msh mho mhn mhz kd nb tn tc bo ip, wI G tp 200 tf, wMr G fr f_la f_ns f_sd f_to f_he f_sw f_nh f_ki f_te f_mi f_ar f_z, wMr G rw la ns sd to he sw nh ki te mi ar z])) 7 0 rfl rfl rfl (Nat.le_of_ble_eq_true rfl) rfl dX6_court_7 ?_
  refine J_aload_n 10 0 dX6_court_10 rfl rfl ?_
  refine g_790 (v := .ref fr) 11 0 rfl rfl dX6_court_11 ?_
  refine kb_RX6_53 (bs' := [wMo o rw fr kp tr ik tp tm mso bg 0 wd va 1 rs mu rm ss msz msh mho mhn mhz kd nb tn tc bo ip, wI G tp 200 tf, wMr G fr (svI [2, 3, 1, 20]) 0 0 zF zF zF 0 zF zF zF zF 0, wMr G rw la ns sd to he sw nh ki te mi ar z]) (rest := []) (st' := []) 14 (c_X6_begins_r l G fr f_la f_ns f_sd f_to f_he f_sw f_nh f_ki f_te f_mi f_ar f_z ) [2] rfl rfl [[fr]] rfl rfl rfl rfl rfl rfl (Nat.le_of_ble_eq_true rfl) rfl dX6_court_14 ?_
  refine J_aload_n 17 0 dX6_court_17 rfl rfl ?_
  refine kb_RX6_127 (bs' := [wMo o rw fr kp tr ik tp tm ((mAdv tf tm 0).2.2.1) ((mAdv tf tm 0).1) ((mAdv tf tm 0).2.1) ((mAdv tf tm 0).2.2.2.1) ((mAdv tf tm 0).2.2.2.2) 1 rs mu rm ss msz msh mho mhn mhz kd nb tn tc bo ip, wI G tp 200 tf, wMr G fr (svI [2, 3, 1, 20]) 0 0 zF zF zF 0 zF zF zF zF 0, wMr G rw la ns sd to he sw nh ki te mi ar z]) (rest := []) (st' := []) 18 (c_X6_advance l G o rw fr kp tr ik tp tm mso bg 0 wd va 1 rs mu rm ss msz msh mho mhn mhz kd nb tn tc bo ip tf (Nat.zero_le _) htm hbf) [0, 1] 0 rfl rfl rfl [[o], [tp]] rfl rfl rfl rfl rfl rfl (Nat.le_of_ble_eq_true rfl) rfl dX6_court_18 ?_
  obtain ⟨⟨bg_18, en_18, so_18, wd_18, va_18⟩, hT_18⟩ : ∃ t_, mAdv tf tm 0 = t_ := ⟨_, rfl⟩
  refine J_ws (ws' := (wF [wMo o rw fr kp tr ik tp tm so_18 bg_18 en_18 wd_18 va_18 1 rs mu rm ss msz msh mho mhn mhz kd nb tn tc bo ip, wI G tp 200 tf, wMr G fr (svI [2, 3, 1, 20]) 0 0 zF zF zF 0 zF zF zF zF 0, wMr G rw la ns sd to he sw nh ki te mi ar z])) 21 (by rw [hT_18]) ?_
  have hin_18 := fun g_ => mAdv_inE (gq := g_) hT_18 (by first | exact hin.1.2 | omega)
  exact cut_21_ (201 + 1) bg_18 en_18 so_18 wd_18 va_18 1 (svI [2, 3, 1, 20]) 0 zF zF zF 0 zF zF zF zF 201 (Nat.lt_succ_self _) (by first | exact hin_36 | exact mAdv_inE hT_18 (Nat.zero_le _)) (by first | exact hns_36 | exact Nat.zero_le _) (by first | exact hnh_36 | exact Nat.zero_le _) (by first | exact Or.inr (by omega) | exact (Classical.em (gd_36 = 0)).imp id (fun z_ => by have y_ : en1 ≤ bg_36 := hpr_36 z_; omega)) (by first | rw [mUp_e hT_18] | (rw [hall, mAll_s (by assumption) (by assumption) (by omega), hT_36]))
set_option maxRecDepth 100000 in
set_option maxHeartbeats 4000000 in
theorem c_X6_court_ok (l : Launch) (G : Gd) (o : Nat) (rw : Nat) (fr : Nat) (kp : Nat) (tr : Nat) (ik : Int32) (tp : Nat) (tm : Nat) (mso : Int32) (bg : Nat) (en : Nat) (wd : Int64) (va : Int32) (gd : Int32) (rs : Nat) (mu : Nat) (rm : Nat) (ss : Nat) (msz : Nat) (msh : Nat) (mho : Nat) (mhn : Nat) (mhz : Nat) (kd : Int32) (nb : Int32) (tn : Int32) (tc : Nat) (bo : Nat) (ip : Int32) (tf : Nat → Int32) (f_la : Nat → Int32) (f_ns : Nat) (f_sd : Nat) (f_to : Nat → Int32) (f_he : Nat → Int32) (f_sw : Nat → Int32) (f_nh : Nat) (f_ki : Nat → Int32) (f_te : Nat → Int32) (f_mi : Nat → Int32) (f_ar : Nat → Int32) (f_z : Int32) (la : Nat → Int32) (ns : Nat) (sd : Nat) (to : Nat → Int32) (he : Nat → Int32) (sw : Nat → Int32) (nh : Nat) (ki : Nat → Int32) (te : Nat → Int32) (mi : Nat → Int32) (ar : Nat → Int32) (z : Int32) (htm : tm ≤ 200) (hbf : ∀ j_, j_ < tm → 0 ≤ tf j_) (hg : ¬ (mAll tf tm 201 (mUp tf tm 0 1, (svI [2, 3, 1, 20], 0, zF, zF, zF, 0, zF, zF, zF, zF))).1.2.2.2.2.2 = 0) : CtP l G yX6_court cX6_court 1 (some (FieldType.int)) 6 [.ref o] (wF [wMo o rw fr kp tr ik tp tm mso bg en wd va gd rs mu rm ss msz msh mho mhn mhz kd nb tn tc bo ip, wI G tp 200 tf, wMr G fr f_la f_ns f_sd f_to f_he f_sw f_nh f_ki f_te f_mi f_ar f_z, wMr G rw la ns sd to he sw nh ki te mi ar z]) (some (.int (nI ((mAll tf tm 201 (mUp tf tm 0 1, (svI [2, 3, 1, 20], 0, zF, zF, zF, 0, zF, zF, zF, zF))).2.2.2.2.2.2.1)))) (fun w_ => ∃ (j_0_bg : Nat) (j_0_te : Nat) (j_0_so : Int32) (j_0_wd : Int64) (j_0_va : Int32) (j_0_gd : Int32) (j_2_la : Nat → Int32) (j_2_ns : Nat) (j_2_sd : Nat) (j_2_to : Nat → Int32) (j_2_he : Nat → Int32) (j_2_sw : Nat → Int32) (j_2_nh : Nat) (j_2_ki : Nat → Int32) (j_2_te : Nat → Int32) (j_2_mi : Nat → Int32) (j_2_ar : Nat → Int32) (j_2_z : Int32), w_ = (wF [wMo o rw fr kp tr ik tp 0 j_0_so j_0_bg j_0_te j_0_wd j_0_va j_0_gd rs mu 0 ss msz msh mho mhn mhz kd nb tn tc bo ip, wI G tp 200 tf, wMr G fr j_2_la j_2_ns j_2_sd j_2_to j_2_he j_2_sw j_2_nh j_2_ki j_2_te j_2_mi j_2_ar j_2_z, wMr G rw ((mAll tf tm 201 (mUp tf tm 0 1, (svI [2, 3, 1, 20], 0, zF, zF, zF, 0, zF, zF, zF, zF))).2.1) ((mAll tf tm 201 (mUp tf tm 0 1, (svI [2, 3, 1, 20], 0, zF, zF, zF, 0, zF, zF, zF, zF))).2.2.1) 0 ((mAll tf tm 201 (mUp tf tm 0 1, (svI [2, 3, 1, 20], 0, zF, zF, zF, 0, zF, zF, zF, zF))).2.2.2.1) ((mAll tf tm 201 (mUp tf tm 0 1, (svI [2, 3, 1, 20], 0, zF, zF, zF, 0, zF, zF, zF, zF))).2.2.2.2.1) ((mAll tf tm 201 (mUp tf tm 0 1, (svI [2, 3, 1, 20], 0, zF, zF, zF, 0, zF, zF, zF, zF))).2.2.2.2.2.1) ((mAll tf tm 201 (mUp tf tm 0 1, (svI [2, 3, 1, 20], 0, zF, zF, zF, 0, zF, zF, zF, zF))).2.2.2.2.2.2.1) ((mAll tf tm 201 (mUp tf tm 0 1, (svI [2, 3, 1, 20], 0, zF, zF, zF, 0, zF, zF, zF, zF))).2.2.2.2.2.2.2.1) ((mAll tf tm 201 (mUp tf tm 0 1, (svI [2, 3, 1, 20], 0, zF, zF, zF, 0, zF, zF, zF, zF))).2.2.2.2.2.2.2.2.1) ((mAll tf tm 201 (mUp tf tm 0 1, (svI [2, 3, 1, 20], 0, zF, zF, zF, 0, zF, zF, zF, zF))).2.2.2.2.2.2.2.2.2.1) ((mAll tf tm 201 (mUp tf tm 0 1, (svI [2, 3, 1, 20], 0, zF, zF, zF, 0, zF, zF, zF, zF))).2.2.2.2.2.2.2.2.2.2) z])) := by
  refine CtP.of "GooseArmsModel" [some (.ref o)] (by decide +kernel) rfl (Nat.le_of_ble_eq_true rfl) rfl ?_
  have cut_21_ : ∀ (n_21_ : Nat) (bg1 : Nat) (en1 : Nat) (so1 : Int32) (wd1 : Int64) (va1 : Int32) (gd1 : Int32) (la1 : Nat → Int32) (ns1 : Nat) (to1 : Nat → Int32) (he1 : Nat → Int32) (sw1 : Nat → Int32) (nh1 : Nat) (ki1 : Nat → Int32) (te1 : Nat → Int32) (mi1 : Nat → Int32) (ar1 : Nat → Int32) (nf : Nat), (nf < n_21_) → (hin1 : mIn tm (bg1, en1, so1, wd1, va1, gd1)) → (hns1 : ns1 ≤ 12) → (hnh1 : nh1 ≤ 8) → (hnf : gd1 = 0 ∨ tm + 1 ≤ bg1 + nf) → (hall : mAll tf tm 201 (mUp tf tm 0 1, (svI [2, 3, 1, 20], 0, zF, zF, zF, 0, zF, zF, zF, zF)) = mAll tf tm nf ((bg1, en1, so1, wd1, va1, gd1), (la1, ns1, to1, he1, sw1, nh1, ki1, te1, mi1, ar1))) → J l G (bdP G 6 (some (FieldType.int)) (some (.int (nI ((mAll tf tm 201 (mUp tf tm 0 1, (svI [2, 3, 1, 20], 0, zF, zF, zF, 0, zF, zF, zF, zF))).2.2.2.2.2.2.1)))) (fun w_ => ∃ (j_0_bg : Nat) (j_0_te : Nat) (j_0_so : Int32) (j_0_wd : Int64) (j_0_va : Int32) (j_0_gd : Int32) (j_2_la : Nat → Int32) (j_2_ns : Nat) (j_2_sd : Nat) (j_2_to : Nat → Int32) (j_2_he : Nat → Int32) (j_2_sw : Nat → Int32) (j_2_nh : Nat) (j_2_ki : Nat → Int32) (j_2_te : Nat → Int32) (j_2_mi : Nat → Int32) (j_2_ar : Nat → Int32) (j_2_z : Int32), w_ = (wF [wMo o rw fr kp tr ik tp 0 j_0_so j_0_bg j_0_te j_0_wd j_0_va j_0_gd rs mu 0 ss msz msh mho mhn mhz kd nb tn tc bo ip, wI G tp 200 tf, wMr G fr j_2_la j_2_ns j_2_sd j_2_to j_2_he j_2_sw j_2_nh j_2_ki j_2_te j_2_mi j_2_ar j_2_z, wMr G rw ((mAll tf tm 201 (mUp tf tm 0 1, (svI [2, 3, 1, 20], 0, zF, zF, zF, 0, zF, zF, zF, zF))).2.1) ((mAll tf tm 201 (mUp tf tm 0 1, (svI [2, 3, 1, 20], 0, zF, zF, zF, 0, zF, zF, zF, zF))).2.2.1) 0 ((mAll tf tm 201 (mUp tf tm 0 1, (svI [2, 3, 1, 20], 0, zF, zF, zF, 0, zF, zF, zF, zF))).2.2.2.1) ((mAll tf tm 201 (mUp tf tm 0 1, (svI [2, 3, 1, 20], 0, zF, zF, zF, 0, zF, zF, zF, zF))).2.2.2.2.1) ((mAll tf tm 201 (mUp tf tm 0 1, (svI [2, 3, 1, 20], 0, zF, zF, zF, 0, zF, zF, zF, zF))).2.2.2.2.2.1) ((mAll tf tm 201 (mUp tf tm 0 1, (svI [2, 3, 1, 20], 0, zF, zF, zF, 0, zF, zF, zF, zF))).2.2.2.2.2.2.1) ((mAll tf tm 201 (mUp tf tm 0 1, (svI [2, 3, 1, 20], 0, zF, zF, zF, 0, zF, zF, zF, zF))).2.2.2.2.2.2.2.1) ((mAll tf tm 201 (mUp tf tm 0 1, (svI [2, 3, 1, 20], 0, zF, zF, zF, 0, zF, zF, zF, zF))).2.2.2.2.2.2.2.2.1) ((mAll tf tm 201 (mUp tf tm 0 1, (svI [2, 3, 1, 20], 0, zF, zF, zF, 0, zF, zF, zF, zF))).2.2.2.2.2.2.2.2.2.1) ((mAll tf tm 201 (mUp tf tm 0 1, (svI [2, 3, 1, 20], 0, zF, zF, zF, 0, zF, zF, zF, zF))).2.2.2.2.2.2.2.2.2.2) z]))) cX6_court 1 "GooseArmsModel" 21 [some (.ref o)] [] (wF [wMo o rw fr kp tr ik tp tm so1 bg1 en1 wd1 va1 gd1 rs mu rm ss msz msh mho mhn mhz kd nb tn tc bo ip, wI G tp 200 tf, wMr G fr la1 ns1 0 to1 he1 sw1 nh1 ki1 te1 mi1 ar1 0, wMr G rw la ns sd to he sw nh ki te mi ar z]) := by
    intro n_21_
    induction n_21_ with
    | zero => intro bg1 en1 so1 wd1 va1 gd1 la1 ns1 to1 he1 sw1 nh1 ki1 te1 mi1 ar1 nf m_21_; exact absurd m_21_ (Nat.not_lt_zero _)
    | succ n_21_ ih_21_ =>
      intro bg1 en1 so1 wd1 va1 gd1 la1 ns1 to1 he1 sw1 nh1 ki1 te1 mi1 ar1 nf m_21_ hin1 hns1 hnh1 hnf hall
      refine J_aload_n 21 0 dX6_court_21 rfl rfl ?_
      refine g_801 (v := .int gd1) 22 0 rfl rfl dX6_court_22 ?_
      refine J_if_eq (tgt := 42) 25 dX6_court_25 (by decide) (fun c_1_ => ?_) (fun c_1_ => ?_)
      · skip
        refine J_aload_n 42 0 dX6_court_42 rfl rfl ?_
        refine J_iconst (v := 0) 43 dX6_court_43 rfl ?_
        refine p_795 (ws' := (wF [wMo o rw fr kp tr ik tp 0 so1 bg1 en1 wd1 va1 gd1 rs mu rm ss msz msh mho mhn mhz kd nb tn tc bo ip, wI G tp 200 tf, wMr G fr la1 ns1 0 to1 he1 sw1 nh1 ki1 te1 mi1 ar1 0, wMr G rw la ns sd to he sw nh ki te mi ar z])) 44 0 rfl rfl rfl (Nat.le_of_ble_eq_true rfl) rfl dX6_court_44 ?_
        refine J_aload_n 47 0 dX6_court_47 rfl rfl ?_
        refine g_801 (v := .int gd1) 48 0 rfl rfl dX6_court_48 ?_
        refine J_if_ne (tgt := 62) 51 dX6_court_51 (by decide) (fun c_2_ => ?_) (fun c_2_ => ?_)
        · skip
          refine J_aload_n 62 0 dX6_court_62 rfl rfl ?_
          refine g_790 (v := .ref fr) 63 0 rfl rfl dX6_court_63 ?_
          refine J_bipush (v := 7) 66 dX6_court_66 rfl ?_
          refine J_aload_n 68 0 dX6_court_68 rfl rfl ?_
          refine g_789 (v := .ref rw) 69 0 rfl rfl dX6_court_69 ?_
          refine J_bipush (v := 7) 72 dX6_court_72 rfl ?_
          refine J_iald 74 3 7 rfl rfl (by omega) (by decide) dX6_court_74 ?_
          refine J_topi (y := z) 75 (fR_z rfl) ?_
          refine J_iast (ws' := (wF [wMo o rw fr kp tr ik tp 0 so1 bg1 en1 wd1 va1 gd1 rs mu rm ss msz msh mho mhn mhz kd nb tn tc bo ip, wI G tp 200 tf, wI G fr 76 (upd (fRow la1 ns1 0 to1 he1 sw1 nh1 ki1 te1 mi1 ar1 0) 7 z), wMr G rw la ns sd to he sw nh ki te mi ar z])) 75 2 7 rfl rfl (by omega) (by decide) rfl dX6_court_75 ?_
          refine J_ws (ws' := (wF [wMo o rw fr kp tr ik tp 0 so1 bg1 en1 wd1 va1 gd1 rs mu rm ss msz msh mho mhn mhz kd nb tn tc bo ip, wI G tp 200 tf, wMr G fr la1 ns1 0 to1 he1 sw1 nh1 ki1 te1 mi1 ar1 z, wMr G rw la ns sd to he sw nh ki te mi ar z])) 76 (congrArg (fun x_ => (wF [wMo o rw fr kp tr ik tp 0 so1 bg1 en1 wd1 va1 gd1 rs mu rm ss msz msh mho mhn mhz kd nb tn tc bo ip, wI G tp 200 tf, wI G fr 76 x_, wMr G rw la ns sd to he sw nh ki te mi ar z])) (fU_z rfl)) ?_
          refine J_aload_n 76 0 dX6_court_76 rfl rfl ?_
          refine g_790 (v := .ref fr) 77 0 rfl rfl dX6_court_77 ?_
          refine J_aload_n 80 0 dX6_court_80 rfl rfl ?_
          refine g_789 (v := .ref rw) 81 0 rfl rfl dX6_court_81 ?_
          refine kb_RX6_173 (bs' := [wMo o rw fr kp tr ik tp 0 so1 bg1 en1 wd1 va1 gd1 rs mu rm ss msz msh mho mhn mhz kd nb tn tc bo ip, wI G tp 200 tf, wMr G fr la1 ns1 0 to1 he1 sw1 nh1 ki1 te1 mi1 ar1 z, wMr G rw la1 ns1 0 to1 he1 sw1 nh1 ki1 te1 mi1 ar1 z]) (rest := []) (st' := []) 84 (c_X6_moveAll_r l G fr la1 ns1 0 to1 he1 sw1 nh1 ki1 te1 mi1 ar1 z rw la ns sd to he sw nh ki te mi ar z ) [2, 3] rfl rfl [[fr], [rw]] rfl rfl rfl rfl rfl rfl (Nat.le_of_ble_eq_true rfl) rfl dX6_court_84 ?_
          refine J_aload_n 87 0 dX6_court_87 rfl rfl ?_
          refine J_iconst (v := 0) 88 dX6_court_88 rfl ?_
          refine p_804 (ws' := (wF [wMo o rw fr kp tr ik tp 0 so1 bg1 en1 wd1 va1 gd1 rs mu 0 ss msz msh mho mhn mhz kd nb tn tc bo ip, wI G tp 200 tf, wMr G fr la1 ns1 0 to1 he1 sw1 nh1 ki1 te1 mi1 ar1 z, wMr G rw la1 ns1 0 to1 he1 sw1 nh1 ki1 te1 mi1 ar1 z])) 89 0 rfl rfl rfl (Nat.le_of_ble_eq_true rfl) rfl dX6_court_89 ?_
          refine J_aload_n 92 0 dX6_court_92 rfl rfl ?_
          refine g_789 (v := .ref rw) 93 0 rfl rfl dX6_court_93 ?_
          refine J_bipush (v := 6) 96 dX6_court_96 rfl ?_
          refine J_iald 98 3 6 rfl rfl (by omega) (by decide) dX6_court_98 ?_
          refine J_topi (y := nI nh1) 99 (fR_nh rfl) ?_
          have hN_ : mAll tf tm 201 (mUp tf tm 0 1, (svI [2, 3, 1, 20], 0, zF, zF, zF, 0, zF, zF, zF, zF)) = ((bg1, en1, so1, wd1, va1, gd1), (la1, ns1, to1, he1, sw1, nh1, ki1, te1, mi1, ar1)) := hall.trans (mAll_d (by first | exact Or.inl (by assumption) | exact Or.inr (by assumption)))
          exact J_iretP 99 dX6_court_99 (congrArg (fun x_ => some (Value.int x_)) (by rw [hN_])) ⟨bg1, en1, so1, wd1, va1, gd1, la1, ns1, 0, to1, he1, sw1, nh1, ki1, te1, mi1, ar1, z, (cg10 (fun (x0_ : Nat → Int32) (x1_ : Nat) (x2_ : Nat → Int32) (x3_ : Nat → Int32) (x4_ : Nat → Int32) (x5_ : Nat) (x6_ : Nat → Int32) (x7_ : Nat → Int32) (x8_ : Nat → Int32) (x9_ : Nat → Int32) => (wF [wMo o rw fr kp tr ik tp 0 so1 bg1 en1 wd1 va1 gd1 rs mu 0 ss msz msh mho mhn mhz kd nb tn tc bo ip, wI G tp 200 tf, wMr G fr la1 ns1 0 to1 he1 sw1 nh1 ki1 te1 mi1 ar1 z, wMr G rw x0_ x1_ 0 x2_ x3_ x4_ x5_ x6_ x7_ x8_ x9_ z])) la1 ((mAll tf tm 201 (mUp tf tm 0 1, (svI [2, 3, 1, 20], 0, zF, zF, zF, 0, zF, zF, zF, zF))).2.1) ns1 ((mAll tf tm 201 (mUp tf tm 0 1, (svI [2, 3, 1, 20], 0, zF, zF, zF, 0, zF, zF, zF, zF))).2.2.1) to1 ((mAll tf tm 201 (mUp tf tm 0 1, (svI [2, 3, 1, 20], 0, zF, zF, zF, 0, zF, zF, zF, zF))).2.2.2.1) he1 ((mAll tf tm 201 (mUp tf tm 0 1, (svI [2, 3, 1, 20], 0, zF, zF, zF, 0, zF, zF, zF, zF))).2.2.2.2.1) sw1 ((mAll tf tm 201 (mUp tf tm 0 1, (svI [2, 3, 1, 20], 0, zF, zF, zF, 0, zF, zF, zF, zF))).2.2.2.2.2.1) nh1 ((mAll tf tm 201 (mUp tf tm 0 1, (svI [2, 3, 1, 20], 0, zF, zF, zF, 0, zF, zF, zF, zF))).2.2.2.2.2.2.1) ki1 ((mAll tf tm 201 (mUp tf tm 0 1, (svI [2, 3, 1, 20], 0, zF, zF, zF, 0, zF, zF, zF, zF))).2.2.2.2.2.2.2.1) te1 ((mAll tf tm 201 (mUp tf tm 0 1, (svI [2, 3, 1, 20], 0, zF, zF, zF, 0, zF, zF, zF, zF))).2.2.2.2.2.2.2.2.1) mi1 ((mAll tf tm 201 (mUp tf tm 0 1, (svI [2, 3, 1, 20], 0, zF, zF, zF, 0, zF, zF, zF, zF))).2.2.2.2.2.2.2.2.2.1) ar1 ((mAll tf tm 201 (mUp tf tm 0 1, (svI [2, 3, 1, 20], 0, zF, zF, zF, 0, zF, zF, zF, zF))).2.2.2.2.2.2.2.2.2.2) (by rw [hN_]) (by rw [hN_]) (by rw [hN_]) (by rw [hN_]) (by rw [hN_]) (by rw [hN_]) (by rw [hN_]) (by rw [hN_]) (by rw [hN_]) (by rw [hN_]))⟩
        · skip
          have hN_ : mAll tf tm 201 (mUp tf tm 0 1, (svI [2, 3, 1, 20], 0, zF, zF, zF, 0, zF, zF, zF, zF)) = ((bg1, en1, so1, wd1, va1, gd1), (la1, ns1, to1, he1, sw1, nh1, ki1, te1, mi1, ar1)) := hall.trans (mAll_d (by first | exact Or.inl (by assumption) | exact Or.inr (by assumption)))
          rw [hN_] at hg
          exact absurd c_2_ hg
      · skip
        refine J_aload_n 28 0 dX6_court_28 rfl rfl ?_
        refine g_796 (v := .int so1) 29 0 rfl rfl dX6_court_29 ?_
        refine J_if_eq (tgt := 42) 32 dX6_court_32 (by decide) (fun c_3_ => ?_) (fun c_3_ => ?_)
        · skip
          refine J_aload_n 42 0 dX6_court_42 rfl rfl ?_
          refine J_iconst (v := 0) 43 dX6_court_43 rfl ?_
          refine p_795 (ws' := (wF [wMo o rw fr kp tr ik tp 0 so1 bg1 en1 wd1 va1 gd1 rs mu rm ss msz msh mho mhn mhz kd nb tn tc bo ip, wI G tp 200 tf, wMr G fr la1 ns1 0 to1 he1 sw1 nh1 ki1 te1 mi1 ar1 0, wMr G rw la ns sd to he sw nh ki te mi ar z])) 44 0 rfl rfl rfl (Nat.le_of_ble_eq_true rfl) rfl dX6_court_44 ?_
          refine J_aload_n 47 0 dX6_court_47 rfl rfl ?_
          refine g_801 (v := .int gd1) 48 0 rfl rfl dX6_court_48 ?_
          refine J_if_ne (tgt := 62) 51 dX6_court_51 (by decide) (fun c_4_ => ?_) (fun c_4_ => ?_)
          · skip
            refine J_aload_n 62 0 dX6_court_62 rfl rfl ?_
            refine g_790 (v := .ref fr) 63 0 rfl rfl dX6_court_63 ?_
            refine J_bipush (v := 7) 66 dX6_court_66 rfl ?_
            refine J_aload_n 68 0 dX6_court_68 rfl rfl ?_
            refine g_789 (v := .ref rw) 69 0 rfl rfl dX6_court_69 ?_
            refine J_bipush (v := 7) 72 dX6_court_72 rfl ?_
            refine J_iald 74 3 7 rfl rfl (by omega) (by decide) dX6_court_74 ?_
            refine J_topi (y := z) 75 (fR_z rfl) ?_
            refine J_iast (ws' := (wF [wMo o rw fr kp tr ik tp 0 so1 bg1 en1 wd1 va1 gd1 rs mu rm ss msz msh mho mhn mhz kd nb tn tc bo ip, wI G tp 200 tf, wI G fr 76 (upd (fRow la1 ns1 0 to1 he1 sw1 nh1 ki1 te1 mi1 ar1 0) 7 z), wMr G rw la ns sd to he sw nh ki te mi ar z])) 75 2 7 rfl rfl (by omega) (by decide) rfl dX6_court_75 ?_
            refine J_ws (ws' := (wF [wMo o rw fr kp tr ik tp 0 so1 bg1 en1 wd1 va1 gd1 rs mu rm ss msz msh mho mhn mhz kd nb tn tc bo ip, wI G tp 200 tf, wMr G fr la1 ns1 0 to1 he1 sw1 nh1 ki1 te1 mi1 ar1 z, wMr G rw la ns sd to he sw nh ki te mi ar z])) 76 (congrArg (fun x_ => (wF [wMo o rw fr kp tr ik tp 0 so1 bg1 en1 wd1 va1 gd1 rs mu rm ss msz msh mho mhn mhz kd nb tn tc bo ip, wI G tp 200 tf, wI G fr 76 x_, wMr G rw la ns sd to he sw nh ki te mi ar z])) (fU_z rfl)) ?_
            refine J_aload_n 76 0 dX6_court_76 rfl rfl ?_
            refine g_790 (v := .ref fr) 77 0 rfl rfl dX6_court_77 ?_
            refine J_aload_n 80 0 dX6_court_80 rfl rfl ?_
            refine g_789 (v := .ref rw) 81 0 rfl rfl dX6_court_81 ?_
            refine kb_RX6_173 (bs' := [wMo o rw fr kp tr ik tp 0 so1 bg1 en1 wd1 va1 gd1 rs mu rm ss msz msh mho mhn mhz kd nb tn tc bo ip, wI G tp 200 tf, wMr G fr la1 ns1 0 to1 he1 sw1 nh1 ki1 te1 mi1 ar1 z, wMr G rw la1 ns1 0 to1 he1 sw1 nh1 ki1 te1 mi1 ar1 z]) (rest := []) (st' := []) 84 (c_X6_moveAll_r l G fr la1 ns1 0 to1 he1 sw1 nh1 ki1 te1 mi1 ar1 z rw la ns sd to he sw nh ki te mi ar z ) [2, 3] rfl rfl [[fr], [rw]] rfl rfl rfl rfl rfl rfl (Nat.le_of_ble_eq_true rfl) rfl dX6_court_84 ?_
            refine J_aload_n 87 0 dX6_court_87 rfl rfl ?_
            refine J_iconst (v := 0) 88 dX6_court_88 rfl ?_
            refine p_804 (ws' := (wF [wMo o rw fr kp tr ik tp 0 so1 bg1 en1 wd1 va1 gd1 rs mu 0 ss msz msh mho mhn mhz kd nb tn tc bo ip, wI G tp 200 tf, wMr G fr la1 ns1 0 to1 he1 sw1 nh1 ki1 te1 mi1 ar1 z, wMr G rw la1 ns1 0 to1 he1 sw1 nh1 ki1 te1 mi1 ar1 z])) 89 0 rfl rfl rfl (Nat.le_of_ble_eq_true rfl) rfl dX6_court_89 ?_
            refine J_aload_n 92 0 dX6_court_92 rfl rfl ?_
            refine g_789 (v := .ref rw) 93 0 rfl rfl dX6_court_93 ?_
            refine J_bipush (v := 6) 96 dX6_court_96 rfl ?_
            refine J_iald 98 3 6 rfl rfl (by omega) (by decide) dX6_court_98 ?_
            refine J_topi (y := nI nh1) 99 (fR_nh rfl) ?_
            have hN_ : mAll tf tm 201 (mUp tf tm 0 1, (svI [2, 3, 1, 20], 0, zF, zF, zF, 0, zF, zF, zF, zF)) = ((bg1, en1, so1, wd1, va1, gd1), (la1, ns1, to1, he1, sw1, nh1, ki1, te1, mi1, ar1)) := hall.trans (mAll_d (by first | exact Or.inl (by assumption) | exact Or.inr (by assumption)))
            exact J_iretP 99 dX6_court_99 (congrArg (fun x_ => some (Value.int x_)) (by rw [hN_])) ⟨bg1, en1, so1, wd1, va1, gd1, la1, ns1, 0, to1, he1, sw1, nh1, ki1, te1, mi1, ar1, z, (cg10 (fun (x0_ : Nat → Int32) (x1_ : Nat) (x2_ : Nat → Int32) (x3_ : Nat → Int32) (x4_ : Nat → Int32) (x5_ : Nat) (x6_ : Nat → Int32) (x7_ : Nat → Int32) (x8_ : Nat → Int32) (x9_ : Nat → Int32) => (wF [wMo o rw fr kp tr ik tp 0 so1 bg1 en1 wd1 va1 gd1 rs mu 0 ss msz msh mho mhn mhz kd nb tn tc bo ip, wI G tp 200 tf, wMr G fr la1 ns1 0 to1 he1 sw1 nh1 ki1 te1 mi1 ar1 z, wMr G rw x0_ x1_ 0 x2_ x3_ x4_ x5_ x6_ x7_ x8_ x9_ z])) la1 ((mAll tf tm 201 (mUp tf tm 0 1, (svI [2, 3, 1, 20], 0, zF, zF, zF, 0, zF, zF, zF, zF))).2.1) ns1 ((mAll tf tm 201 (mUp tf tm 0 1, (svI [2, 3, 1, 20], 0, zF, zF, zF, 0, zF, zF, zF, zF))).2.2.1) to1 ((mAll tf tm 201 (mUp tf tm 0 1, (svI [2, 3, 1, 20], 0, zF, zF, zF, 0, zF, zF, zF, zF))).2.2.2.1) he1 ((mAll tf tm 201 (mUp tf tm 0 1, (svI [2, 3, 1, 20], 0, zF, zF, zF, 0, zF, zF, zF, zF))).2.2.2.2.1) sw1 ((mAll tf tm 201 (mUp tf tm 0 1, (svI [2, 3, 1, 20], 0, zF, zF, zF, 0, zF, zF, zF, zF))).2.2.2.2.2.1) nh1 ((mAll tf tm 201 (mUp tf tm 0 1, (svI [2, 3, 1, 20], 0, zF, zF, zF, 0, zF, zF, zF, zF))).2.2.2.2.2.2.1) ki1 ((mAll tf tm 201 (mUp tf tm 0 1, (svI [2, 3, 1, 20], 0, zF, zF, zF, 0, zF, zF, zF, zF))).2.2.2.2.2.2.2.1) te1 ((mAll tf tm 201 (mUp tf tm 0 1, (svI [2, 3, 1, 20], 0, zF, zF, zF, 0, zF, zF, zF, zF))).2.2.2.2.2.2.2.2.1) mi1 ((mAll tf tm 201 (mUp tf tm 0 1, (svI [2, 3, 1, 20], 0, zF, zF, zF, 0, zF, zF, zF, zF))).2.2.2.2.2.2.2.2.2.1) ar1 ((mAll tf tm 201 (mUp tf tm 0 1, (svI [2, 3, 1, 20], 0, zF, zF, zF, 0, zF, zF, zF, zF))).2.2.2.2.2.2.2.2.2.2) (by rw [hN_]) (by rw [hN_]) (by rw [hN_]) (by rw [hN_]) (by rw [hN_]) (by rw [hN_]) (by rw [hN_]) (by rw [hN_]) (by rw [hN_]) (by rw [hN_]))⟩
          · skip
            have hN_ : mAll tf tm 201 (mUp tf tm 0 1, (svI [2, 3, 1, 20], 0, zF, zF, zF, 0, zF, zF, zF, zF)) = ((bg1, en1, so1, wd1, va1, gd1), (la1, ns1, to1, he1, sw1, nh1, ki1, te1, mi1, ar1)) := hall.trans (mAll_d (by first | exact Or.inl (by assumption) | exact Or.inr (by assumption)))
            rw [hN_] at hg
            exact absurd c_4_ hg
        · skip
          have hlt_ : bg1 < en1 := hin1.2 c_3_
          have hle_ : en1 ≤ tm := hin1.1.2
          have hnf2_ := hnf.resolve_left (by assumption)
          refine J_aload_n 35 0 dX6_court_35 rfl rfl ?_
          refine kb_RX6_170 (bs' := [wMo o rw fr kp tr ik tp tm ((mCl tf tm ((bg1, en1, so1, wd1, va1, gd1), (la1, ns1, to1, he1, sw1, nh1, ki1, te1, mi1, ar1))).1.2.2.1) ((mCl tf tm ((bg1, en1, so1, wd1, va1, gd1), (la1, ns1, to1, he1, sw1, nh1, ki1, te1, mi1, ar1))).1.1) ((mCl tf tm ((bg1, en1, so1, wd1, va1, gd1), (la1, ns1, to1, he1, sw1, nh1, ki1, te1, mi1, ar1))).1.2.1) ((mCl tf tm ((bg1, en1, so1, wd1, va1, gd1), (la1, ns1, to1, he1, sw1, nh1, ki1, te1, mi1, ar1))).1.2.2.2.1) ((mCl tf tm ((bg1, en1, so1, wd1, va1, gd1), (la1, ns1, to1, he1, sw1, nh1, ki1, te1, mi1, ar1))).1.2.2.2.2.1) ((mCl tf tm ((bg1, en1, so1, wd1, va1, gd1), (la1, ns1, to1, he1, sw1, nh1, ki1, te1, mi1, ar1))).1.2.2.2.2.2) rs mu rm ss msz msh mho mhn mhz kd nb tn tc bo ip, wI G tp 200 tf, wMr G fr ((mCl tf tm ((bg1, en1, so1, wd1, va1, gd1), (la1, ns1, to1, he1, sw1, nh1, ki1, te1, mi1, ar1))).2.1) ((mCl tf tm ((bg1, en1, so1, wd1, va1, gd1), (la1, ns1, to1, he1, sw1, nh1, ki1, te1, mi1, ar1))).2.2.1) 0 ((mCl tf tm ((bg1, en1, so1, wd1, va1, gd1), (la1, ns1, to1, he1, sw1, nh1, ki1, te1, mi1, ar1))).2.2.2.1) ((mCl tf tm ((bg1, en1, so1, wd1, va1, gd1), (la1, ns1, to1, he1, sw1, nh1, ki1, te1, mi1, ar1))).2.2.2.2.1) ((mCl tf tm ((bg1, en1, so1, wd1, va1, gd1), (la1, ns1, to1, he1, sw1, nh1, ki1, te1, mi1, ar1))).2.2.2.2.2.1) ((mCl tf tm ((bg1, en1, so1, wd1, va1, gd1), (la1, ns1, to1, he1, sw1, nh1, ki1, te1, mi1, ar1))).2.2.2.2.2.2.1) ((mCl tf tm ((bg1, en1, so1, wd1, va1, gd1), (la1, ns1, to1, he1, sw1, nh1, ki1, te1, mi1, ar1))).2.2.2.2.2.2.2.1) ((mCl tf tm ((bg1, en1, so1, wd1, va1, gd1), (la1, ns1, to1, he1, sw1, nh1, ki1, te1, mi1, ar1))).2.2.2.2.2.2.2.2.1) ((mCl tf tm ((bg1, en1, so1, wd1, va1, gd1), (la1, ns1, to1, he1, sw1, nh1, ki1, te1, mi1, ar1))).2.2.2.2.2.2.2.2.2.1) ((mCl tf tm ((bg1, en1, so1, wd1, va1, gd1), (la1, ns1, to1, he1, sw1, nh1, ki1, te1, mi1, ar1))).2.2.2.2.2.2.2.2.2.2) 0, wMr G rw la ns sd to he sw nh ki te mi ar z]) (rest := []) (st' := []) 36 (c_X6_wantClause l G o rw fr kp tr ik tp tm so1 bg1 en1 wd1 va1 gd1 rs mu rm ss msz msh mho mhn mhz kd nb tn tc bo ip tf la1 ns1 0 to1 he1 sw1 nh1 ki1 te1 mi1 ar1 0 hin1 htm hbf hns1 hnh1) [0, 1, 2] 0 rfl rfl rfl [[o], [tp], [fr]] rfl rfl rfl rfl rfl rfl (Nat.le_of_ble_eq_true rfl) rfl dX6_court_36 ?_
          obtain ⟨⟨⟨bg_36, en_36, so_36, wd_36, va_36, gd_36⟩, la_36, ns_36, to_36, he_36, sw_36, nh_36, ki_36, te_36, mi_36, ar_36⟩, hT_36⟩ : ∃ t_, mCl tf tm ((bg1, en1, so1, wd1, va1, gd1), (la1, ns1, to1, he1, sw1, nh1, ki1, te1, mi1, ar1)) = t_ := ⟨_, rfl⟩
          refine J_ws (ws' := (wF [wMo o rw fr kp tr ik tp tm so_36 bg_36 en_36 wd_36 va_36 gd_36 rs mu rm ss msz msh mho mhn mhz kd nb tn tc bo ip, wI G tp 200 tf, wMr G fr la_36 ns_36 0 to_36 he_36 sw_36 nh_36 ki_36 te_36 mi_36 ar_36 0, wMr G rw la ns sd to he sw nh ki te mi ar z])) 39 (by rw [hT_36]) ?_
          obtain ⟨hin_36, hbe_36, hns_36, hnh_36, hpr_36⟩ := mCl_inE hT_36 (by assumption) (by assumption) (by assumption)
          refine J_goto (tgt := 21) 39 dX6_court_39 (by decide) ?_
          exact ih_21_ bg_36 en_36 so_36 wd_36 va_36 gd_36 la_36 ns_36 to_36 he_36 sw_36 nh_36 ki_36 te_36 mi_36 ar_36 (nf - 1) (by omega) (by first | exact hin_36 | exact mAdv_inE hT_18 (Nat.zero_le _)) (by first | exact hns_36 | exact Nat.zero_le _) (by first | exact hnh_36 | exact Nat.zero_le _) (by first | exact Or.inr (by omega) | exact (Classical.em (gd_36 = 0)).imp id (fun z_ => by have y_ : en1 ≤ bg_36 := hpr_36 z_; omega)) (by first | rw [mUp_e hT_18] | (rw [hall, mAll_s (by assumption) (by assumption) (by omega), hT_36]))
  refine J_aload_n 0 0 dX6_court_0 rfl rfl ?_
  refine J_iconst (v := 0) 1 dX6_court_1 rfl ?_
  refine p_798 (ws' := (wF [wMo o rw fr kp tr ik tp tm mso bg 0 wd va gd rs mu rm ss msz msh mho mhn mhz kd nb tn tc bo ip, wI G tp 200 tf, wMr G fr f_la f_ns f_sd f_to f_he f_sw f_nh f_ki f_te f_mi f_ar f_z, wMr G rw la ns sd to he sw nh ki te mi ar z])) 2 0 rfl rfl rfl (Nat.le_of_ble_eq_true rfl) rfl dX6_court_2 ?_
  refine J_aload_n 5 0 dX6_court_5 rfl rfl ?_
  refine J_iconst (v := 1) 6 dX6_court_6 rfl ?_
  refine p_801 (ws' := (wF [wMo o rw fr kp tr ik tp tm mso bg 0 wd va 1 rs mu rm ss msz msh mho mhn mhz kd nb tn tc bo ip, wI G tp 200 tf, wMr G fr f_la f_ns f_sd f_to f_he f_sw f_nh f_ki f_te f_mi f_ar f_z, wMr G rw la ns sd to he sw nh ki te mi ar z])) 7 0 rfl rfl rfl (Nat.le_of_ble_eq_true rfl) rfl dX6_court_7 ?_
  refine J_aload_n 10 0 dX6_court_10 rfl rfl ?_
  refine g_790 (v := .ref fr) 11 0 rfl rfl dX6_court_11 ?_
  refine kb_RX6_53 (bs' := [wMo o rw fr kp tr ik tp tm mso bg 0 wd va 1 rs mu rm ss msz msh mho mhn mhz kd nb tn tc bo ip, wI G tp 200 tf, wMr G fr (svI [2, 3, 1, 20]) 0 0 zF zF zF 0 zF zF zF zF 0, wMr G rw la ns sd to he sw nh ki te mi ar z]) (rest := []) (st' := []) 14 (c_X6_begins_r l G fr f_la f_ns f_sd f_to f_he f_sw f_nh f_ki f_te f_mi f_ar f_z ) [2] rfl rfl [[fr]] rfl rfl rfl rfl rfl rfl (Nat.le_of_ble_eq_true rfl) rfl dX6_court_14 ?_
  refine J_aload_n 17 0 dX6_court_17 rfl rfl ?_
  refine kb_RX6_127 (bs' := [wMo o rw fr kp tr ik tp tm ((mAdv tf tm 0).2.2.1) ((mAdv tf tm 0).1) ((mAdv tf tm 0).2.1) ((mAdv tf tm 0).2.2.2.1) ((mAdv tf tm 0).2.2.2.2) 1 rs mu rm ss msz msh mho mhn mhz kd nb tn tc bo ip, wI G tp 200 tf, wMr G fr (svI [2, 3, 1, 20]) 0 0 zF zF zF 0 zF zF zF zF 0, wMr G rw la ns sd to he sw nh ki te mi ar z]) (rest := []) (st' := []) 18 (c_X6_advance l G o rw fr kp tr ik tp tm mso bg 0 wd va 1 rs mu rm ss msz msh mho mhn mhz kd nb tn tc bo ip tf (Nat.zero_le _) htm hbf) [0, 1] 0 rfl rfl rfl [[o], [tp]] rfl rfl rfl rfl rfl rfl (Nat.le_of_ble_eq_true rfl) rfl dX6_court_18 ?_
  obtain ⟨⟨bg_18, en_18, so_18, wd_18, va_18⟩, hT_18⟩ : ∃ t_, mAdv tf tm 0 = t_ := ⟨_, rfl⟩
  refine J_ws (ws' := (wF [wMo o rw fr kp tr ik tp tm so_18 bg_18 en_18 wd_18 va_18 1 rs mu rm ss msz msh mho mhn mhz kd nb tn tc bo ip, wI G tp 200 tf, wMr G fr (svI [2, 3, 1, 20]) 0 0 zF zF zF 0 zF zF zF zF 0, wMr G rw la ns sd to he sw nh ki te mi ar z])) 21 (by rw [hT_18]) ?_
  have hin_18 := fun g_ => mAdv_inE (gq := g_) hT_18 (by first | exact hin.1.2 | omega)
  exact cut_21_ (201 + 1) bg_18 en_18 so_18 wd_18 va_18 1 (svI [2, 3, 1, 20]) 0 zF zF zF 0 zF zF zF zF 201 (Nat.lt_succ_self _) (by first | exact hin_36 | exact mAdv_inE hT_18 (Nat.zero_le _)) (by first | exact hns_36 | exact Nat.zero_le _) (by first | exact hnh_36 | exact Nat.zero_le _) (by first | exact Or.inr (by omega) | exact (Classical.em (gd_36 = 0)).imp id (fun z_ => by have y_ : en1 ≤ bg_36 := hpr_36 z_; omega)) (by first | rw [mUp_e hT_18] | (rw [hall, mAll_s (by assumption) (by assumption) (by omega), hT_36]))
