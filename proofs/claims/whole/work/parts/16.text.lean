/-! the reading of a text, the class's way -/
noncomputable def cif {α : Type} (P : Prop) (a b : α) : α := @ite α P (Classical.propDecidable P) a b
theorem cif_t {α : Type} {P : Prop} {a b : α} (h_ : P) : cif P a b = a := by unfold cif; exact if_pos h_
theorem cif_f {α : Type} {P : Prop} {a b : α} (h_ : ¬ P) : cif P a b = b := by unfold cif; exact if_neg h_
abbrev T5 : Type := Nat × Nat × Int32 × Int32 × Int32
noncomputable def fRun (P : Nat → Prop) : Nat → Nat → Nat
  | 0, s => s
  | n + 1, s => cif (P s) (fRun P n (s + 1)) s
theorem fRun_go {P : Nat → Prop} {e s : Nat} (h_ : s < e) (hp_ : P s) : fRun P (e - s) s = fRun P (e - (s + 1)) (s + 1) := by
  obtain ⟨d_, hd_⟩ : ∃ d, e - s = d + 1 := ⟨e - s - 1, by omega⟩
  rw [hd_, show e - (s + 1) = d_ by omega]
  conv => lhs; unfold fRun
  rw [cif_t hp_]
theorem fRun_no {P : Nat → Prop} {n s : Nat} (hp_ : ¬ P s) : fRun P n s = s := by
  cases n with
  | zero => rfl
  | succ n => unfold fRun; exact cif_f hp_
theorem fRun_ov {P : Nat → Prop} {e s : Nat} (h_ : e ≤ s) : fRun P (e - s) s = s := by
  rw [show e - s = 0 by omega]; rfl
theorem fRun_in {P : Nat → Prop} : ∀ n s, s ≤ fRun P n s ∧ fRun P n s ≤ s + n := by
  intro n
  induction n with
  | zero => intro s; exact ⟨Nat.le_refl _, Nat.le_refl _⟩
  | succ n ih_ =>
    intro s
    unfold fRun
    by_cases q_ : P s
    · rw [cif_t q_]; have i_ := ih_ (s + 1); omega
    · rw [cif_f q_]; omega
def isL (b : Nat → Int32) (j : Nat) : Prop := 97 ≤ b j ∧ b j ≤ 122
def isD (b : Nat → Int32) (j : Nat) : Prop := 48 ≤ b j ∧ b j ≤ 57
def isW (b : Nat → Int32) (j : Nat) : Prop := b j = 32
def fVal (b : Nat → Int32) (s : Nat) : Nat → Int32
  | 0 => 0
  | k + 1 => if k < 3 then fVal b s k * 10 + b (s + k) - 48 else 1000
noncomputable def tSk (b : Nat → Int32) (ln en : Nat) : Nat := fRun (isW b) (ln - en) en
noncomputable def tGo (b : Nat → Int32) (ln : Nat) (t : T5) : T5 :=
  cif (ln ≤ tSk b ln t.2.1) (tSk b ln t.2.1, tSk b ln t.2.1, 0, t.2.2.2.1, t.2.2.2.2)
    (cif (isL b (tSk b ln t.2.1)) (tSk b ln t.2.1, fRun (isL b) (ln - tSk b ln t.2.1) (tSk b ln t.2.1), 1, t.2.2.2.1, t.2.2.2.2)
      (cif (isD b (tSk b ln t.2.1)) (tSk b ln t.2.1, fRun (isD b) (ln - tSk b ln t.2.1) (tSk b ln t.2.1), 2, fVal b (tSk b ln t.2.1) (fRun (isD b) (ln - tSk b ln t.2.1) (tSk b ln t.2.1) - tSk b ln t.2.1), t.2.2.2.2)
        (tSk b ln t.2.1, tSk b ln t.2.1 + 1, if b (tSk b ln t.2.1) = 59 then 3 else 4, t.2.2.2.1, t.2.2.2.2)))
theorem tGo_e {b : Nat → Int32} {ln s : Nat} {t : T5} (hs_ : tSk b ln t.2.1 = s) (h_ : ln ≤ s) : tGo b ln t = (s, s, 0, t.2.2.2.1, t.2.2.2.2) := by
  unfold tGo; rw [hs_, cif_t h_]
theorem tGo_l {b : Nat → Int32} {ln s e : Nat} {t : T5} (hs_ : tSk b ln t.2.1 = s) (h_ : s < ln) (hl_ : isL b s) (he_ : fRun (isL b) (ln - s) s = e) : tGo b ln t = (s, e, 1, t.2.2.2.1, t.2.2.2.2) := by
  unfold tGo; rw [hs_, cif_f (by omega), cif_t hl_, he_]
theorem tGo_d {b : Nat → Int32} {ln s e : Nat} {t : T5} {v : Int32} (hs_ : tSk b ln t.2.1 = s) (h_ : s < ln) (hl_ : ¬ isL b s) (hd_ : isD b s) (he_ : fRun (isD b) (ln - s) s = e) (hv_ : fVal b s (e - s) = v) : tGo b ln t = (s, e, 2, v, t.2.2.2.2) := by
  unfold tGo; rw [hs_, cif_f (by omega), cif_f hl_, cif_t hd_, he_, hv_]
theorem tGo_o {b : Nat → Int32} {ln s : Nat} {t : T5} {v : Int32} (hs_ : tSk b ln t.2.1 = s) (h_ : s < ln) (hl_ : ¬ isL b s) (hd_ : ¬ isD b s) (hv_ : (if b s = 59 then (3 : Int32) else 4) = v) : tGo b ln t = (s, s + 1, v, t.2.2.2.1, t.2.2.2.2) := by
  unfold tGo; rw [hs_, cif_f (by omega), cif_f hl_, cif_f hd_, hv_]
theorem tGo_le {b : Nat → Int32} {ln : Nat} {t : T5} {st en : Nat} {so va fa : Int32} (h_ : tGo b ln t = (st, en, so, va, fa)) (he_ : t.2.1 ≤ ln) : st ≤ en ∧ en ≤ ln := by
  have hs_ : t.2.1 ≤ tSk b ln t.2.1 ∧ tSk b ln t.2.1 ≤ ln := by
    have i_ := fRun_in (P := isW b) (ln - t.2.1) t.2.1
    unfold tSk; omega
  unfold tGo at h_
  by_cases q1_ : ln ≤ tSk b ln t.2.1
  · rw [cif_t q1_] at h_; cases h_; omega
  · rw [cif_f q1_] at h_
    by_cases q2_ : isL b (tSk b ln t.2.1)
    · rw [cif_t q2_] at h_
      have i_ := fRun_in (P := isL b) (ln - tSk b ln t.2.1) (tSk b ln t.2.1)
      cases h_; omega
    · rw [cif_f q2_] at h_
      by_cases q3_ : isD b (tSk b ln t.2.1)
      · rw [cif_t q3_] at h_
        have i_ := fRun_in (P := isD b) (ln - tSk b ln t.2.1) (tSk b ln t.2.1)
        cases h_; omega
      · rw [cif_f q3_] at h_; cases h_; omega
theorem fVal_st {b : Nat → Int32} {s e : Nat} {v : Int32} (hv_ : v = fVal b s (e - s)) (hse_ : s ≤ e) (h_ : e - s < 3) : v * 10 + b e - 48 = fVal b s (e + 1 - s) := by
  rw [show e + 1 - s = (e - s) + 1 by omega]; unfold fVal
  rw [if_pos h_, hv_, show s + (e - s) = e by omega]
theorem fVal_sf {b : Nat → Int32} {s e : Nat} (hse_ : s ≤ e) (h_ : ¬ e - s < 3) : 1000 = fVal b s (e + 1 - s) := by
  rw [show e + 1 - s = (e - s) + 1 by omega]; unfold fVal
  rw [if_neg h_]
def fFl (st : Nat) (fa : Int32) : Int32 := if fa < 0 then nI st else fa
def tNam (b : Nat → Int32) (i st en : Nat) (so : Int32) : Prop := so = 1 ∧ en - st = kSl.getD i 0 ∧ ∀ k, k < kSl.getD i 0 → b (st + k) = ch i k
noncomputable def tNum (b : Nat → Int32) (ln : Nat) (most : Int32) (t : T5) : Int32 × T5 :=
  if t.2.2.1 = 2 ∧ t.2.2.2.1 ≤ most then (t.2.2.2.1, tGo b ln t) else (0, t.1, t.2.1, t.2.2.1, t.2.2.2.1, fFl t.1 t.2.2.2.2)
noncomputable def tNuA (b : Nat → Int32) (ln i : Nat) (most wo : Int32) (t : T5) : Int32 × T5 :=
  cif (tNam b i t.1 t.2.1 t.2.2.1) (tNum b ln most (tGo b ln t)) (wo, t)
noncomputable def tStp (b : Nat → Int32) (ln : Nat) (t : T5) : T5 :=
  if t.2.2.1 = 3 then tGo b ln t else (t.1, t.2.1, t.2.2.1, t.2.2.2.1, fFl t.1 t.2.2.2.2)
noncomputable def tSy (b : Nat → Int32) (ln : Nat) (t : T5) (ns : Nat) (to he sw : Nat → Int32) : T5 × Nat × (Nat → Int32) × (Nat → Int32) × (Nat → Int32) :=
  if ns < 12 then
    cif (tNam b 12 (tNuA b ln 11 9 5 (tNum b ln 7 (tGo b ln t)).2).2.1 (tNuA b ln 11 9 5 (tNum b ln 7 (tGo b ln t)).2).2.2.1 (tNuA b ln 11 9 5 (tNum b ln 7 (tGo b ln t)).2).2.2.2.1)
      (tGo b ln (tNuA b ln 11 9 5 (tNum b ln 7 (tGo b ln t)).2).2, ns + 1, upd to ns (tNum b ln 7 (tGo b ln t)).1, upd he ns (tNuA b ln 11 9 5 (tNum b ln 7 (tGo b ln t)).2).1, upd sw ns 1)
      ((tNuA b ln 11 9 5 (tNum b ln 7 (tGo b ln t)).2).2, ns + 1, upd to ns (tNum b ln 7 (tGo b ln t)).1, upd he ns (tNuA b ln 11 9 5 (tNum b ln 7 (tGo b ln t)).2).1, upd sw ns 0)
  else ((t.1, t.2.1, t.2.2.1, t.2.2.2.1, fFl t.1 t.2.2.2.2), ns, to, he, sw)
noncomputable def tHr (b : Nat → Int32) (ln : Nat) (kd : Int32) (t : T5) (nh : Nat) (ki te mi ar : Nat → Int32) : T5 × Nat × (Nat → Int32) × (Nat → Int32) × (Nat → Int32) × (Nat → Int32) :=
  if nh < 8 then
    ((tNuA b ln 14 255 255 (tNuA b ln 13 99 3 (tGo b ln t)).2).2, nh + 1, upd ki nh kd, upd te nh (tNuA b ln 13 99 3 (tGo b ln t)).1, upd mi nh (tNuA b ln 14 255 255 (tNuA b ln 13 99 3 (tGo b ln t)).2).1, upd ar nh 0)
  else ((t.1, t.2.1, t.2.2.1, t.2.2.2.1, fFl t.1 t.2.2.2.2), nh, ki, te, mi, ar)
noncomputable def fKn (b : Nat → Int32) (st en : Nat) (so : Int32) : Int32 :=
  cif (tNam b 0 st en so) 0 (cif (tNam b 1 st en so) 1 (cif (tNam b 2 st en so) 2
    (cif (tNam b 3 st en so) 3 (cif (tNam b 4 st en so) 4 (cif (tNam b 5 st en so) 5 (-3))))))
noncomputable def fLn (b : Nat → Int32) (st en : Nat) (so : Int32) : Int32 :=
  cif (tNam b 6 st en so) 0 (cif (tNam b 7 st en so) 1 (cif (tNam b 8 st en so) 2
    (cif (tNam b 9 st en so) 3 (-3))))
def fByte (e : Int64) (k : Nat) : Int32 := ((e.toUInt64 >>> ((nI (8 * k)).toInt64.toUInt64 &&& Int64.toUInt64 63)).toInt64).toInt32.toInt8.toInt32
def fPutB (f : Nat → Int32) (ln : Nat) (e : Int64) (n : Nat) : Nat → Int32 := fun j => if ln ≤ j ∧ j < ln + n then fByte e (j - ln) else f j
theorem fPutB_s {f f1 : Nat → Int32} {ln k : Nat} {e : Int64} (h_ : f1 = fPutB f ln e k) {v : Int32} (hv_ : v = fByte e k) : upd f1 (ln + k) v = fPutB f ln e (k + 1) := by
  funext j_
  by_cases e_ : j_ = ln + k
  · subst e_; rw [pk_us, hv_]; unfold fPutB; rw [if_pos ⟨by omega, by omega⟩, show ln + k - ln = k by omega]
  · rw [pk_un e_, h_]; unfold fPutB
    by_cases q_ : ln ≤ j_ ∧ j_ < ln + k
    · rw [if_pos q_, if_pos ⟨q_.1, by omega⟩]
    · rw [if_neg q_, if_neg (fun z_ => q_ ⟨z_.1, by omega⟩)]
theorem tNum_le {b : Nat → Int32} {ln : Nat} {most : Int32} {t : T5} {rv : Int32} {st en : Nat} {so va fa : Int32} (h_ : tNum b ln most t = (rv, st, en, so, va, fa)) (he_ : t.2.1 ≤ ln) (hs_ : t.1 ≤ t.2.1) : st ≤ en ∧ en ≤ ln := by
  unfold tNum at h_
  by_cases q_ : t.2.2.1 = 2 ∧ t.2.2.2.1 ≤ most
  · rw [if_pos q_] at h_; exact tGo_le (Prod.mk.inj h_).2 he_
  · rw [if_neg q_] at h_; cases h_; exact ⟨hs_, he_⟩
theorem tNuA_le {b : Nat → Int32} {ln i : Nat} {most wo : Int32} {t : T5} {rv : Int32} {st en : Nat} {so va fa : Int32} (h_ : tNuA b ln i most wo t = (rv, st, en, so, va, fa)) (he_ : t.2.1 ≤ ln) (hs_ : t.1 ≤ t.2.1) : st ≤ en ∧ en ≤ ln := by
  unfold tNuA at h_
  by_cases q_ : tNam b i t.1 t.2.1 t.2.2.1
  · rw [cif_t q_] at h_
    have g_ := tGo_le (b := b) (ln := ln) (t := t) (st := (tGo b ln t).1) (en := (tGo b ln t).2.1) (so := (tGo b ln t).2.2.1) (va := (tGo b ln t).2.2.2.1) (fa := (tGo b ln t).2.2.2.2) rfl he_
    exact tNum_le h_ g_.2 g_.1
  · rw [cif_f q_] at h_; cases h_; exact ⟨hs_, he_⟩
theorem tStp_le {b : Nat → Int32} {ln : Nat} {t : T5} {st en : Nat} {so va fa : Int32} (h_ : tStp b ln t = (st, en, so, va, fa)) (he_ : t.2.1 ≤ ln) (hs_ : t.1 ≤ t.2.1) : st ≤ en ∧ en ≤ ln := by
  unfold tStp at h_
  by_cases q_ : t.2.2.1 = 3
  · rw [if_pos q_] at h_; exact tGo_le h_ he_
  · rw [if_neg q_] at h_; cases h_; exact ⟨hs_, he_⟩
theorem tSy_le {b : Nat → Int32} {ln : Nat} {t : T5} {ns : Nat} {to he sw : Nat → Int32} {st en : Nat} {so va fa : Int32} {ns1 : Nat} {to1 he1 sw1 : Nat → Int32} (h_ : tSy b ln t ns to he sw = ((st, en, so, va, fa), ns1, to1, he1, sw1)) (he_ : t.2.1 ≤ ln) (hs_ : t.1 ≤ t.2.1) (hn_ : ns ≤ 12) : (st ≤ en ∧ en ≤ ln) ∧ ns1 ≤ 12 := by
  unfold tSy at h_
  by_cases q_ : ns < 12
  · rw [if_pos q_] at h_
    rcases hg1_ : tGo b ln t with ⟨s1_, e1_, o1_, v1_, f1_⟩
    have g1_ := tGo_le hg1_ he_
    rcases hg2_ : tNum b ln 7 (s1_, e1_, o1_, v1_, f1_) with ⟨r2_, s2_, e2_, o2_, v2_, f2_⟩
    have g2_ := tNum_le hg2_ g1_.2 g1_.1
    rcases hg3_ : tNuA b ln 11 9 5 (s2_, e2_, o2_, v2_, f2_) with ⟨r3_, s3_, e3_, o3_, v3_, f3_⟩
    have g3_ := tNuA_le hg3_ g2_.2 g2_.1
    simp only [hg1_, hg2_, hg3_] at h_
    by_cases z_ : tNam b 12 s3_ e3_ o3_
    · rw [cif_t z_] at h_
      have g4_ := tGo_le (Prod.mk.inj h_).1 g3_.2
      have e_ := (Prod.mk.inj (Prod.mk.inj h_).2).1
      exact ⟨g4_, by omega⟩
    · rw [cif_f z_] at h_; cases h_; exact ⟨g3_, by omega⟩
  · rw [if_neg q_] at h_; cases h_; exact ⟨⟨hs_, he_⟩, hn_⟩
theorem tHr_le {b : Nat → Int32} {ln : Nat} {kd : Int32} {t : T5} {nh : Nat} {ki te mi ar : Nat → Int32} {st en : Nat} {so va fa : Int32} {nh1 : Nat} {ki1 te1 mi1 ar1 : Nat → Int32} (h_ : tHr b ln kd t nh ki te mi ar = ((st, en, so, va, fa), nh1, ki1, te1, mi1, ar1)) (he_ : t.2.1 ≤ ln) (hs_ : t.1 ≤ t.2.1) (hn_ : nh ≤ 8) : (st ≤ en ∧ en ≤ ln) ∧ nh1 ≤ 8 := by
  unfold tHr at h_
  by_cases q_ : nh < 8
  · rw [if_pos q_] at h_
    rcases hg1_ : tGo b ln t with ⟨s1_, e1_, o1_, v1_, f1_⟩
    have g1_ := tGo_le hg1_ he_
    rcases hg2_ : tNuA b ln 13 99 3 (s1_, e1_, o1_, v1_, f1_) with ⟨r2_, s2_, e2_, o2_, v2_, f2_⟩
    have g2_ := tNuA_le hg2_ g1_.2 g1_.1
    rcases hg3_ : tNuA b ln 14 255 255 (s2_, e2_, o2_, v2_, f2_) with ⟨r3_, s3_, e3_, o3_, v3_, f3_⟩
    have g3_ := tNuA_le hg3_ g2_.2 g2_.1
    simp only [hg1_, hg2_, hg3_] at h_
    cases h_; exact ⟨g3_, by omega⟩
  · rw [if_neg q_] at h_; cases h_; exact ⟨⟨hs_, he_⟩, hn_⟩
abbrev Kt : Type := (Nat → Int32) × Nat × (Nat → Int32) × (Nat → Int32) × (Nat → Int32) × Nat × (Nat → Int32) × (Nat → Int32) × (Nat → Int32) × (Nat → Int32)
theorem fLn_nI {b : Nat → Int32} {st en : Nat} {so : Int32} (h_ : 0 ≤ fLn b st en so) : ∃ j : Nat, j < 4 ∧ fLn b st en so = nI j := by
  unfold fLn at h_ ⊢
  by_cases q0_ : tNam b 6 st en so
  · rw [cif_t q0_]; exact ⟨0, by decide, rfl⟩
  rw [cif_f q0_] at h_ ⊢
  by_cases q1_ : tNam b 7 st en so
  · rw [cif_t q1_]; exact ⟨1, by decide, rfl⟩
  rw [cif_f q1_] at h_ ⊢
  by_cases q2_ : tNam b 8 st en so
  · rw [cif_t q2_]; exact ⟨2, by decide, rfl⟩
  rw [cif_f q2_] at h_ ⊢
  by_cases q3_ : tNam b 9 st en so
  · rw [cif_t q3_]; exact ⟨3, by decide, rfl⟩
  rw [cif_f q3_] at h_
  exact absurd h_ (by decide)
/-- one row of the text -/
noncomputable def tOne (b : Nat → Int32) (ln : Nat) (x : T5 × Kt) : T5 × Kt :=
  match x with
  | ((st, en, so, va, fa), (la, ns, to, he, sw, nh, ki, te, mi, ar)) =>
    cif (tNam b 10 st en so)
      (tStp b ln (tSy b ln (st, en, so, va, fa) ns to he sw).1, (la, (tSy b ln (st, en, so, va, fa) ns to he sw).2.1, (tSy b ln (st, en, so, va, fa) ns to he sw).2.2.1, (tSy b ln (st, en, so, va, fa) ns to he sw).2.2.2.1, (tSy b ln (st, en, so, va, fa) ns to he sw).2.2.2.2, nh, ki, te, mi, ar))
      (cif (0 ≤ fKn b st en so)
        (tStp b ln (tHr b ln (fKn b st en so) (st, en, so, va, fa) nh ki te mi ar).1, (la, ns, to, he, sw, (tHr b ln (fKn b st en so) (st, en, so, va, fa) nh ki te mi ar).2))
        (cif (0 ≤ fLn b st en so)
          (tStp b ln (tNum b ln (([9, 9, 9, 99] : List Int32).getD (fLn b st en so).toNatClampNeg 0) (tGo b ln (st, en, so, va, fa))).2, (upd la (fLn b st en so).toNatClampNeg (tNum b ln (([9, 9, 9, 99] : List Int32).getD (fLn b st en so).toNatClampNeg 0) (tGo b ln (st, en, so, va, fa))).1, ns, to, he, sw, nh, ki, te, mi, ar))
          (tStp b ln (st, en, so, va, fFl st fa), (la, ns, to, he, sw, nh, ki, te, mi, ar))))
noncomputable def tAll (b : Nat → Int32) (ln : Nat) : Nat → T5 × Kt → T5 × Kt
  | 0, x => x
  | n + 1, x => cif (x.1.2.2.1 = 0 ∨ ¬ x.1.2.2.2.2 < 0) x (tAll b ln n (tOne b ln x))
theorem tAll_e {b : Nat → Int32} {ln n : Nat} {x : T5 × Kt} (h_ : x.1.2.2.1 = 0) : tAll b ln n x = x := by
  cases n with
  | zero => rfl
  | succ n => unfold tAll; exact cif_t (Or.inl h_)
theorem tAll_f {b : Nat → Int32} {ln n : Nat} {x : T5 × Kt} (h_ : 0 ≤ x.1.2.2.2.2) : tAll b ln n x = x := by
  cases n with
  | zero => rfl
  | succ n => unfold tAll; exact cif_t (Or.inr (Int32.not_lt.mpr h_))
theorem tAll_0 {b : Nat → Int32} {ln n : Nat} {x : T5 × Kt} (h_ : n = 0) : tAll b ln n x = x := by subst h_; rfl
theorem tAll_s {b : Nat → Int32} {ln k : Nat} {x : T5 × Kt} (hk_ : k < 201) (h0_ : ¬ x.1.2.2.1 = 0) (h_ : x.1.2.2.2.2 < 0) : tAll b ln (201 - k) x = tAll b ln (201 - (k + 1)) (tOne b ln x) := by
  obtain ⟨d_, hd_⟩ : ∃ d, 201 - k = d + 1 := ⟨200 - k, by omega⟩
  rw [hd_, show 201 - (k + 1) = d_ by omega]
  conv => lhs; unfold tAll
  exact cif_f (fun z_ => z_.elim h0_ (fun y_ => y_ h_))
theorem tOne_le {b : Nat → Int32} {ln st0 en0 : Nat} {so0 va0 fa0 : Int32} {la : Nat → Int32} {ns : Nat} {to he sw : Nat → Int32} {nh : Nat} {ki te mi ar : Nat → Int32} {st en : Nat} {so va fa : Int32} {la1 : Nat → Int32} {ns1 : Nat} {to1 he1 sw1 : Nat → Int32} {nh1 : Nat} {ki1 te1 mi1 ar1 : Nat → Int32}
    (h_ : tOne b ln ((st0, en0, so0, va0, fa0), (la, ns, to, he, sw, nh, ki, te, mi, ar)) = ((st, en, so, va, fa), (la1, ns1, to1, he1, sw1, nh1, ki1, te1, mi1, ar1))) (he_ : en0 ≤ ln) (hs_ : st0 ≤ en0) (hn_ : ns ≤ 12) (hh_ : nh ≤ 8) : (st ≤ en ∧ en ≤ ln) ∧ ns1 ≤ 12 ∧ nh1 ≤ 8 := by
  unfold tOne at h_
  dsimp only at h_
  by_cases q1_ : tNam b 10 st0 en0 so0
  · rw [cif_t q1_] at h_
    rcases hg_ : tSy b ln (st0, en0, so0, va0, fa0) ns to he sw with ⟨⟨s1_, e1_, o1_, v1_, f1_⟩, n1_, t1_, i1_, w1_⟩
    have g_ := tSy_le hg_ he_ hs_ hn_
    rw [hg_] at h_
    have a_ := tStp_le (Prod.mk.inj h_).1 g_.1.2 g_.1.1
    have e1_ := (Prod.mk.inj (Prod.mk.inj (Prod.mk.inj h_).2).2).1
    have e2_ := (Prod.mk.inj (Prod.mk.inj (Prod.mk.inj (Prod.mk.inj (Prod.mk.inj (Prod.mk.inj (Prod.mk.inj h_).2).2).2).2).2).2).1
    try dsimp only at e1_ e2_
    exact ⟨a_, by omega, by omega⟩
  rw [cif_f q1_] at h_
  by_cases q2_ : 0 ≤ fKn b st0 en0 so0
  · rw [cif_t q2_] at h_
    rcases hg_ : tHr b ln (fKn b st0 en0 so0) (st0, en0, so0, va0, fa0) nh ki te mi ar with ⟨⟨s1_, e1_, o1_, v1_, f1_⟩, n1_, t1_, i1_, w1_, x1_⟩
    have g_ := tHr_le hg_ he_ hs_ hh_
    rw [hg_] at h_
    have a_ := tStp_le (Prod.mk.inj h_).1 g_.1.2 g_.1.1
    have e1_ := (Prod.mk.inj (Prod.mk.inj (Prod.mk.inj h_).2).2).1
    have e2_ := (Prod.mk.inj (Prod.mk.inj (Prod.mk.inj (Prod.mk.inj (Prod.mk.inj (Prod.mk.inj (Prod.mk.inj h_).2).2).2).2).2).2).1
    try dsimp only at e1_ e2_
    exact ⟨a_, by omega, by omega⟩
  rw [cif_f q2_] at h_
  by_cases q3_ : 0 ≤ fLn b st0 en0 so0
  · rw [cif_t q3_] at h_
    rcases hg_ : tGo b ln (st0, en0, so0, va0, fa0) with ⟨s1_, e1_, o1_, v1_, f1_⟩
    have g_ := tGo_le hg_ he_
    rw [hg_] at h_
    rcases hm_ : tNum b ln (([9, 9, 9, 99] : List Int32).getD (fLn b st0 en0 so0).toNatClampNeg 0) (s1_, e1_, o1_, v1_, f1_) with ⟨r2_, s2_, e2_, o2_, v2_, f2_⟩
    have g2_ := tNum_le hm_ g_.2 g_.1
    rw [hm_] at h_
    have a_ := tStp_le (Prod.mk.inj h_).1 g2_.2 g2_.1
    have e1_ := (Prod.mk.inj (Prod.mk.inj (Prod.mk.inj h_).2).2).1
    have e2_ := (Prod.mk.inj (Prod.mk.inj (Prod.mk.inj (Prod.mk.inj (Prod.mk.inj (Prod.mk.inj (Prod.mk.inj h_).2).2).2).2).2).2).1
    exact ⟨a_, by omega, by omega⟩
  rw [cif_f q3_] at h_
  have a_ := tStp_le (Prod.mk.inj h_).1 he_ hs_
  have e1_ := (Prod.mk.inj (Prod.mk.inj (Prod.mk.inj h_).2).2).1
  have e2_ := (Prod.mk.inj (Prod.mk.inj (Prod.mk.inj (Prod.mk.inj (Prod.mk.inj (Prod.mk.inj (Prod.mk.inj h_).2).2).2).2).2).2).1
  exact ⟨a_, by omega, by omega⟩
theorem tAll_le' {b : Nat → Int32} {ln : Nat} : ∀ (n : Nat) (x : T5 × Kt), (x.1.1 ≤ x.1.2.1 ∧ x.1.2.1 ≤ ln) ∧ x.2.2.1 ≤ 12 ∧ x.2.2.2.2.2.2.1 ≤ 8 → ((tAll b ln n x).1.1 ≤ (tAll b ln n x).1.2.1 ∧ (tAll b ln n x).1.2.1 ≤ ln) ∧ (tAll b ln n x).2.2.1 ≤ 12 ∧ (tAll b ln n x).2.2.2.2.2.2.1 ≤ 8 := by
  intro n
  induction n with
  | zero => intro x h_; exact h_
  | succ n ih_ =>
    intro x h_
    unfold tAll
    by_cases q_ : x.1.2.2.1 = 0 ∨ ¬ x.1.2.2.2.2 < 0
    · rw [cif_t q_]; exact h_
    · rw [cif_f q_]
      apply ih_
      obtain ⟨⟨s1_, e1_, o1_, v1_, f1_⟩, la, ns, to, he, sw, nh, ki, te, mi, ar⟩ := x
      exact tOne_le rfl h_.1.2 h_.1.1 h_.2.1 h_.2.2
theorem tAll_le {b : Nat → Int32} {ln n st0 : Nat} {so0 va0 fa0 : Int32} {la : Nat → Int32} {ns : Nat} {to he sw : Nat → Int32} {nh : Nat} {ki te mi ar : Nat → Int32} {st en : Nat} {so va fa : Int32} {la1 : Nat → Int32} {ns1 : Nat} {to1 he1 sw1 : Nat → Int32} {nh1 : Nat} {ki1 te1 mi1 ar1 : Nat → Int32}
    (h_ : tAll b ln n (tGo b ln (st0, 0, so0, va0, fa0), (la, ns, to, he, sw, nh, ki, te, mi, ar)) = ((st, en, so, va, fa), (la1, ns1, to1, he1, sw1, nh1, ki1, te1, mi1, ar1))) (hl_ : 0 ≤ ln) (hn_ : ns ≤ 12) (hh_ : nh ≤ 8) : (st ≤ en ∧ en ≤ ln) ∧ ns1 ≤ 12 ∧ nh1 ≤ 8 := by
  rcases hg_ : tGo b ln (st0, 0, so0, va0, fa0) with ⟨s1_, e1_, o1_, v1_, f1_⟩
  have g_ := tGo_le hg_ hl_
  have a_ := tAll_le' (b := b) (ln := ln) n ((s1_, e1_, o1_, v1_, f1_), (la, ns, to, he, sw, nh, ki, te, mi, ar)) ⟨g_, hn_, hh_⟩
  rw [hg_] at h_
  rw [h_] at a_
  exact a_
