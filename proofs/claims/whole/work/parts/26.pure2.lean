/-! plain functions for GooseArms's own methods -/
theorem inM_t {a j m : Nat} (ha_ : a ≤ j) (h_ : j ≤ m) (hm_ : m < 2147483648) : nI a ≤ nI j ∧ nI j ≤ nI m := ⟨nI_le ha_ (by omega), nI_le h_ hm_⟩
def fZer (n : Nat) (f : Nat → Int32) : Nat → Int32 := fun j_ => if j_ < n then 0 else f j_
theorem fZer_0 {f : Nat → Int32} : f = fZer 0 f := rfl
theorem fZer_s {f f1 : Nat → Int32} {k : Nat} (h_ : f1 = fZer k f) : upd f1 k 0 = fZer (k + 1) f := by
  funext j_
  unfold fZer
  by_cases e_ : j_ = k
  · subst e_; rw [pk_us, if_pos (Nat.lt_succ_self _)]
  · rw [pk_un e_, h_]; unfold fZer
    by_cases q_ : j_ < k
    · rw [if_pos q_, if_pos (by omega)]
    · rw [if_neg q_, if_neg (by omega)]
def fZn (z : Int32) : Nat → Int32
  | 0 => z
  | n + 1 => fZ (fZ (fZn z n))
noncomputable def fFst (P : Nat → Prop) : Nat → Nat → Int32
  | 0, _ => -3
  | f + 1, i => cif (P i) (nI i) (fFst P f (i + 1))
theorem fFst_t {P : Nat → Prop} {n i : Nat} (hi_ : i < n) (hp_ : P i) : fFst P (n - i) i = nI i := by
  obtain ⟨d_, hd_⟩ : ∃ d, n - i = d + 1 := ⟨n - i - 1, by omega⟩
  rw [hd_]; unfold fFst; exact cif_t hp_
theorem fFst_f {P : Nat → Prop} {n i : Nat} (hi_ : i < n) (hp_ : ¬ P i) : fFst P (n - i) i = fFst P (n - (i + 1)) (i + 1) := by
  obtain ⟨d_, hd_⟩ : ∃ d, n - i = d + 1 := ⟨n - i - 1, by omega⟩
  rw [hd_, show n - (i + 1) = d_ by omega]; conv => lhs; unfold fFst
  exact cif_f hp_
theorem fFst_e {P : Nat → Prop} {n i : Nat} (hi_ : n ≤ i) : fFst P (n - i) i = -3 := by
  rw [show n - i = 0 by omega]; rfl
def fBest (b0 : Int32) (o : Nat) (v : Nat → Int32) : Nat → Int32 × Int32
  | 0 => (b0, -1)
  | n + 1 => if (fBest b0 o v n).2 < v (o + n) then (nI (o + n), v (o + n)) else fBest b0 o v n
theorem fBest_t {b0 b m : Int32} {o k : Nat} {v : Nat → Int32} {x : Int32} (hx_ : fBest b0 o v k = (b, m)) (hv_ : x = v (o + k)) (h_ : ¬ x ≤ m) : fBest b0 o v (k + 1) = (nI (o + k), x) := by
  unfold fBest
  rw [hx_, if_pos (by rw [← hv_]; exact Int32.not_le.mp h_), ← hv_]
theorem fBest_f {b0 b m : Int32} {o k : Nat} {v : Nat → Int32} {x : Int32} (hx_ : fBest b0 o v k = (b, m)) (hv_ : x = v (o + k)) (h_ : x ≤ m) : fBest b0 o v (k + 1) = (b, m) := by
  unfold fBest
  rw [hx_, if_neg (by rw [← hv_]; exact Int32.not_lt.mpr h_)]
noncomputable def fEno (C : Nat → Prop) : Nat → Int32
  | 0 => -3
  | n + 1 => cif (C n ∧ (fEno C n = -3 ∨ fBC (nI n) < fBC (fEno C n))) (nI n) (fEno C n)
theorem fEno_t {C : Nat → Prop} {k : Nat} {b : Int32} (hb_ : b = fEno C k) (hc_ : C k) (h_ : b = -3 ∨ fBC (nI k) < fBC b) : nI k = fEno C (k + 1) := by
  subst hb_; conv => rhs; unfold fEno
  exact (cif_t ⟨hc_, h_⟩).symm
theorem fEno_f {C : Nat → Prop} {k : Nat} {b : Int32} (hb_ : b = fEno C k) (h_ : ¬ (C k ∧ (b = -3 ∨ fBC (nI k) < fBC b))) : b = fEno C (k + 1) := by
  subst hb_; conv => rhs; unfold fEno
  exact (cif_f h_).symm
noncomputable def fFit (Q : Nat → Prop) : Nat → Nat × Int32
  | 0 => (0, -3)
  | j + 1 => cif (Q (99 - j)) ((fFit Q j).1 + 1, nI (99 - j)) (fFit Q j)
theorem fFit_t {Q : Nat → Prop} {j t c : Nat} {m : Int32} (h_ : fFit Q j = (c, m)) (ht_ : t = 99 - j) (hq_ : Q t) : fFit Q (j + 1) = (c + 1, nI t) := by
  subst ht_; unfold fFit; rw [cif_t hq_, h_]
theorem fFit_f {Q : Nat → Prop} {j t c : Nat} {m : Int32} (h_ : fFit Q j = (c, m)) (ht_ : t = 99 - j) (hq_ : ¬ Q t) : fFit Q (j + 1) = (c, m) := by
  subst ht_; unfold fFit; rw [cif_f hq_, h_]
def fRow3 (a b c : Nat → Int32) (f : Nat → Int32) : Nat → Nat → Int32
  | 0 => f
  | k + 1 => upd (upd (upd (fRow3 a b c f k) (k * 3) (a k)) (k * 3 + 1) (b k)) (k * 3 + 2) (c k)
theorem fRow3_s {a b c f f1 : Nat → Int32} {k : Nat} {x y z : Int32} (hf_ : f1 = fRow3 a b c f k) (ha_ : x = a k) (hb_ : y = b k) (hc_ : z = c k) : upd (upd (upd f1 (k * 3) x) (k * 3 + 1) y) (k * 3 + 2) z = fRow3 a b c f (k + 1) := by
  subst hf_; subst ha_; subst hb_; subst hc_; rfl
noncomputable def fJu (P : Nat → Prop) : Nat → Nat → Int32
  | 0, _ => 0
  | f + 1, i => cif (P i) (fJu P f (i + 1)) (nI (i + 1))
theorem fJu_t {P : Nat → Prop} {n i : Nat} (hi_ : i < n) (hp_ : P i) : fJu P (n - i) i = fJu P (n - (i + 1)) (i + 1) := by
  obtain ⟨d_, hd_⟩ : ∃ d, n - i = d + 1 := ⟨n - i - 1, by omega⟩
  rw [hd_, show n - (i + 1) = d_ by omega]; conv => lhs; unfold fJu
  exact cif_t hp_
theorem fJu_f {P : Nat → Prop} {n i : Nat} (hi_ : i < n) (hp_ : ¬ P i) : fJu P (n - i) i = nI (i + 1) := by
  obtain ⟨d_, hd_⟩ : ∃ d, n - i = d + 1 := ⟨n - i - 1, by omega⟩
  rw [hd_]; unfold fJu
  exact cif_f hp_
theorem fJu_e {P : Nat → Prop} {n i : Nat} (hi_ : n ≤ i) : fJu P (n - i) i = 0 := by
  rw [show n - i = 0 by omega]; rfl
def fMi (te : Nat → Int32) (h : Nat) (it : Nat → Int64) (i : Nat) : Nat → Nat → Int32
  | 0 => te
  | k + 1 => upd (fMi te h it i k) (h + k) (heldI (it (i + k)).toInt32)
theorem evTA_c {la : Nat → Int32} {ki mi : Int32} {to he sw : Nat → Int32} {sd a : Nat} {x : Int32 × Int32} : ∀ b : Nat, evTA la ki mi to he sw sd (a + b) x = evTA la ki mi to he sw (sd + a) b (evTA la ki mi to he sw sd a x) := by
  intro b
  induction b with
  | zero => rfl
  | succ b ih_ =>
    show evTA la ki mi to he sw sd ((a + b) + 1) x = _
    conv => lhs; unfold evTA
    conv => rhs; unfold evTA
    rw [ih_, Nat.add_assoc sd a b]
theorem fTA_c {L : Nat → Prop} {la ki mi te ar to he sw te1 ar1 : Nat → Int32} {sd sd1 a : Nat} (hte_ : te1 = fTe L la ki mi te ar to he sw sd a) (har_ : ar1 = fAr L la ki mi te ar to he sw sd a) (hs_ : sd1 = sd + a) (b : Nat) : fTe L la ki mi te1 ar1 to he sw sd1 b = fTe L la ki mi te ar to he sw sd (a + b) ∧ fAr L la ki mi te1 ar1 to he sw sd1 b = fAr L la ki mi te ar to he sw sd (a + b) := by
  subst hs_
  constructor
  · funext h
    unfold fTe
    by_cases q_ : L h
    · rw [fSel_t q_, fSel_t q_, evTA_c b, hte_, har_, fTe_at q_, fAr_at q_]
    · rw [fSel_f q_, fSel_f q_, hte_]; unfold fTe; rw [fSel_f q_]
  · funext h
    unfold fAr
    by_cases q_ : L h
    · rw [fSel_t q_, fSel_t q_, evTA_c b, hte_, har_, fTe_at q_, fAr_at q_]
    · rw [fSel_f q_, fSel_f q_, har_]; unfold fAr; rw [fSel_f q_]
theorem shl_2 : ∀ n, n < 9 → (1 : Int32) <<< (nI n &&& 31) = nI (2 ^ n) := by decide +kernel
theorem and_m1 {P : Prop} : P ↔ P := Iff.rfl
noncomputable def fCrt (f : Nat → Int32) (ln : Nat) (st : Nat) (so va : Int32) (to he sw ki te mi ar : Nat → Int32) : T5 × Kt := tAll f ln 201 (tGo f ln (st, 0, so, va, -3), (svI [2, 3, 1, 20], 0, to, he, sw, 0, ki, te, mi, ar))
