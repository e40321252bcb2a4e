/-! the class's words and the model's: what depends on live entries alone -/
theorem ev_cg {la la' to to' he he' sw sw' : Nat → Int32} {k m : Int32} {sd : Nat} {x : Int32 × Int32} (hl_ : ∀ j, j < 4 → la j = la' j) : ∀ n, (∀ i, sd ≤ i → i < sd + n → to i = to' i ∧ he i = he' i ∧ sw i = sw' i) → evTA la k m to he sw sd n x = evTA la' k m to' he' sw' sd n x := by
  intro n
  induction n with
  | zero => intro _; rfl
  | succ n ih_ =>
    intro h_
    obtain ⟨a_, b_, c_⟩ := h_ (sd + n) (by omega) (by omega)
    unfold evTA
    rw [ih_ (fun i h1_ h2_ => h_ i h1_ (by omega)), a_, b_, c_, hl_ 0 (by decide), hl_ 1 (by decide), hl_ 2 (by decide)]
theorem fMask_cg {P Q : Nat → Prop} : ∀ n, (∀ h, h < n → (P h ↔ Q h)) → fMask P n = fMask Q n := by
  intro n
  induction n with
  | zero => intro _; rfl
  | succ n ih_ =>
    intro h_
    have i_ := ih_ (fun h a_ => h_ h (by omega))
    by_cases q_ : P n
    · rw [← fMask_st rfl q_, ← fMask_st rfl ((h_ n (by omega)).mp q_), i_]
    · rw [← fMask_sf rfl q_, ← fMask_sf rfl (fun z_ => q_ ((h_ n (by omega)).mpr z_)), i_]
theorem fCnt_cg {P Q : Nat → Prop} : ∀ n, (∀ h, h < n → (P h ↔ Q h)) → fCnt P n = fCnt Q n := by
  intro n
  induction n with
  | zero => intro _; rfl
  | succ n ih_ =>
    intro h_
    have i_ := ih_ (fun h a_ => h_ h (by omega))
    by_cases q_ : P n
    · rw [← fCnt_st rfl q_, ← fCnt_st rfl ((h_ n (by omega)).mp q_), i_]
    · rw [← fCnt_sf rfl q_, ← fCnt_sf rfl (fun z_ => q_ ((h_ n (by omega)).mpr z_)), i_]
theorem fSum_cg {f g : Nat → Int32} : ∀ n, (∀ h, h < n → f h = g h) → fSum f n = fSum g n := by
  intro n
  induction n with
  | zero => intro _; rfl
  | succ n ih_ =>
    intro h_
    unfold fSum
    rw [ih_ (fun h a_ => h_ h (by omega)), h_ n (by omega)]
theorem fOr_cg {P Q : Nat → Prop} {f g : Nat → Int32} : ∀ n, (∀ h, h < n → (P h ↔ Q h) ∧ f h = g h) → fOr P f n = fOr Q g n := by
  intro n
  induction n with
  | zero => intro _; rfl
  | succ n ih_ =>
    intro h_
    have i_ := ih_ (fun h a_ => h_ h (by omega))
    obtain ⟨a_, b_⟩ := h_ n (by omega)
    by_cases q_ : P n
    · rw [← fOr_st rfl q_, ← fOr_st rfl (a_.mp q_), i_, b_]
    · rw [← fOr_sf rfl q_, ← fOr_sf rfl (fun z_ => q_ (a_.mpr z_)), i_]
theorem fMax_cg {f g : Nat → Nat} : ∀ n, (∀ h, h < n → f h = g h) → fMax f n = fMax g n := by
  intro n
  induction n with
  | zero => intro _; rfl
  | succ n ih_ =>
    intro h_
    rw [fMax_1, fMax_1, ih_ (fun h a_ => h_ h (by omega)), h_ n (by omega)]
theorem fAl_cg {f g : Nat → Int32} {n : Nat} (h_ : ∀ h, h < n → f h = g h) : fAl f n = fAl g n := by
  unfold fAl
  exact fMax_cg n (fun h a_ => fCnt_cg n (fun j b_ => by rw [h_ h a_, h_ j b_]))
theorem fBest_cg {b0 : Int32} {o : Nat} {v w : Nat → Int32} : ∀ n, (∀ j, j < n → v (o + j) = w (o + j)) → fBest b0 o v n = fBest b0 o w n := by
  intro n
  induction n with
  | zero => intro _; rfl
  | succ n ih_ =>
    intro h_
    unfold fBest
    rw [ih_ (fun j a_ => h_ j (by omega)), h_ n (by omega)]
theorem fFst_cg {P Q : Nat → Prop} : ∀ n i, (∀ j, i ≤ j → j < i + n → (P j ↔ Q j)) → fFst P n i = fFst Q n i := by
  intro n
  induction n with
  | zero => intro i _; rfl
  | succ n ih_ =>
    intro i h_
    unfold fFst
    have i_ := ih_ (i + 1) (fun j a_ b_ => h_ j (by omega) (by omega))
    by_cases q_ : P i
    · rw [cif_t q_, cif_t ((h_ i (by omega) (by omega)).mp q_)]
    · rw [cif_f q_, cif_f (fun z_ => q_ ((h_ i (by omega) (by omega)).mpr z_)), i_]
theorem fFst_no {P : Nat → Prop} : ∀ n i, (∀ j, i ≤ j → ¬ P j) → fFst P n i = -3 := by
  intro n
  induction n with
  | zero => intro i _; rfl
  | succ n ih_ =>
    intro i h_
    unfold fFst
    rw [cif_f (h_ i (Nat.le_refl _))]
    exact ih_ (i + 1) (fun j a_ => h_ j (by omega))
/-- the first of those up to N, where what comes behind N is as at N -/
theorem fFst_cut {P Q : Nat → Prop} {N : Nat} (hq_ : ∀ i, i ≤ N → (P i ↔ Q i)) (hn_ : ∀ i, N < i → (P i ↔ P N)) : ∀ d i m, i + d = N + 1 → (i = N + 1 → ¬ P N) → d ≤ m → fFst P m i = fFst Q d i := by
  intro d
  induction d with
  | zero =>
    intro i m h_ h1_ _
    have e_ : i = N + 1 := by omega
    rw [fFst_no m i (fun j a_ z_ => h1_ e_ ((hn_ j (by omega)).mp z_))]; rfl
  | succ d ih_ =>
    intro i m h_ _ hm_
    obtain ⟨m', rfl⟩ : ∃ m', m = m' + 1 := ⟨m - 1, by omega⟩
    unfold fFst
    by_cases q_ : P i
    · rw [cif_t q_, cif_t ((hq_ i (by omega)).mp q_)]
    · rw [cif_f q_, cif_f (fun z_ => q_ ((hq_ i (by omega)).mpr z_))]
      exact ih_ (i + 1) m' (by omega) (fun e_ => by rw [show N = i by omega]; exact q_) (by omega)
theorem fFit_cg {P Q : Nat → Prop} : ∀ n, n ≤ 100 → (∀ t, t < 100 → (P t ↔ Q t)) → fFit P n = fFit Q n := by
  intro n
  induction n with
  | zero => intro _ _; rfl
  | succ n ih_ =>
    intro hn_ h_
    unfold fFit
    rw [ih_ (by omega) h_]
    by_cases q_ : P (99 - n)
    · rw [cif_t q_, cif_t ((h_ _ (by omega)).mp q_)]
    · rw [cif_f q_, cif_f (fun z_ => q_ ((h_ _ (by omega)).mpr z_))]
theorem fEno_cg {C D : Nat → Prop} : ∀ n, (∀ j, j < n → (C j ↔ D j)) → fEno C n = fEno D n := by
  intro n
  induction n with
  | zero => intro _; rfl
  | succ n ih_ =>
    intro h_
    unfold fEno
    rw [ih_ (fun j a_ => h_ j (by omega)), propext (h_ n (by omega))]
/-- who is counted: by none so far, the class's way and the model's -/
theorem mEno_e {C : Nat → Prop} : ∀ n, n ≤ 256 → (fEno C n = -3 ∧ fEm C n = -1) ∨ (fEno C n = fEm C n ∧ ∃ k, k < n ∧ fEm C n = nI k) := by
  intro n
  induction n with
  | zero => intro _; exact Or.inl ⟨rfl, rfl⟩
  | succ n ih_ =>
    intro hn_
    rcases ih_ (by omega) with ⟨a_, b_⟩ | ⟨a_, k, hk_, b_⟩
    · by_cases q_ : C n
      · refine Or.inr ⟨?_, n, by omega, ?_⟩
        · unfold fEno fEm
          rw [cif_t ⟨q_, Or.inl a_⟩, cif_t ⟨Or.inl (by rw [b_]; decide), q_⟩]
        · unfold fEm
          rw [cif_t ⟨Or.inl (by rw [b_]; decide), q_⟩]
      · refine Or.inl ⟨?_, ?_⟩
        · unfold fEno; rw [cif_f (fun z_ => q_ z_.1)]; exact a_
        · unfold fEm; rw [cif_f (fun z_ => q_ z_.2)]; exact b_
    · have n3_ : ¬ fEm C n = -3 := by rw [b_]; exact fun z_ => absurd (z_ ▸ nI_pos' (n := k) (by omega) : (0 : Int32) ≤ -3) (by decide)
      have n0_ : ¬ fEm C n < 0 := by rw [b_]; exact nI_pos (by omega)
      by_cases q_ : C n ∧ fBC (nI n) < fBC (fEm C n)
      · refine Or.inr ⟨?_, n, by omega, ?_⟩
        · unfold fEno fEm
          rw [a_, cif_t ⟨q_.1, Or.inr q_.2⟩, cif_t ⟨Or.inr q_.2, q_.1⟩]
        · unfold fEm
          rw [cif_t ⟨Or.inr q_.2, q_.1⟩]
      · refine Or.inr ⟨?_, k, by omega, ?_⟩
        · unfold fEno fEm
          rw [a_, cif_f (fun z_ => z_.2.elim n3_ (fun y_ => q_ ⟨z_.1, y_⟩)), cif_f (fun z_ => z_.1.elim n0_ (fun y_ => q_ ⟨z_.2, y_⟩))]
        · unfold fEm
          rw [cif_f (fun z_ => z_.1.elim n0_ (fun y_ => q_ ⟨z_.2, y_⟩))]; exact b_
theorem mEno_f {C : Nat → Prop} {n : Nat} (hn_ : n ≤ 256) : mEno C n = fEno C n := by
  unfold mEno
  rcases mEno_e (C := C) n hn_ with ⟨a_, b_⟩ | ⟨a_, k, hk_, b_⟩
  · rw [if_pos (by rw [b_]; decide), a_]
  · rw [if_neg (by rw [b_]; exact nI_pos (by omega)), a_]
/-! bits counted -/
def fCb (p : Nat → Bool) : Nat → Nat
  | 0 => 0
  | k + 1 => if p k then fCb p k + 1 else fCb p k
theorem fCb_c {p : Nat → Bool} : ∀ n, fCb p n = fCnt (fun i => p i = true) n := by
  intro n
  induction n with
  | zero => rfl
  | succ n ih_ =>
    unfold fCb
    by_cases q_ : p n = true
    · rw [if_pos q_, ih_]; exact fCnt_st rfl q_
    · rw [if_neg q_, ih_]; exact fCnt_sf rfl q_
theorem bc_al2 : ∀ a, a < 64 → ∀ b, b < 64 → fBC (nI (64 * a + b)) = nI (fCb (fun i => bt (nI (64 * a + b)) i) 12) := by decide +kernel
theorem bc_n {x : Int32} (h_ : loB 12 x) : fBC x = nI (fCnt (fun i => bt x i = true) 12) := by
  obtain ⟨n, hn_, rfl⟩ := lo_ex h_
  have a_ := bc_al2 (n / 64) (by omega) (n % 64) (by omega)
  rw [show 64 * (n / 64) + n % 64 = n by omega] at a_
  rw [a_, fCb_c]
theorem bt_mask {P : Nat → Prop} {i : Nat} (hi_ : i < 32) : ∀ n, n ≤ 32 → (bt (fMask P n) i = true ↔ i < n ∧ P i) := by
  intro n
  induction n with
  | zero => intro _; rw [show fMask P 0 = 0 from rfl, b_0]; simp
  | succ n ih_ =>
    intro hn_
    by_cases q_ : P n
    · rw [← fMask_st rfl q_, b_or, Bool.or_eq_true, ih_ (by omega), bt_only (by omega) hi_, decide_eq_true_iff]
      constructor
      · rintro (z_ | z_)
        · exact ⟨by omega, z_.2⟩
        · subst z_; exact ⟨by omega, q_⟩
      · rintro ⟨a_, b_⟩
        by_cases e_ : i = n
        · exact Or.inr e_
        · exact Or.inl ⟨by omega, b_⟩
    · rw [← fMask_sf rfl q_, ih_ (by omega)]
      constructor
      · rintro ⟨a_, b_⟩; exact ⟨by omega, b_⟩
      · rintro ⟨a_, b_⟩
        refine ⟨?_, b_⟩
        rcases Nat.lt_or_ge i n with z_ | z_
        · exact z_
        · exact absurd (show P n by rw [show n = i by omega]; exact b_) q_
theorem fCnt_0 {P : Nat → Prop} {m : Nat} : ∀ n, m ≤ n → (∀ i, m ≤ i → i < n → ¬ P i) → fCnt P n = fCnt P m := by
  intro n
  induction n with
  | zero => intro h_ _; rw [show m = 0 by omega]
  | succ n ih_ =>
    intro h_ h1_
    by_cases e_ : m = n + 1
    · rw [e_]
    · rw [← fCnt_sf (P := P) (k := n) rfl (h1_ n (by omega) (by omega))]
      exact ih_ (by omega) (fun i a_ b_ => h1_ i a_ (by omega))
theorem fCnt_no {P : Nat → Prop} : ∀ n, fCnt P n + fCnt (fun i => ¬ P i) n = n := by
  intro n
  induction n with
  | zero => rfl
  | succ n ih_ =>
    by_cases q_ : P n
    · rw [← fCnt_st (P := P) (k := n) rfl q_, ← fCnt_sf (P := fun i => ¬ P i) (k := n) rfl (fun z_ => z_ q_)]; omega
    · rw [← fCnt_sf (P := P) (k := n) rfl q_, ← fCnt_st (P := fun i => ¬ P i) (k := n) rfl q_]; omega
theorem bc_mask {P : Nat → Prop} {n : Nat} (hn_ : n ≤ 12) : fBC (fMask P n) = nI (fCnt P n) := by
  rw [bc_n (lo_mask hn_), fCnt_0 (m := n) 12 hn_ (fun i a_ b_ z_ => by have := ((bt_mask (by omega) n (by omega)).mp z_).1; omega)]
  rw [fCnt_cg n (fun i a_ => (bt_mask (P := P) (i := i) (by omega) n (by omega)).trans (and_iff_right a_))]
/-- right, the class's way and the model's -/
theorem rt_e {x : Int32} {sw : Nat → Int32} {ns : Nat} (hn_ : ns ≤ 12) (hx_ : loB ns x) : nI (fCnt (fun s_ => hasP x (nI s_) ↔ sw s_ = 1) ns) = nI ns - fBC (x ^^^ fMask (fun s_ => sw s_ = 1) ns) := by
  have l_ : loB 12 (x ^^^ fMask (fun s_ => sw s_ = 1) ns) := lo_xor (lo_up hx_ hn_) (lo_mask hn_)
  rw [bc_n l_, fCnt_0 (m := ns) 12 hn_ (fun i a_ b_ z_ => by
    have e_ := lo_xor hx_ (lo_mask' (P := fun s_ => sw s_ = 1) (show ns ≤ 32 by omega) ns (Nat.le_refl _)) i a_ (by omega)
    rw [e_] at z_; cases z_)]
  have c_ := fCnt_no (P := fun s_ => hasP x (nI s_) ↔ sw s_ = 1) ns
  have d_ : fCnt (fun i => bt (x ^^^ fMask (fun s_ => sw s_ = 1) ns) i = true) ns = fCnt (fun i => ¬ (hasP x (nI i) ↔ sw i = 1)) ns := fCnt_cg ns (fun i a_ => by
    have m_ := bt_mask (P := fun s_ => sw s_ = 1) (i := i) (by omega) ns (by omega)
    rw [b_xor, hasP_bt (by omega)]
    cases h1_ : bt x i <;> cases h2_ : bt (fMask (fun s_ => sw s_ = 1) ns) i <;> rw [h2_] at m_ <;> simp [a_] at m_ ⊢ <;> exact m_)
  rw [d_, pk_sub (by omega)]
  congr 1
  omega
theorem mRt_e {la ki mi te ar to he sw : Nat → Int32} {ns sd h : Nat} (hn_ : ns ≤ 12) (hd_ : sd ≤ ns) (ha_ : loB sd (ar h)) : nI (fRt la ki mi te ar to he sw ns sd h) = mRt la ki mi te ar to he sw ns sd h := by
  have l_ := ev_lo (la := la) (ki := ki h) (mi := mi h) (to := to) (he := he) (sw := sw) (sd := sd) (x := (te h, ar h)) ha_ (ns - sd) (by omega)
  rw [show sd + (ns - sd) = ns by omega] at l_
  unfold fRt mRt
  exact rt_e hn_ l_
