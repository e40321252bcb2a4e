/-! draws, bytes, fractions, rows -/
theorem fDr_n (z : Int32) : ∃ d : Nat, d < 65536 ∧ fDr z = nI d := by
  refine ⟨(fDr z).toBitVec.toNat, ?_, ?_⟩
  · unfold fDr
    rw [pk_ushr (fZ z) 16 16 (by decide)]
    have := (fZ z).toBitVec.isLt
    omega
  · exact Int32.toBitVec_inj.mp (by
      show (fDr z).toBitVec = BitVec.ofNat 32 (fDr z).toBitVec.toNat
      rw [BitVec.ofNat_toNat, BitVec.setWidth_eq])
theorem fRem_n {z : Int32} {nh : Nat} (h0_ : 0 < nh) (hn_ : nh ≤ 8) : ∃ p : Nat, p < nh ∧ fRem (fDr z) (nI nh) = nI p := by
  obtain ⟨d, hd_, e_⟩ := fDr_n z
  refine ⟨d % nh, Nat.mod_lt _ h0_, ?_⟩
  rw [e_]; unfold fRem
  exact pk_rem (by omega) h0_ (by omega)
theorem dr_has {P : Nat → Prop} {z dl : Int32} {nh h : Nat} (hn_ : nh ≤ 8) (h0_ : 0 < nh) (hh_ : h < nh) : hasP (fMask P nh ||| fDrawn z dl nh) (nI h) ↔ (nI h = fChl z dl nh ∨ P h) := by
  obtain ⟨p, hp_, e_⟩ := fRem_n (z := z) h0_ hn_
  rw [hasP_or _ _ (by omega), fMask_has (by omega) nh (by omega)]
  unfold fDrawn fChl
  by_cases q_ : fRem (fDr (fZ z)) 100 < dl
  · rw [if_pos q_, if_pos q_, e_, bit_all p (by omega) h (by omega), nI_eq (by omega) (by omega)]
    constructor
    · rintro (z_ | z_)
      · exact Or.inr z_.2
      · exact Or.inl z_.symm
    · rintro (z_ | z_)
      · exact Or.inr z_.symm
      · exact Or.inl ⟨hh_, z_⟩
  · rw [if_neg q_, if_neg q_]
    constructor
    · rintro (z_ | z_)
      · exact Or.inr z_.2
      · exact absurd z_ (hasP_0 (by omega))
    · rintro (z_ | z_)
      · exact absurd z_ (nI_m1 (by omega))
      · exact Or.inl ⟨hh_, z_⟩
theorem dr_set {P : Nat → Prop} {z dl : Int32} {nh : Nat} (hn_ : nh ≤ 8) (h0_ : 0 < nh) : fMask P nh ||| fDrawn z dl nh = fMask (fun h_ => nI h_ = fChl z dl nh ∨ P h_) nh := by
  obtain ⟨p, hp_, e_⟩ := fRem_n (z := z) h0_ hn_
  apply b_ext
  intro i hi_
  have a_ := bt_mask (P := P) hi_ nh (by omega)
  have b_ := bt_mask (P := fun h_ => nI h_ = fChl z dl nh ∨ P h_) hi_ nh (by omega)
  rw [b_or]
  by_cases l_ : i < nh
  · have d_ := dr_has (P := P) (z := z) (dl := dl) hn_ h0_ l_
    rw [hasP_bt hi_, b_or] at d_
    cases c_ : (bt (fMask P nh) i || bt (fDrawn z dl nh) i) <;> rw [c_] at d_ <;> cases g_ : bt (fMask (fun h_ => nI h_ = fChl z dl nh ∨ P h_) nh) i <;> rw [g_] at b_
    · exact absurd (d_.mpr (b_.mp rfl).2) (by decide)
    · exact absurd (b_.mpr ⟨l_, d_.mp rfl⟩) (by decide)
  · have x1_ : bt (fMask P nh) i = false := by
      cases g_ : bt (fMask P nh) i
      · rfl
      · exact absurd (a_.mp g_).1 l_
    have x2_ : bt (fMask (fun h_ => nI h_ = fChl z dl nh ∨ P h_) nh) i = false := by
      cases g_ : bt (fMask (fun h_ => nI h_ = fChl z dl nh ∨ P h_) nh) i
      · rfl
      · exact absurd (b_.mp g_).1 l_
    have x3_ : bt (fDrawn z dl nh) i = false := by
      unfold fDrawn
      by_cases q_ : fRem (fDr (fZ z)) 100 < dl
      · rw [if_pos q_, e_, bt_only (by omega) hi_]; simp; omega
      · rw [if_neg q_, b_0]
    rw [x1_, x2_, x3_]; rfl
theorem fCnt_sub {P Q : Nat → Prop} (h_ : ∀ h, P h → Q h) : ∀ n, fCnt P n ≤ fCnt Q n ∧ (fCnt P n < fCnt Q n ∨ ∀ h, h < n → (P h ↔ Q h)) := by
  intro n
  induction n with
  | zero => exact ⟨Nat.le_refl _, Or.inr (fun h a_ => absurd a_ (Nat.not_lt_zero _))⟩
  | succ n ih_ =>
    obtain ⟨i1_, i2_⟩ := ih_
    by_cases p_ : P n
    · rw [← fCnt_st (P := P) (k := n) rfl p_, ← fCnt_st (P := Q) (k := n) rfl (h_ n p_)]
      refine ⟨by omega, i2_.imp (fun z_ => by omega) (fun z_ => lt_s z_ ⟨fun _ => h_ n p_, fun _ => p_⟩)⟩
    · rw [← fCnt_sf (P := P) (k := n) rfl p_]
      by_cases q_ : Q n
      · rw [← fCnt_st (P := Q) (k := n) rfl q_]
        exact ⟨by omega, Or.inl (by omega)⟩
      · rw [← fCnt_sf (P := Q) (k := n) rfl q_]
        exact ⟨i1_, i2_.imp id (fun z_ => lt_s z_ ⟨fun y_ => absurd y_ p_, fun y_ => absurd y_ q_⟩)⟩
/-- more are raised: as a set, or by how many -/
theorem more_e {P Q : Nat → Prop} {n : Nat} (hn_ : n ≤ 8) (h_ : ∀ h, P h → Q h) : (¬ fMask Q n = fMask P n) ↔ fBC (fMask P n) < fBC (fMask Q n) := by
  rw [bc_mask (by omega), bc_mask (by omega), nI_ltI (Nat.lt_of_le_of_lt (fCnt_le n) (by omega)) (Nat.lt_of_le_of_lt (fCnt_le n) (by omega))]
  obtain ⟨a_, b_⟩ := fCnt_sub h_ n
  constructor
  · intro z_
    rcases b_ with b_ | b_
    · exact b_
    · exact absurd (fMask_cg n b_).symm z_
  · intro z_ e_
    have c_ := bc_mask (P := P) (n := n) (by omega)
    rw [← e_, bc_mask (by omega), nI_eq (Nat.lt_of_le_of_lt (fCnt_le n) (by omega)) (Nat.lt_of_le_of_lt (fCnt_le n) (by omega))] at c_
    omega
/-! bytes -/
theorem mByte_n (e : Int64) (k : Nat) : ∃ n : Nat, n < 256 ∧ mByte e k = nI n ∧ n = ((e >>> ((nI (8 * k)).toInt64 &&& 63)) &&& 255).toBitVec.toNat := by
  generalize hy_ : (e >>> ((nI (8 * k)).toInt64 &&& 63)) = y
  have h_ : (y &&& 255).toBitVec.toNat < 256 := by
    rw [Int64.toBitVec_and, BitVec.toNat_and]
    exact Nat.lt_of_le_of_lt Nat.and_le_right (by decide)
  refine ⟨(y &&& 255).toBitVec.toNat, h_, ?_, rfl⟩
  unfold mByte
  rw [hy_, ← lN_i]
  congr 1
  exact Int64.toBitVec_inj.mp (by
    show _ = BitVec.ofNat 64 (y &&& 255).toBitVec.toNat
    rw [BitVec.ofNat_toNat, BitVec.setWidth_eq])
theorem s64 : ∀ k, k < 8 → (((nI (8 * k)).toInt64 &&& 63).toBitVec.smod 64).toNat = 8 * k ∧ (((nI (8 * k)).toInt64.toUInt64 &&& Int64.toUInt64 63).toBitVec % 64).toNat = 8 * k := by decide +kernel
theorem byte_e {e : Int64} {k : Nat} (hk_ : k < 8) : fByte e k = (mByte e k).toInt8.toInt32 := by
  unfold fByte mByte
  congr 1
  apply Int8.toBitVec_inj.mp
  apply BitVec.eq_of_getLsbD_eq
  intro i hi_
  have h1_ : (e >>> ((nI (8 * k)).toInt64 &&& 63)).toBitVec = e.toBitVec.sshiftRight (8 * k) := by
    rw [Int64.toBitVec_shiftRight]
    show e.toBitVec.sshiftRight ((((nI (8 * k)).toInt64 &&& 63).toBitVec.smod 64).toNat) = _
    rw [(s64 k hk_).1]
  have h2_ : ((e.toUInt64 >>> ((nI (8 * k)).toInt64.toUInt64 &&& Int64.toUInt64 63)).toInt64).toBitVec = e.toBitVec >>> (8 * k) := by
    show (e.toUInt64 >>> ((nI (8 * k)).toInt64.toUInt64 &&& Int64.toUInt64 63)).toBitVec = _
    rw [UInt64.toBitVec_shiftRight]
    show e.toBitVec >>> ((((nI (8 * k)).toInt64.toUInt64 &&& Int64.toUInt64 63).toBitVec % 64).toNat) = _
    rw [(s64 k hk_).2]
  simp only [Int32.toBitVec_toInt8, Int64.toBitVec_toInt32, h2_, Int64.toBitVec_and, h1_]
  rw [BitVec.getLsbD_signExtend, BitVec.getLsbD_signExtend, BitVec.getLsbD_signExtend, BitVec.getLsbD_signExtend, BitVec.getLsbD_and, BitVec.getLsbD_sshiftRight, BitVec.getLsbD_ushiftRight]
  have f_ : ∀ j, j < 8 → (255 : Int64).toBitVec.getLsbD j = true := by decide +kernel
  rw [f_ i hi_]
  simp [hi_, show i < 32 by omega, show i < 64 by omega, show 8 * k + i < 64 by omega, show ¬ 64 ≤ i by omega]
/-! fractions -/
theorem fGcd_n : ∀ n x y, y < 2 ^ n → x < 2 ^ 62 → n ≤ 62 → ∀ m, 2 * n ≤ m → fGcd m (lN x, lN y) = (lN (Nat.gcd x y), 0) := by
  intro n
  induction n with
  | zero =>
    intro x y hy_ hx_ hn_ m hm_
    have e_ : y = 0 := by omega
    subst e_
    rw [fGcd_e (x := (lN x, lN 0)) rfl, Nat.gcd_zero_right]; rfl
  | succ n ih_ =>
    intro x y hy_ hx_ hn_ m hm_
    have p_ : (2 : Nat) ^ (n + 1) = 2 * 2 ^ n := by rw [Nat.pow_succ]; omega
    have p62_ : (2 : Nat) ^ (n + 1) ≤ 2 ^ 62 := Nat.pow_le_pow_right (by decide) hn_
    by_cases y0_ : y = 0
    · subst y0_
      rw [fGcd_e (x := (lN x, lN 0)) rfl, Nat.gcd_zero_right]; rfl
    obtain ⟨m1, rfl⟩ : ∃ m1, m = m1 + 1 + 1 := ⟨m - 2, by omega⟩
    have n0_ : ∀ a, a < 2 ^ 62 → ¬ a = 0 → ¬ lN a = 0 := fun a ha_ h0_ z_ => h0_ ((pk_lEQ (a := a) (b := 0) (by omega) (by decide)).mp z_)
    have r_ : x % y < y := Nat.mod_lt _ (by omega)
    unfold fGcd
    rw [if_neg (n0_ y (by omega) y0_)]
    show fGcd (m1 + 1) (lN y, lN x - lN x / lN y * lN y) = _
    rw [pk_lRem (by omega) (by omega) (by omega)]
    have g1_ : Nat.gcd y (x % y) = Nat.gcd x y := by rw [Nat.gcd_comm x y, Nat.gcd_rec y x, Nat.gcd_comm]
    by_cases r0_ : x % y = 0
    · rw [← g1_, r0_, fGcd_e (x := (lN y, lN 0)) rfl, Nat.gcd_zero_right]; rfl
    unfold fGcd
    rw [if_neg (n0_ (x % y) (by omega) r0_)]
    show fGcd m1 (lN (x % y), lN y - lN y / lN (x % y) * lN (x % y)) = _
    rw [pk_lRem (by omega) (by omega) (by omega)]
    have g2_ : Nat.gcd (x % y) (y % (x % y)) = Nat.gcd y (x % y) := by rw [Nat.gcd_comm y (x % y), Nat.gcd_rec (x % y) y, Nat.gcd_comm]
    have h_ : y % (x % y) < x % y := Nat.mod_lt _ (by omega)
    have k_ : y % (x % y) + x % y ≤ y := by
      have a_ := Nat.div_add_mod y (x % y)
      have b_ : 1 ≤ y / (x % y) := (Nat.one_le_div_iff (by omega)).mpr (by omega)
      have c_ := Nat.mul_le_mul_left (x % y) b_
      omega
    rw [ih_ (x % y) (y % (x % y)) (by omega) (by omega) (by omega) m1 (by omega), g2_, g1_]
theorem fPart_e {A B : Nat} {p : Int32} (ha_ : A < 2 ^ 62) (hb_ : B < 2 ^ 62) (h0_ : 0 < B) : fPart (lN A) (lN B) p = mPt A B p := by
  have g_ := fGcd_n 62 A B hb_ ha_ (Nat.le_refl _) 200 (by decide)
  have gp_ : 0 < Nat.gcd A B := Nat.gcd_pos_of_pos_right _ h0_
  have gl_ : Nat.gcd A B ≤ B := Nat.gcd_le_right _ h0_
  have m_ : mxL 1 (lN (Nat.gcd A B)) = lN (Nat.gcd A B) := by
    unfold mxL
    by_cases q_ : (1 : Int64) < lN (Nat.gcd A B)
    · rw [if_pos q_]
    · rw [if_neg q_]
      have e_ : ¬ 1 < Nat.gcd A B := fun z_ => q_ ((pk_lLT (a := 1) (by decide) (by omega)).mpr z_)
      rw [show Nat.gcd A B = 1 by omega]; rfl
  unfold fPart mPt
  rw [g_, m_, pk_lDiv (by omega) gp_ (by omega), pk_lDiv (by omega) gp_ (by omega)]
theorem fWays_n : ∀ n, n < 9 → ∀ k, k < 9 → k ≤ n → fWays n k k = lN (mWN n k) := by decide +kernel
theorem odds_e {n k pd : Nat} {p p3 : Int32} (hn_ : n ≤ 8) (hk_ : k ≤ n) (hp3_ : p3 = nI pd) (hp_ : pd ≤ 99) : fPart (fWays n k k * fPow p3.toInt64 k * fPow (100 - p3).toInt64 (n - k)) (fPow 100 n) p = mPt (mWN n k * pd ^ k * (100 - pd) ^ (n - k)) (100 ^ n) p := by
  rw [fWays_n n (by omega) k (by omega) hk_, od_ab hp3_ hp_ hn_ hk_, show (100 : Int64) = lN 100 from rfl, fPow_N]
  exact fPart_e (ab_b (by omega) hk_ hn_) (Nat.lt_of_le_of_lt (pw_b (Nat.le_refl 100) hn_) (by decide)) (Nat.pow_pos (by decide))
theorem hope_e {n pd : Nat} {p p3 : Int32} (hn_ : n ≤ 99) (hp3_ : p3 = nI pd) (hp_ : pd ≤ 99) : fPart ((nI n).toInt64 * p3.toInt64) 100 p = mPt (n * pd) 100 p := by
  subst hp3_
  rw [nI_l (by omega), nI_l (by omega), lN_mul, show (100 : Int64) = lN 100 from rfl]
  exact fPart_e (Nat.lt_of_le_of_lt (Nat.mul_le_mul hn_ hp_) (by decide)) (by decide) (by decide)
/-! rows -/
theorem fRow3_at {a b c f : Nat → Int32} : ∀ n k, k < n → fRow3 a b c f n (k * 3) = a k ∧ fRow3 a b c f n (k * 3 + 1) = b k ∧ fRow3 a b c f n (k * 3 + 2) = c k := by
  intro n
  induction n with
  | zero => intro k h_; exact absurd h_ (Nat.not_lt_zero _)
  | succ n ih_ =>
    intro k h_
    unfold fRow3
    by_cases e_ : k = n
    · subst e_
      refine ⟨?_, ?_, ?_⟩
      · rw [pk_un (by omega), pk_un (by omega), pk_us]
      · rw [pk_un (by omega), pk_us]
      · rw [pk_us]
    · obtain ⟨i1_, i2_, i3_⟩ := ih_ k (by omega)
      refine ⟨?_, ?_, ?_⟩
      · rw [pk_un (by omega), pk_un (by omega), pk_un (by omega), i1_]
      · rw [pk_un (by omega), pk_un (by omega), pk_un (by omega), i2_]
      · rw [pk_un (by omega), pk_un (by omega), pk_un (by omega), i3_]
theorem row_e {a b c a' b' c' f g : Nat → Int32} {n : Nat} (h_ : ∀ k, k < n → a k = a' k ∧ b k = b' k ∧ c k = c' k) : ∀ j, j < 3 * n → fRow3 a b c f n j = (fun j_ => if j_ < 3 * n then fRow3 a' b' c' g n j_ else f j_) j := by
  intro j hj_
  show _ = if j < 3 * n then fRow3 a' b' c' g n j else f j
  rw [if_pos hj_]
  have k_ : j / 3 < n := by omega
  obtain ⟨x1_, x2_, x3_⟩ := fRow3_at (a := a) (b := b) (c := c) (f := f) n (j / 3) k_
  obtain ⟨y1_, y2_, y3_⟩ := fRow3_at (a := a') (b := b') (c := c') (f := g) n (j / 3) k_
  obtain ⟨e1_, e2_, e3_⟩ := h_ (j / 3) k_
  rcases (show j = j / 3 * 3 ∨ j = j / 3 * 3 + 1 ∨ j = j / 3 * 3 + 2 by omega) with z_ | z_ | z_
  · rw [z_, show (j / 3 * 3) / 3 = j / 3 by omega] at *
    rw [x1_, y1_, e1_]
  · rw [z_]; rw [x2_, y2_, e2_]
  · rw [z_]; rw [x3_, y3_, e3_]
theorem fJ_e {P E : Nat → Prop} {n : Nat} (h_ : ∀ k, k < n → (P k ↔ E (3 * k) ∧ E (3 * k + 1) ∧ E (3 * k + 2))) : ∀ d i, i + d = n → fJu P d i = fJm E (3 * d) (3 * i) := by
  intro d
  induction d with
  | zero => intro i _; rfl
  | succ d ih_ =>
    intro i hi_
    have e_ := h_ i (by omega)
    have k_ := ih_ (i + 1) (by omega)
    rw [show 3 * (d + 1) = 3 * d + 1 + 1 + 1 by omega]
    unfold fJu
    by_cases q_ : P i
    · obtain ⟨a_, b_, c_⟩ := e_.mp q_
      rw [cif_t q_, k_]
      conv => rhs; unfold fJm
      rw [cif_t a_]
      conv => rhs; unfold fJm
      rw [cif_t b_]
      conv => rhs; unfold fJm
      rw [cif_t (show E (3 * i + 1 + 1) from c_), show 3 * (i + 1) = 3 * i + 1 + 1 + 1 by omega]
    · rw [cif_f q_]
      conv => rhs; unfold fJm
      by_cases a_ : E (3 * i)
      · rw [cif_t a_]
        conv => rhs; unfold fJm
        by_cases b_ : E (3 * i + 1)
        · rw [cif_t b_]
          conv => rhs; unfold fJm
          rw [cif_f (fun c_ => q_ (e_.mpr ⟨a_, b_, c_⟩)), show (3 * i + 1 + 1) / 3 = i by omega]
        · rw [cif_f b_, show (3 * i + 1) / 3 = i by omega]
      · rw [cif_f a_, show 3 * i / 3 = i by omega]
theorem fMi_cg {te te' : Nat → Int32} {h nh : Nat} {it it' : Nat → Int64} {i i' : Nat} (ht_ : ∀ q, q < nh → te q = te' q) : ∀ n, (∀ k, k < n → it (i + k) = it' (i' + k)) → ∀ q, q < nh → fMi te h it i n q = fMi te' h it' i' n q := by
  intro n
  induction n with
  | zero => intro _ q hq_; exact ht_ q hq_
  | succ n ih_ =>
    intro h_ q hq_
    unfold fMi
    rw [h_ n (by omega)]
    by_cases e_ : q = h + n
    · subst e_; rw [pk_us, pk_us]
    · rw [pk_un e_, pk_un e_]
      exact ih_ (fun k a_ => h_ k (by omega)) q hq_
