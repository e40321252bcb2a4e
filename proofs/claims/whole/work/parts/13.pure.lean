/-! plain functions: what the methods answer, in numbers -/
def hasP (set mem : Int32) : Prop := (set >>> (mem &&& 31)) &&& 1 = 1
def onlyI (m : Int32) : Int32 := (1 : Int32) <<< (m &&& 31)
/-! rows on bits, shifts and unsigned numbers, to paste: each family out of a closed proof of our own, whole with what it rests on; each by itself clean at Lean in its own claim (generation 39, form 5). Take a family whole -/
/-! ===== Int32 by its bits: bt x i ===== -/
def bt (x : Int32) (i : Nat) : Bool := x.toBitVec.getLsbD i
theorem b_ext {x y : Int32} (h : ∀ i, i < 32 → bt x i = bt y i) : x = y := Int32.toBitVec_inj.mp (BitVec.eq_of_getLsbD_eq (fun i hi => h i hi))
theorem b_or (x y : Int32) (i : Nat) : bt (x ||| y) i = (bt x i || bt y i) := by unfold bt; rw [Int32.toBitVec_or, BitVec.getLsbD_or]
theorem b_and (x y : Int32) (i : Nat) : bt (x &&& y) i = (bt x i && bt y i) := by unfold bt; rw [Int32.toBitVec_and, BitVec.getLsbD_and]
theorem b_xor (x y : Int32) (i : Nat) : bt (x ^^^ y) i = (bt x i ^^ bt y i) := by unfold bt; rw [Int32.toBitVec_xor, BitVec.getLsbD_xor]
theorem b_big {x : Int32} {i : Nat} (h : 32 ≤ i) : bt x i = false := BitVec.getLsbD_of_ge _ _ h
theorem b_255 (i : Nat) : bt 255 i = decide (i < 8) := by
  rcases Nat.lt_or_ge i 32 with h | h
  · exact (by decide +kernel : ∀ i, i < 32 → bt 255 i = decide (i < 8)) i h
  · rw [b_big h, decide_eq_false (by omega)]
theorem b_65535 (i : Nat) : bt 65535 i = decide (i < 16) := by
  rcases Nat.lt_or_ge i 32 with h | h
  · exact (by decide +kernel : ∀ i, i < 32 → bt 65535 i = decide (i < 16)) i h
  · rw [b_big h, decide_eq_false (by omega)]
theorem b_m1 : ∀ i, i < 32 → bt (-1) i = true := by decide +kernel
theorem b_0 (i : Nat) : bt 0 i = false := BitVec.getLsbD_zero
theorem s_l : ∀ n, n < 32 → ((nI n &&& 31).toBitVec.smod 32).toNat = n := by decide +kernel
theorem s_u : ∀ n, n < 32 → (((nI n).toUInt32 &&& Int32.toUInt32 31).toBitVec % 32).toNat = n := by decide +kernel
theorem b_shl (n : Nat) (hn : n < 32) (x : Int32) {i : Nat} (hi : i < 32) : bt (x <<< (nI n &&& 31)) i = (decide (n ≤ i) && bt x (i - n)) := by
  unfold bt
  rw [Int32.toBitVec_shiftLeft]
  show (x.toBitVec <<< ((nI n &&& 31).toBitVec.smod 32).toNat).getLsbD i = _
  rw [s_l n hn, BitVec.getLsbD_shiftLeft]
  rcases Nat.lt_or_ge i n with h | h
  · simp [h, Nat.not_le.mpr h]
  · simp [hi, h, Nat.not_lt.mpr h]
theorem b_ushr (n : Nat) (hn : n < 32) (x : Int32) (i : Nat) : bt ((x.toUInt32 >>> ((nI n).toUInt32 &&& Int32.toUInt32 31)).toInt32) i = bt x (n + i) := by
  show (x.toUInt32 >>> ((nI n).toUInt32 &&& Int32.toUInt32 31)).toBitVec.getLsbD i = x.toUInt32.toBitVec.getLsbD (n + i)
  rw [UInt32.toBitVec_shiftRight]
  show (x.toUInt32.toBitVec >>> (((nI n).toUInt32 &&& Int32.toUInt32 31).toBitVec % 32).toNat).getLsbD i = _
  rw [s_u n hn, BitVec.getLsbD_ushiftRight]
theorem b_sshr (n : Nat) (hn : n < 32) (x : Int32) {i : Nat} (hi : i < 32) : bt (x >>> (nI n &&& 31)) i = if n + i < 32 then bt x (n + i) else bt x 31 := by
  unfold bt
  rw [Int32.toBitVec_shiftRight]
  show (x.toBitVec.sshiftRight ((nI n &&& 31).toBitVec.smod 32).toNat).getLsbD i = _
  rw [s_l n hn, BitVec.getLsbD_sshiftRight, BitVec.msb_eq_getLsbD_last]
  simp [hi]
theorem hasP_bt {x : Int32} {b : Nat} (hb_ : b < 32) : hasP x (nI b) ↔ bt x b = true := by
  have h0_ : bt (x >>> (nI b &&& 31)) 0 = bt x b := by
    rw [b_sshr b hb_ x (by omega)]
    by_cases q_ : b + 0 < 32
    · rw [if_pos q_]; rfl
    · exact absurd hb_ q_
  unfold hasP
  have h1_ : ∀ i, bt (1 : Int32) i = decide (i = 0) := by
    intro i
    cases i with
    | zero => decide +kernel
    | succ i =>
      by_cases q_ : i + 1 < 32
      · have z_ : ∀ j, j < 31 → bt (1 : Int32) (j + 1) = false := by decide +kernel
        rw [z_ i (by omega)]; simp
      · rw [b_big (by omega)]; simp
  constructor
  · intro h_
    have e_ := congrArg (fun z_ => bt z_ 0) h_
    simp only [b_and, h1_, h0_] at e_
    simpa using e_
  · intro h_
    apply b_ext
    intro i hi_
    rw [b_and, h1_]
    by_cases q_ : i = 0
    · subst q_; rw [h0_, h_]; rfl
    · simp [q_]
theorem hasP_or (x y : Int32) {b : Nat} (hb_ : b < 32) : hasP (x ||| y) (nI b) ↔ hasP x (nI b) ∨ hasP y (nI b) := by
  rw [hasP_bt hb_, hasP_bt hb_, hasP_bt hb_, b_or, Bool.or_eq_true]
theorem hasP_0 {b : Nat} (hb_ : b < 32) : ¬ hasP 0 (nI b) := by
  rw [hasP_bt hb_, b_0]; simp
def heldI (v : Int32) : Int32 := if v < 0 then 0 else if 99 < v then 99 else v
/-- what one shivers at, needs, wears: by kind -/
noncomputable def fPlain (mi te tp ht : Int32) : Int32 := ht + @ite Int32 (hasP mi tp) (Classical.propDecidable _) te 0
noncomputable def fShiv (ki mi te oath tp ht so : Int32) (i : Int32) : Int32 :=
  if ki = 1 then fPlain mi te tp ht + (if so = 1 then oath else 0)
  else if ki = 2 then fPlain mi te tp ht - 2
  else if ki = 3 then (fPlain mi te tp ht + (if so = 1 then oath else 0)) * 2
  else if ki = 4 then fPlain mi te tp ht - 2 + (if so = 1 then 0 else 9)
  else if ki = 5 then (if i - i / 2 * 2 = 0 then fPlain mi te tp ht else 0)
  else fPlain mi te tp ht
def fNeeds (ki te cold : Int32) : Int32 :=
  if ki = 1 then 6 + cold + 2
  else if ki = 2 then 6 + cold - 3
  else if ki = 3 then 6 + cold + 2 + te / 10
  else if ki = 4 then 6 + cold - 3 - cold
  else if ki = 5 then (6 + cold) * 2
  else 6 + cold
def fWears (ki wear : Int32) : Int32 :=
  if ki = 2 then wear - 2
  else if ki = 3 then wear * 2
  else if ki = 4 then wear - 3
  else if ki = 5 then 0
  else wear
/-! masks, choices, counts -/
noncomputable def fMask (P : Nat → Prop) : Nat → Int32
  | 0 => 0
  | n + 1 => @ite Int32 (P n) (Classical.propDecidable _) (fMask P n ||| onlyI (nI n)) (fMask P n)
theorem fMask_st {P : Nat → Prop} {k : Nat} {x : Int32} (hx_ : x = fMask P k) (hp_ : P k) : x ||| onlyI (nI k) = fMask P (k + 1) := by
  rw [hx_]; unfold fMask; rw [if_pos hp_]; cases k <;> rfl
theorem fMask_sf {P : Nat → Prop} {k : Nat} {x : Int32} (hx_ : x = fMask P k) (hp_ : ¬ P k) : x = fMask P (k + 1) := by
  rw [hx_]; conv => rhs; unfold fMask
  rw [if_neg hp_]
noncomputable def fSel (P : Nat → Prop) (f g : Nat → Int32) : Nat → Int32 := fun h => @ite Int32 (P h) (Classical.propDecidable _) (f h) (g h)
theorem fSel_t {P : Nat → Prop} {f g : Nat → Int32} {h : Nat} (hp_ : P h) : fSel P f g h = f h := by unfold fSel; exact if_pos hp_
theorem fSel_f {P : Nat → Prop} {f g : Nat → Int32} {h : Nat} (hp_ : ¬ P h) : fSel P f g h = g h := by unfold fSel; exact if_neg hp_
theorem fSel_0 {P : Nat → Prop} {f g : Nat → Int32} : g = fSel (fun h => h < 0 ∧ P h) f g := funext fun h => (fSel_f (fun z_ => absurd z_.1 (Nat.not_lt_zero _))).symm
theorem fSel_at {P : Nat → Prop} {f g x : Nat → Int32} {k : Nat} (hx_ : x = fSel (fun h => h < k ∧ P h) f g) : x k = g k := by rw [hx_]; exact fSel_f (fun z_ => absurd z_.1 (Nat.lt_irrefl _))
theorem fSel_st {P : Nat → Prop} {f g x : Nat → Int32} {k : Nat} {v : Int32} (hx_ : x = fSel (fun h => h < k ∧ P h) f g) (hp_ : P k) (hv_ : v = f k) : upd x k v = fSel (fun h => h < k + 1 ∧ P h) f g := by
  funext h
  by_cases e_ : h = k
  · subst e_; rw [pk_us, fSel_t ⟨Nat.lt_succ_self _, hp_⟩, hv_]
  · rw [pk_un e_, hx_]
    by_cases q_ : h < k ∧ P h
    · rw [fSel_t q_, fSel_t ⟨Nat.lt_succ_of_lt q_.1, q_.2⟩]
    · rw [fSel_f q_, fSel_f (fun z_ => q_ ⟨by omega, z_.2⟩)]
theorem fSel_sf {P : Nat → Prop} {f g x : Nat → Int32} {k : Nat} (hx_ : x = fSel (fun h => h < k ∧ P h) f g) (hp_ : ¬ P k) : x = fSel (fun h => h < k + 1 ∧ P h) f g := by
  rw [hx_]; funext h
  by_cases q_ : h < k ∧ P h
  · rw [fSel_t q_, fSel_t ⟨Nat.lt_succ_of_lt q_.1, q_.2⟩]
  · rw [fSel_f q_, fSel_f (fun z_ => ?_)]
    by_cases e_ : h = k
    · subst e_; exact hp_ z_.2
    · exact q_ ⟨by omega, z_.2⟩
noncomputable def fCnt (P : Nat → Prop) : Nat → Nat
  | 0 => 0
  | n + 1 => @ite Nat (P n) (Classical.propDecidable _) (fCnt P n + 1) (fCnt P n)
theorem fCnt_st {P : Nat → Prop} {k x : Nat} (hx_ : x = fCnt P k) (hp_ : P k) : x + 1 = fCnt P (k + 1) := by
  rw [hx_]; conv => rhs; unfold fCnt
  rw [if_pos hp_]
theorem fCnt_sf {P : Nat → Prop} {k x : Nat} (hx_ : x = fCnt P k) (hp_ : ¬ P k) : x = fCnt P (k + 1) := by
  rw [hx_]; conv => rhs; unfold fCnt
  rw [if_neg hp_]
theorem fCnt_le {P : Nat → Prop} : ∀ n, fCnt P n ≤ n
  | 0 => Nat.le_refl _
  | n + 1 => by
    unfold fCnt
    have h_ := fCnt_le (P := P) n
    by_cases q_ : P n
    · rw [if_pos q_]; omega
    · rw [if_neg q_]; omega
def fSum (f : Nat → Int32) : Nat → Int32
  | 0 => 0
  | n + 1 => fSum f n + f n
noncomputable def fOr (P : Nat → Prop) (f : Nat → Int32) : Nat → Int32
  | 0 => 0
  | n + 1 => @ite Int32 (P n) (Classical.propDecidable _) (fOr P f n ||| f n) (fOr P f n)
theorem fOr_st {P : Nat → Prop} {f : Nat → Int32} {k : Nat} {x : Int32} (hx_ : x = fOr P f k) (hp_ : P k) : x ||| f k = fOr P f (k + 1) := by
  rw [hx_]; conv => rhs; unfold fOr
  rw [if_pos hp_]
theorem fOr_sf {P : Nat → Prop} {f : Nat → Int32} {k : Nat} {x : Int32} (hx_ : x = fOr P f k) (hp_ : ¬ P k) : x = fOr P f (k + 1) := by
  rw [hx_]; conv => rhs; unfold fOr
  rw [if_neg hp_]
/-! bits -/
theorem bit_all : ∀ a, a < 13 → ∀ b, b < 13 → (hasP (onlyI (nI a)) (nI b) ↔ a = b) := by unfold hasP onlyI; decide +kernel
theorem fMask_has {P : Nat → Prop} {h : Nat} (hh_ : h < 13) : ∀ n, n ≤ 13 → (hasP (fMask P n) (nI h) ↔ h < n ∧ P h) := by
  intro n
  induction n with
  | zero => intro _; exact ⟨fun z_ => absurd z_ (hasP_0 (by omega)), fun z_ => absurd z_.1 (Nat.not_lt_zero _)⟩
  | succ n ih_ =>
    intro hn_
    have i_ := ih_ (by omega)
    unfold fMask
    by_cases q_ : P n
    · rw [if_pos q_, hasP_or _ _ (by omega), i_, bit_all n (by omega) h hh_]
      constructor
      · rintro (z_ | z_)
        · exact ⟨by omega, z_.2⟩
        · subst z_; exact ⟨by omega, q_⟩
      · rintro ⟨z1_, z2_⟩
        by_cases e_ : n = h
        · exact Or.inr e_
        · exact Or.inl ⟨by omega, z2_⟩
    · rw [if_neg q_, i_]
      constructor
      · rintro ⟨z1_, z2_⟩; exact ⟨by omega, z2_⟩
      · rintro ⟨z1_, z2_⟩
        refine ⟨?_, z2_⟩
        by_cases e_ : h = n
        · subst e_; exact absurd z2_ q_
        · omega
/-! what a saying does to one: TENDER and ARM -/
def fUp (la ki mi te to he sw : Nat → Int32) (sd h : Nat) : Prop := fNeeds (ki h) (te h) (la 0) ≤ fShiv (ki h) (mi h) (te h) (la 1) (to sd) (he sd) (sw sd) (nI sd)
noncomputable def evTA (la : Nat → Int32) (ki mi : Int32) (to he sw : Nat → Int32) (sd : Nat) : Nat → Int32 × Int32 → Int32 × Int32
  | 0, x => x
  | k + 1, x => @ite (Int32 × Int32) (fNeeds ki (evTA la ki mi to he sw sd k x).1 (la 0) ≤ fShiv ki mi (evTA la ki mi to he sw sd k x).1 (la 1) (to (sd + k)) (he (sd + k)) (sw (sd + k)) (nI (sd + k))) (Classical.propDecidable _)
      (heldI ((evTA la ki mi to he sw sd k x).1 - fWears ki (la 2)), (evTA la ki mi to he sw sd k x).2 ||| onlyI (nI (sd + k))) (evTA la ki mi to he sw sd k x)
noncomputable def fTe (L : Nat → Prop) (la ki mi te ar to he sw : Nat → Int32) (sd k : Nat) : Nat → Int32 := fSel L (fun h => (evTA la (ki h) (mi h) to he sw sd k (te h, ar h)).1) te
noncomputable def fAr (L : Nat → Prop) (la ki mi te ar to he sw : Nat → Int32) (sd k : Nat) : Nat → Int32 := fSel L (fun h => (evTA la (ki h) (mi h) to he sw sd k (te h, ar h)).2) ar
theorem fTe_0 {L : Nat → Prop} {la ki mi te ar to he sw : Nat → Int32} {sd : Nat} : te = fTe L la ki mi te ar to he sw sd 0 := by
  funext h; unfold fTe
  by_cases q_ : L h
  · rw [fSel_t q_]; rfl
  · rw [fSel_f q_]
theorem fAr_0 {L : Nat → Prop} {la ki mi te ar to he sw : Nat → Int32} {sd : Nat} : ar = fAr L la ki mi te ar to he sw sd 0 := by
  funext h; unfold fAr
  by_cases q_ : L h
  · rw [fSel_t q_]; rfl
  · rw [fSel_f q_]
/-- one more is said, by those of a mask -/
theorem fTA_s {L : Nat → Prop} {P : Nat → Prop} {la ki mi te ar to he sw te1 ar1 : Nat → Int32} {sd sd1 k : Nat} (hte_ : te1 = fTe L la ki mi te ar to he sw sd k) (har_ : ar1 = fAr L la ki mi te ar to he sw sd k) (hsd_ : sd1 = sd + k) (hP_ : ∀ h, P h ↔ L h ∧ fUp la ki mi te1 to he sw sd1 h) :
    fSel P (fun h => heldI (te1 h - fWears (ki h) (la 2))) te1 = fTe L la ki mi te ar to he sw sd (k + 1) ∧ fSel P (fun h => ar1 h ||| onlyI (nI sd1)) ar1 = fAr L la ki mi te ar to he sw sd (k + 1) := by
  subst hsd_
  have key_ : ∀ h, L h → te1 h = (evTA la (ki h) (mi h) to he sw sd k (te h, ar h)).1 ∧ ar1 h = (evTA la (ki h) (mi h) to he sw sd k (te h, ar h)).2 := by
    intro h q_
    rw [hte_, har_]; unfold fTe fAr
    exact ⟨fSel_t q_, fSel_t q_⟩
  constructor
  · funext h
    by_cases q_ : L h
    · obtain ⟨e1_, e2_⟩ := key_ h q_
      conv => rhs; unfold fTe
      rw [fSel_t q_]; unfold evTA
      by_cases u_ : fUp la ki mi te1 to he sw (sd + k) h
      · rw [fSel_t ((hP_ h).mpr ⟨q_, u_⟩)]
        unfold fUp at u_; rw [e1_] at u_
        rw [if_pos u_, e1_]
      · rw [fSel_f (fun z_ => u_ ((hP_ h).mp z_).2)]
        unfold fUp at u_; rw [e1_] at u_
        rw [if_neg u_, e1_]
    · rw [fSel_f (fun z_ => q_ ((hP_ h).mp z_).1), hte_]; unfold fTe
      rw [fSel_f q_, fSel_f q_]
  · funext h
    by_cases q_ : L h
    · obtain ⟨e1_, e2_⟩ := key_ h q_
      conv => rhs; unfold fAr
      rw [fSel_t q_]; unfold evTA
      by_cases u_ : fUp la ki mi te1 to he sw (sd + k) h
      · rw [fSel_t ((hP_ h).mpr ⟨q_, u_⟩)]
        unfold fUp at u_; rw [e1_] at u_
        rw [if_pos u_, e2_]
      · rw [fSel_f (fun z_ => u_ ((hP_ h).mp z_).2)]
        unfold fUp at u_; rw [e1_] at u_
        rw [if_neg u_, e2_]
    · rw [fSel_f (fun z_ => q_ ((hP_ h).mp z_).1), har_]; unfold fAr
      rw [fSel_f q_, fSel_f q_]
theorem fMask_has8 {P : Nat → Prop} {n : Nat} (hn_ : n ≤ 8) {h : Nat} : (h < n ∧ hasP (fMask P n) (nI h)) ↔ h < n ∧ P h := by
  constructor
  · rintro ⟨a_, b_⟩; exact (fMask_has (by omega) n (by omega)).mp b_
  · rintro ⟨a_, b_⟩; exact ⟨a_, (fMask_has (by omega) n (by omega)).mpr ⟨a_, b_⟩⟩
theorem min_nI {a b : Nat} (ha_ : a < 2147483648) (hb_ : b < 2147483648) : (if nI b < nI a then nI b else nI a) = nI (min a b) := by
  by_cases h_ : b < a
  · rw [if_pos ((nI_ltI hb_ ha_).mpr h_), Nat.min_eq_right (Nat.le_of_lt h_)]
  · rw [if_neg (fun z_ => h_ ((nI_ltI hb_ ha_).mp z_)), Nat.min_eq_left (Nat.not_lt.mp h_)]
/-- draws -/
def fZ (z : Int32) : Int32 := z * 1103515245 + 12345
def fDr (z : Int32) : Int32 := ((fZ z).toUInt32 >>> ((16 : Int32).toUInt32 &&& Int32.toUInt32 31)).toInt32
def fRem (x y : Int32) : Int32 := x - x / y * y
def fDrawn (z dl : Int32) (nh : Nat) : Int32 := if fRem (fDr (fZ z)) 100 < dl then onlyI (fRem (fDr z) (nI nh)) else 0
def fSw (f : Nat → Int32) (i j : Nat) : Nat → Int32 := upd (upd f i (f j)) j (f i)
/-! sheets, shelves, deeds -/
theorem zer_st {f f1 : Nat → Int64} {k : Nat} (h_ : f1 = fun j_ => if j_ < k then 0 else f j_) : vp_updL f1 k 0 = fun j_ => if j_ < k + 1 then 0 else f j_ := by
  funext j_
  by_cases e_ : j_ = k
  · subst e_; rw [pk_uLs, if_pos (Nat.lt_succ_self _)]
  · rw [pk_uLn e_, h_]
    by_cases q_ : j_ < k
    · rw [if_pos (by omega)]; exact if_pos q_
    · rw [if_neg (by omega)]; exact if_neg q_
def fNar (so v : Int32) : Int64 := if so = 0 then v.toInt8.toInt32.toInt64 else if so = 1 then v.toInt16.toInt32.toInt64 else v.toInt64
def fHo (so : Int32) : Int32 := if so = -1 then 0 else 2
def pF : List Int32 → (Nat → Int32) → Nat → Nat → Int32
  | [], f, _ => f
  | b :: l, f, c => pF l (upd f c b) (c + 1)
/-! ranges, picks -/
theorem inR_t {j n : Nat} (h_ : j < n) (hn_ : n < 2147483648) : (0 : Int32) ≤ nI j ∧ nI j ≤ nI n - 1 := by
  refine ⟨nI_pos' (by omega), ?_⟩
  have e_ : nI n - 1 = nI (n - 1) := pk_sub (b := 1) (by omega)
  rw [e_]; exact nI_le (by omega) (by omega)
theorem inR_of {v : Int32} {n : Nat} (hn_ : n < 2147483648) (h_ : 0 ≤ v ∧ v ≤ nI n - 1) : ∃ j : Nat, j < n ∧ v = nI j := by
  by_cases z_ : n = 0
  · subst z_
    exact absurd (Int32.le_trans h_.1 h_.2) (by decide)
  · have e_ : nI n - 1 = nI (n - 1) := pk_sub (b := 1) (by omega)
    rw [e_] at h_
    obtain ⟨j_, h1_, h2_⟩ := nI_of2 (n := n - 1) (nI_toInt (by omega)) (Int32.not_lt.mpr h_.1) h_.2
    exact ⟨j_, by omega, h2_⟩
theorem inL_t {j : Nat} {m : Nat} (h_ : j ≤ m) (hm_ : m < 2147483648) : (0 : Int32) ≤ nI j ∧ nI j ≤ nI m := ⟨nI_pos' (by omega), nI_le h_ hm_⟩
def fPick (w a b c d : Int32) : Int32 := if w = 0 then a else if w = 1 then b else if w = 2 then c else if w = 3 then d else -1
/-- how much is right in the end on one's arm -/
noncomputable def fRt (la ki mi te ar to he sw : Nat → Int32) (ns sd h : Nat) : Nat := fCnt (fun s_ => hasP (evTA la (ki h) (mi h) to he sw sd (ns - sd) (te h, ar h)).2 (nI s_) ↔ sw s_ = 1) ns
theorem fRt_of {la ki mi te ar to he sw : Nat → Int32} {ns sd h nh : Nat} (hh_ : h < nh) (hn_ : nh ≤ 8) (hs_ : ns ≤ 12) : fCnt (fun s_ => hasP (fAr (fun h_ => h_ < nh ∧ hasP (onlyI (nI h)) (nI h_)) la ki mi te ar to he sw sd (min 12 (ns - sd)) h) (nI s_) ↔ sw s_ = 1) ns = fRt la ki mi te ar to he sw ns sd h := by
  have e_ : fAr (fun h_ => h_ < nh ∧ hasP (onlyI (nI h)) (nI h_)) la ki mi te ar to he sw sd (min 12 (ns - sd)) h = (evTA la (ki h) (mi h) to he sw sd (ns - sd) (te h, ar h)).2 := by
    unfold fAr
    rw [fSel_t ⟨hh_, (bit_all h (by omega) h (by omega)).mpr rfl⟩, Nat.min_eq_right (by omega)]
  unfold fRt
  rw [e_]
def fMax (f : Nat → Nat) : Nat → Nat
  | 0 => 0
  | n + 1 => max (fMax f n) (f n)
theorem max_nI {a b : Nat} (ha_ : a < 2147483648) (hb_ : b < 2147483648) : (if nI a < nI b then nI b else nI a) = nI (max a b) := by
  by_cases h_ : a < b
  · rw [if_pos ((nI_ltI ha_ hb_).mpr h_), Nat.max_eq_right (Nat.le_of_lt h_)]
  · rw [if_neg (fun z_ => h_ ((nI_ltI ha_ hb_).mp z_)), Nat.max_eq_left (Nat.not_lt.mp h_)]
theorem fMax_le {f : Nat → Nat} {b : Nat} (h_ : ∀ n, f n ≤ b) : ∀ n, fMax f n ≤ b
  | 0 => Nat.zero_le _
  | n + 1 => by unfold fMax; exact Nat.max_le.mpr ⟨fMax_le h_ n, h_ n⟩
def fUnd (k a : Int32) : Prop := if k = 3 then a = 3 ∨ a = 1 ∨ a = 0 else if k = 4 then a = 4 ∨ a = 2 ∨ a = 0 else a = k ∨ a = 0
def bcA (x : Int32) : Int32 := x - (uSh x 1 &&& 1431655765)
def bcB (a : Int32) : Int32 := (a &&& 858993459) + (uSh a 2 &&& 858993459)
def bcC (b : Int32) : Int32 := (b + uSh b 4) &&& 252645135
def bcD (c : Int32) : Int32 := c + uSh c 8
def bcE (d : Int32) : Int32 := d + uSh d 16
def fBC (x : Int32) : Int32 := bcE (bcD (bcC (bcB (bcA x)))) &&& 63
noncomputable def fAl (ar : Nat → Int32) (nh : Nat) : Nat := fMax (fun h_ => fCnt (fun j_ => ar j_ = ar h_) nh) nh
theorem al_max {ar : Nat → Int32} {nh x i : Nat} (hx_ : x = fMax (fun h_ => fCnt (fun j_ => ar j_ = ar h_) nh) i) (hn_ : nh ≤ 8) : (if nI x < nI (fCnt (fun h_ => ar h_ = ar i) nh) then nI (fCnt (fun h_ => ar h_ = ar i) nh) else nI x) = nI (max x (fCnt (fun h_ => ar h_ = ar i) nh)) := by
  have a_ : x ≤ 8 := by rw [hx_]; exact fMax_le (fun n_ => Nat.le_trans (fCnt_le _) hn_) _
  have b_ : fCnt (fun h_ => ar h_ = ar i) nh ≤ 8 := Nat.le_trans (fCnt_le _) hn_
  exact max_nI (by omega) (by omega)
theorem al_st {ar : Nat → Int32} {nh x i : Nat} (hx_ : x = fMax (fun h_ => fCnt (fun j_ => ar j_ = ar h_) nh) i) : max x (fCnt (fun h_ => ar h_ = ar i) nh) = fMax (fun h_ => fCnt (fun j_ => ar j_ = ar h_) nh) (i + 1) := by
  rw [hx_]; rfl
/-! fractions -/
theorem lgc0 {x y : Int64} : lg_cmp x y = 0 ↔ x = y := by
  unfold lg_cmp
  constructor
  · intro h_
    by_cases a_ : x > y
    · rw [if_pos a_] at h_; exact absurd h_ (by decide)
    · rw [if_neg a_] at h_
      by_cases b_ : x = y
      · exact b_
      · rw [if_neg b_] at h_; exact absurd h_ (by decide)
  · intro h_
    subst h_
    rw [if_neg (Int64.lt_irrefl), if_pos rfl]
theorem lgcL {x y : Int64} : lg_cmp x y < 0 ↔ x < y := by
  unfold lg_cmp
  constructor
  · intro h_
    by_cases a_ : x > y
    · rw [if_pos a_] at h_; exact absurd h_ (by decide)
    · rw [if_neg a_] at h_
      by_cases b_ : x = y
      · rw [if_pos b_] at h_; exact absurd h_ (by decide)
      · exact Int64.lt_of_le_of_ne (Int64.not_lt.mp a_) b_
  · intro h_
    rw [if_neg (fun z_ => Int64.lt_irrefl (Int64.lt_trans h_ z_)), if_neg (fun z_ => by subst z_; exact Int64.lt_irrefl h_)]
    decide
def fPow (b : Int64) : Nat → Int64
  | 0 => 1
  | n + 1 => fPow b n * b
def fWays (n k : Nat) : Nat → Int64
  | 0 => 1
  | i + 1 => fWays n k i * (nI n - nI k + nI (i + 1)).toInt64 / (nI (i + 1)).toInt64
def fGcd : Nat → Int64 × Int64 → Int64 × Int64
  | 0, x => x
  | n + 1, x => if x.2 = 0 then x else fGcd n (x.2, x.1 - x.1 / x.2 * x.2)
theorem fGcd_e {n : Nat} {x : Int64 × Int64} (h_ : x.2 = 0) : fGcd n x = x := by
  cases n with
  | zero => rfl
  | succ n => unfold fGcd; exact if_pos h_
theorem fGcd_s {k : Nat} {x : Int64 × Int64} (hk_ : k < 200) (h_ : ¬ x.2 = 0) : fGcd (200 - k) x = fGcd (200 - (k + 1)) (x.2, x.1 - x.1 / x.2 * x.2) := by
  obtain ⟨d_, hd_⟩ : ∃ d, 200 - k = d + 1 := ⟨199 - k, by omega⟩
  rw [hd_, show 200 - (k + 1) = d_ by omega]
  conv => lhs; unfold fGcd
  exact if_neg h_
def mxL (a b : Int64) : Int64 := if a < b then b else a
theorem mxL_1 (x : Int64) : ¬ mxL 1 x = 0 := by
  unfold mxL
  by_cases h_ : (1 : Int64) < x
  · rw [if_pos h_]; intro z_; subst z_; exact absurd h_ (by decide)
  · rw [if_neg h_]; decide
def fPart (a b : Int64) (p : Int32) : Int64 := if p = 0 then a / mxL 1 (fGcd 200 (a, b)).1 else b / mxL 1 (fGcd 200 (a, b)).1
theorem tI64_ne {j : Nat} (h_ : 0 < j) (hj_ : j < 2147483648) : ¬ (nI j).toInt64 = 0 := by
  rw [nI_l (by omega)]
  intro z_
  have := (lN_eq (a := j) (b := 0) (by omega) (by omega)).mp z_
  omega
/-! fitting -/
noncomputable def fUpAt (la : Nat → Int32) (k m : Int32) (to he sw : Nat → Int32) (sd i : Nat) (x : Int32 × Int32) : Prop := fNeeds k (evTA la k m to he sw sd i x).1 (la 0) ≤ fShiv k m (evTA la k m to he sw sd i x).1 (la 1) (to (sd + i)) (he (sd + i)) (sw (sd + i)) (nI (sd + i))
def fOkS (it : Nat → Int64) (la : Nat → Int32) (k m : Int32) (to he sw : Nat → Int32) (sd : Nat) (x : Int32 × Int32) (i : Nat) : Prop := it i = -1 ∨ (it i = 1 ∧ fUpAt la k m to he sw sd i x) ∨ (it i = 0 ∧ ¬ fUpAt la k m to he sw sd i x)
theorem mask1 {Q : Nat → Prop} {h nh : Nat} (hh_ : h < nh) (hn_ : nh ≤ 8) : fMask (fun h_ => hasP (onlyI (nI h)) (nI h_) ∧ Q h_) nh = 0 ↔ ¬ Q h := by
  constructor
  · intro e_ q_
    have z_ := (fMask_has (P := fun h_ => hasP (onlyI (nI h)) (nI h_) ∧ Q h_) (h := h) (by omega) nh (by omega)).mpr ⟨hh_, (bit_all h (by omega) h (by omega)).mpr rfl, q_⟩
    rw [e_] at z_
    exact hasP_0 (by omega) z_
  · intro q_
    have key_ : ∀ n, n ≤ nh → fMask (fun h_ => hasP (onlyI (nI h)) (nI h_) ∧ Q h_) n = 0 := by
      intro n
      induction n with
      | zero => intro _; rfl
      | succ n ih_ =>
        intro hn2_
        rw [← fMask_sf (P := fun h_ => hasP (onlyI (nI h)) (nI h_) ∧ Q h_) (k := n) rfl (fun z_ => ?_)]
        · exact ih_ (by omega)
        · have := (bit_all h (by omega) n (by omega)).mp z_.1
          subst this; exact q_ z_.2
    exact key_ nh (Nat.le_refl _)
theorem fTe_at {L : Nat → Prop} {la ki mi te ar to he sw : Nat → Int32} {sd k h : Nat} (h_ : L h) : fTe L la ki mi te ar to he sw sd k h = (evTA la (ki h) (mi h) to he sw sd k (te h, ar h)).1 := fSel_t h_
theorem fAr_at {L : Nat → Prop} {la ki mi te ar to he sw : Nat → Int32} {sd k h : Nat} (h_ : L h) : fAr L la ki mi te ar to he sw sd k h = (evTA la (ki h) (mi h) to he sw sd k (te h, ar h)).2 := fSel_t h_
/-- who is raised at one step, seen from the start -/
theorem fUp_at {L : Nat → Prop} {la ki mi te ar to he sw te1 : Nat → Int32} {sd sd1 k h : Nat} (hte_ : te1 = fTe L la ki mi te ar to he sw sd k) (hs_ : sd1 = sd + k) (h_ : L h) : fUp la ki mi te1 to he sw sd1 h ↔ fUpAt la (ki h) (mi h) to he sw sd k (te h, ar h) := by
  subst hs_
  unfold fUp fUpAt
  rw [hte_, fTe_at h_]
theorem mb_up {la ki mi te ar to he sw te1 : Nat → Int32} {sd sd1 k h nh : Nat} {v : Int32} (hte_ : te1 = fTe (fun h_ => h_ < nh ∧ hasP (onlyI (nI h)) (nI h_)) la ki mi (upd te h v) ar to he sw sd k) (hs_ : sd1 = sd + k) (hh_ : h < nh) (hn_ : nh ≤ 8) : fUp la ki mi te1 to he sw sd1 h ↔ fUpAt la (ki h) (mi h) to he sw sd k (v, ar h) := by
  have e_ := fUp_at (ar := ar) hte_ hs_ (h := h) ⟨hh_, (bit_all h (by omega) h (by omega)).mpr rfl⟩
  rw [pk_us] at e_
  exact e_
/-- an item that any outcome fits -/
theorem mb_ok1 {it : Nat → Int64} {la : Nat → Int32} {k m : Int32} {to he sw : Nat → Int32} {sd : Nat} {x : Int32 × Int32} {i : Nat} (h_ : lg_cmp (it i) (-1) = 0) : fOkS it la k m to he sw sd x i := Or.inl (lgc0.mp h_)
theorem mb_ok {it : Nat → Int64} {la : Nat → Int32} {k m : Int32} {to he sw : Nat → Int32} {sd : Nat} {x : Int32 × Int32} {i h nh : Nat} {Q : Nat → Prop} {v : Int64} (hh_ : h < nh) (hn_ : nh ≤ 8) (hq_ : Q h ↔ fUpAt la k m to he sw sd i x) (c_ : (¬ fMask (fun h_ => hasP (onlyI (nI h)) (nI h_) ∧ Q h_) nh = 0 ∧ v = 1) ∨ (fMask (fun h_ => hasP (onlyI (nI h)) (nI h_) ∧ Q h_) nh = 0 ∧ v = 0)) (h_ : lg_cmp (it i) v = 0) : fOkS it la k m to he sw sd x i := by
  have e_ := lgc0.mp h_
  rcases c_ with ⟨c_, rfl⟩ | ⟨c_, rfl⟩
  · exact Or.inr (Or.inl ⟨e_, hq_.mp (Classical.byContradiction (fun z_ => c_ ((mask1 hh_ hn_).mpr z_)))⟩)
  · exact Or.inr (Or.inr ⟨e_, fun z_ => (mask1 hh_ hn_).mp c_ (hq_.mpr z_)⟩)
theorem mb_no {it : Nat → Int64} {la : Nat → Int32} {k m : Int32} {to he sw : Nat → Int32} {sd : Nat} {x : Int32 × Int32} {i h nh : Nat} {Q : Nat → Prop} {v : Int64} (hh_ : h < nh) (hn_ : nh ≤ 8) (hq_ : Q h ↔ fUpAt la k m to he sw sd i x) (c_ : (¬ fMask (fun h_ => hasP (onlyI (nI h)) (nI h_) ∧ Q h_) nh = 0 ∧ v = 1) ∨ (fMask (fun h_ => hasP (onlyI (nI h)) (nI h_) ∧ Q h_) nh = 0 ∧ v = 0)) (h1_ : ¬ lg_cmp (it i) (-1) = 0) (h_ : ¬ lg_cmp (it i) v = 0) : ¬ fOkS it la k m to he sw sd x i := by
  rintro (z_ | ⟨z_, u_⟩ | ⟨z_, u_⟩)
  · exact h1_ (lgc0.mpr z_)
  · rcases c_ with ⟨c_, rfl⟩ | ⟨c_, rfl⟩
    · exact h_ (lgc0.mpr z_)
    · exact (mask1 hh_ hn_).mp c_ (hq_.mpr u_)
  · rcases c_ with ⟨c_, rfl⟩ | ⟨c_, rfl⟩
    · exact c_ ((mask1 hh_ hn_).mpr (fun y_ => u_ (hq_.mp y_)))
    · exact h_ (lgc0.mpr z_)
