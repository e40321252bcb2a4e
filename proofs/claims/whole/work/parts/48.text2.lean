/-! the reading of a text: the class's way and the model's -/
theorem by_al2 : ∀ a, a < 16 → ∀ b, b < 16 → ((nI (16 * a + b)).toInt8.toInt32 = 32 ↔ nI (16 * a + b) = 32) ∧ ((97 ≤ (nI (16 * a + b)).toInt8.toInt32 ∧ (nI (16 * a + b)).toInt8.toInt32 ≤ 122) ↔ (97 ≤ nI (16 * a + b) ∧ nI (16 * a + b) ≤ 122)) ∧ ((48 ≤ (nI (16 * a + b)).toInt8.toInt32 ∧ (nI (16 * a + b)).toInt8.toInt32 ≤ 57) ↔ (48 ≤ nI (16 * a + b) ∧ nI (16 * a + b) ≤ 57)) ∧ ((nI (16 * a + b)).toInt8.toInt32 = 59 ↔ nI (16 * a + b) = 59) ∧ (nI (16 * a + b) ≤ 122 → (nI (16 * a + b)).toInt8.toInt32 = nI (16 * a + b)) := by decide +kernel
/-- the two tapes -/
def TpR (f tf : Nat → Int32) (tm : Nat) : Prop := ∀ j, j < tm → f j = (tf j).toInt8.toInt32 ∧ 0 ≤ tf j ∧ tf j ≤ 255
theorem tp_n {f tf : Nat → Int32} {tm j : Nat} (h_ : TpR f tf tm) (hj_ : j < tm) : ∃ n : Nat, n < 256 ∧ tf j = nI n ∧ f j = (nI n).toInt8.toInt32 ∧ mB tf tm j = nI n := by
  obtain ⟨a_, b_, c_⟩ := h_ j hj_
  obtain ⟨n, hn_, e_⟩ := nI_of2 (n := 255) (nI_toInt (by omega)) (Int32.not_lt.mpr b_) c_
  refine ⟨n, by omega, e_, by rw [a_, e_], ?_⟩
  unfold mB; rw [if_pos hj_, e_]
theorem tp_f {f tf : Nat → Int32} {tm j : Nat} (h_ : TpR f tf tm) (hj_ : j < tm) : (isW f j ↔ isW (mB tf tm) j) ∧ (isL f j ↔ isL (mB tf tm) j) ∧ (isD f j ↔ isD (mB tf tm) j) ∧ (f j = 59 ↔ mB tf tm j = 59) ∧ (mB tf tm j ≤ 122 → f j = mB tf tm j) := by
  obtain ⟨n, hn_, e1_, e2_, e3_⟩ := tp_n h_ hj_
  have a_ := by_al2 (n / 16) (by omega) (n % 16) (by omega)
  rw [show 16 * (n / 16) + n % 16 = n by omega] at a_
  unfold isW isL isD
  rw [e2_, e3_]
  exact a_
theorem fRun_cg {P Q : Nat → Prop} : ∀ n s, (∀ j, s ≤ j → j < s + n → (P j ↔ Q j)) → fRun P n s = fRun Q n s := by
  intro n
  induction n with
  | zero => intro s _; rfl
  | succ n ih_ =>
    intro s h_
    unfold fRun
    by_cases q_ : P s
    · rw [cif_t q_, cif_t ((h_ s (by omega) (by omega)).mp q_)]
      exact ih_ (s + 1) (fun j a_ b_ => h_ j (by omega) (by omega))
    · rw [cif_f q_, cif_f (fun z_ => q_ ((h_ s (by omega) (by omega)).mpr z_))]
theorem fRun_all {P : Nat → Prop} : ∀ n s j, s ≤ j → j < fRun P n s → P j := by
  intro n
  induction n with
  | zero => intro s j a_ b_; exact absurd b_ (by show ¬ j < s; omega)
  | succ n ih_ =>
    intro s j a_ b_
    unfold fRun at b_
    by_cases q_ : P s
    · rw [cif_t q_] at b_
      by_cases e_ : j = s
      · subst e_; exact q_
      · exact ih_ (s + 1) j (by omega) b_
    · rw [cif_f q_] at b_; omega
/-! words by numbers -/
def enc (c : Nat → Nat) : Nat → Nat
  | 0 => 0
  | k + 1 => 27 * enc c k + c k
theorem enc_0 (c : Nat → Nat) : enc c 0 = 0 := rfl
theorem enc_s (c : Nat → Nat) (k : Nat) : enc c (k + 1) = 27 * enc c k + c k := rfl
theorem enc_inj {u c : Nat → Nat} : ∀ n m, (∀ k, k < n → 1 ≤ u k ∧ u k ≤ 26) → (∀ k, k < m → 1 ≤ c k ∧ c k ≤ 26) → enc u n = enc c m → n = m ∧ ∀ k, k < n → u k = c k := by
  intro n
  induction n with
  | zero =>
    intro m _ hc_ e_
    cases m with
    | zero => exact ⟨rfl, fun k a_ => absurd a_ (Nat.not_lt_zero _)⟩
    | succ m =>
      have a_ := hc_ m (by omega)
      have e_ : 0 = 27 * enc c m + c m := e_
      omega
  | succ n ih_ =>
    intro m hu_ hc_ e_
    have b_ := hu_ n (by omega)
    cases m with
    | zero =>
      have e_ : 27 * enc u n + u n = 0 := e_
      omega
    | succ m =>
      have a_ := hc_ m (by omega)
      have e_ : 27 * enc u n + u n = 27 * enc c m + c m := e_
      obtain ⟨i1_, i2_⟩ := ih_ m (fun k z_ => hu_ k (by omega)) (fun k z_ => hc_ k (by omega)) (by omega)
      subst i1_
      exact ⟨rfl, lt_s i2_ (by omega)⟩
theorem enc_b {u : Nat → Nat} : ∀ n, (∀ k, k < n → u k ≤ 26) → enc u n < 27 ^ n := by
  intro n
  induction n with
  | zero => intro _; exact Nat.one_pos
  | succ n ih_ =>
    intro h_
    have a_ := ih_ (fun k z_ => h_ k (by omega))
    have b_ := h_ n (by omega)
    show 27 * enc u n + u n < 27 ^ (n + 1)
    rw [Nat.pow_succ]; omega
/-- a letter's number -/
def lt26 (x : Int32) : Nat := x.toNatClampNeg - 96
theorem lt_n {x : Int32} (h_ : 97 ≤ x ∧ x ≤ 122) : (1 ≤ lt26 x ∧ lt26 x ≤ 26) ∧ x = nI (lt26 x + 96) := by
  obtain ⟨n, hn_, e_⟩ := nI_of2 (n := 122) (nI_toInt (by omega)) (Int32.not_lt.mpr (Int32.le_trans (by decide) h_.1)) h_.2
  subst e_
  have a_ : 97 ≤ n := (nI_leI (a := 97) (by omega) (by omega)).mp h_.1
  unfold lt26
  rw [nI_clamp (by omega)]
  exact ⟨⟨by omega, by omega⟩, by rw [show n - 96 + 96 = n by omega]⟩
theorem mWd_n {b : Nat → Int32} {s : Nat} : ∀ n, n ≤ 9 → (∀ k, k < n → 97 ≤ b (s + k) ∧ b (s + k) ≤ 122) → mWd b s n = lN (enc (fun k => lt26 (b (s + k))) n) := by
  intro n
  induction n with
  | zero => intro _ _; rfl
  | succ n ih_ =>
    intro hn_ h_
    obtain ⟨a_, e_⟩ := lt_n (h_ n (by omega))
    unfold mWd
    rw [if_pos (by omega), ih_ (by omega) (fun k z_ => h_ k (by omega))]
    generalize hv_ : lt26 (b (s + n)) = v at a_ e_
    rw [e_, nI_l (by omega), show (27 : Int64) = lN 27 from rfl, show (96 : Int64) = lN 96 from rfl, lN_mul, lN_add, lN_sub (by omega)]
    congr 1
    show _ = 27 * enc (fun k => lt26 (b (s + k))) n + lt26 (b (s + n))
    rw [hv_]; omega
theorem mWd_9 {b : Nat → Int32} {s : Nat} : ∀ n, 9 < n → mWd b s n = -1 := by
  intro n h_
  obtain ⟨k, rfl⟩ : ∃ k, n = k + 1 := ⟨n - 1, by omega⟩
  unfold mWd; rw [if_neg (by omega)]
/-- the names' numbers -/
def kW : List Nat := [117481419, 5730863, 12333743051, 2896470, 242802, 4560413, 70312, 296522, 456399, 1808912405, 13903, 161156, 528, 289913976, 7096213]
theorem kW_ok : ∀ i, i < 15 → kW.getD i 0 = enc (fun k => lt26 (ch i k)) (kSl.getD i 0) ∧ kSl.getD i 0 ≤ 8 ∧ kW.getD i 0 < 2 ^ 62 ∧ ∀ k, k < kSl.getD i 0 → 97 ≤ ch i k ∧ ch i k ≤ 122 := by decide +kernel
set_option maxHeartbeats 4000000 in
theorem name_e {f tf : Nat → Int32} {tm st en i : Nat} (hR_ : TpR f tf tm) (hi_ : i < 15) (hse_ : st ≤ en) (hen_ : en ≤ tm) (hL_ : ∀ j, st ≤ j → j < en → isL (mB tf tm) j) : (en - st = kSl.getD i 0 ∧ ∀ k, k < kSl.getD i 0 → f (st + k) = ch i k) ↔ mWd (mB tf tm) st (en - st) = lN (kW.getD i 0) := by
  obtain ⟨w_, l8_, w62_, c_⟩ := kW_ok i hi_
  have hl_ : ∀ k, k < en - st → 97 ≤ mB tf tm (st + k) ∧ mB tf tm (st + k) ≤ 122 := fun k z_ => hL_ (st + k) (by omega) (by omega)
  have fe_ : ∀ k, k < en - st → f (st + k) = mB tf tm (st + k) := fun k z_ => (tp_f hR_ (show st + k < tm by omega)).2.2.2.2 (hl_ k z_).2
  constructor
  · rintro ⟨e_, h_⟩
    rw [mWd_n (en - st) (by omega) hl_, w_, e_]
    refine congrArg lN ?_
    have key_ : ∀ n, n ≤ kSl.getD i 0 → enc (fun k => lt26 (mB tf tm (st + k))) n = enc (fun k => lt26 (ch i k)) n := by
      intro n
      induction n with
      | zero => intro _; rw [enc_0, enc_0]
      | succ n ih_ =>
        intro z_
        have l_ : lt26 (mB tf tm (st + n)) = lt26 (ch i n) := by rw [← fe_ n (by omega), h_ n (by omega)]
        rw [enc_s, enc_s, ih_ (by omega)]
        exact congrArg (fun x_ => 27 * enc (fun k => lt26 (ch i k)) n + x_) l_
    exact key_ _ (Nat.le_refl _)
  · intro h_
    by_cases n9_ : en - st ≤ 9
    · rw [mWd_n (en - st) n9_ hl_] at h_
      have b_ := enc_b (u := fun k => lt26 (mB tf tm (st + k))) (en - st) (fun k z_ => (lt_n (hl_ k z_)).1.2)
      have p_ : (27 : Nat) ^ (en - st) ≤ 27 ^ 9 := Nat.pow_le_pow_right (by decide) n9_
      have e_ := (pk_lEQ (Nat.lt_of_lt_of_le b_ (Nat.le_trans p_ (by decide))) (by omega)).mp h_
      rw [w_] at e_
      obtain ⟨g1_, g2_⟩ := enc_inj _ _ (fun k z_ => (lt_n (hl_ k z_)).1) (fun k z_ => (lt_n (c_ k z_)).1) e_
      refine ⟨g1_, fun k z_ => ?_⟩
      rw [fe_ k (by omega), (lt_n (hl_ k (by omega))).2, (lt_n (c_ k z_)).2, g2_ k (by omega)]
    · rw [mWd_9 (en - st) (by omega)] at h_
      have a_ : (-1 : Int64) < 0 := by decide
      rw [h_] at a_
      exact absurd ((pk_lLT (a := kW.getD i 0) (b := 0) (by omega) (by decide)).mp a_) (Nat.not_lt_zero _)
/-! numbers -/
theorem num_n {f tf : Nat → Int32} {tm st : Nat} (hR_ : TpR f tf tm) : ∀ n, n ≤ 3 → st + n ≤ tm → (∀ k, k < n → isD (mB tf tm) (st + k)) → ∃ v : Nat, v < 10 ^ n ∧ fVal f st n = nI v ∧ mVl (mB tf tm) st n = nI v := by
  intro n
  induction n with
  | zero => intro _ _ _; exact ⟨0, by decide, rfl, rfl⟩
  | succ n ih_ =>
    intro hn_ hl_ h_
    obtain ⟨v, hv_, e1_, e2_⟩ := ih_ (by omega) (by omega) (fun k z_ => h_ k (by omega))
    have d_ := h_ n (by omega)
    have fe_ : f (st + n) = mB tf tm (st + n) := (tp_f hR_ (show st + n < tm by omega)).2.2.2.2 (Int32.le_trans d_.2 (by decide))
    obtain ⟨c, hc_, e_⟩ := nI_of2 (n := 57) (nI_toInt (by omega)) (Int32.not_lt.mpr (Int32.le_trans (by decide) d_.1)) d_.2
    have c0_ : 48 ≤ c := (nI_leI (a := 48) (by omega) (by omega)).mp (e_ ▸ d_.1)
    refine ⟨10 * v + (c - 48), by rw [Nat.pow_succ]; omega, ?_, ?_⟩
    · unfold fVal
      rw [if_pos (by omega), e1_, fe_, e_, show (10 : Int32) = nI 10 from rfl, pk_mul, nI_add, show (48 : Int32) = nI 48 from rfl, pk_sub (by omega)]
      congr 1; omega
    · unfold mVl
      rw [if_pos (by omega), e2_, e_, show (10 : Int32) = nI 10 from rfl, pk_mul, nI_add, show (48 : Int32) = nI 48 from rfl, pk_sub (by omega)]
      congr 1; omega
theorem num_e {f tf : Nat → Int32} {tm st n : Nat} (hR_ : TpR f tf tm) (hl_ : st + n ≤ tm) (hD_ : ∀ k, k < n → isD (mB tf tm) (st + k)) {most : Int32} (hm_ : most ≤ 255) : (fVal f st n ≤ most ↔ 0 ≤ mVl (mB tf tm) st n ∧ mVl (mB tf tm) st n ≤ most) ∧ (fVal f st n ≤ most → fVal f st n = mVl (mB tf tm) st n) := by
  by_cases n3_ : n ≤ 3
  · obtain ⟨v, hv_, e1_, e2_⟩ := num_n hR_ n n3_ hl_ hD_
    have p_ : (10 : Nat) ^ n ≤ 10 ^ 3 := Nat.pow_le_pow_right (by decide) n3_
    rw [e1_, e2_]
    exact ⟨⟨fun z_ => ⟨nI_pos' (by omega), z_⟩, fun z_ => z_.2⟩, fun _ => rfl⟩
  · obtain ⟨k, rfl⟩ : ∃ k, n = k + 1 := ⟨n - 1, by omega⟩
    have a_ : fVal f st (k + 1) = 1000 := by unfold fVal; rw [if_neg (by omega)]
    have b_ : mVl (mB tf tm) st (k + 1) = -1 := by unfold mVl; rw [if_neg (by omega)]
    rw [a_, b_]
    have c_ : ¬ (1000 : Int32) ≤ most := fun z_ => absurd (Int32.le_trans z_ hm_) (by decide)
    exact ⟨⟨fun z_ => absurd z_ c_, fun z_ => absurd z_.1 (by decide)⟩, fun z_ => absurd z_ c_⟩
/-! tokens -/
def TkG (f : Nat → Int32) (tm : Nat) (t : T5) (m : M6t) : Prop :=
  t.1 = m.1 ∧ t.2.1 = m.2.1 ∧ t.2.1 ≤ tm ∧ (∀ i, i < 15 → (tNam f i t.1 t.2.1 t.2.2.1 ↔ (m.2.2.1 = 1 ∧ m.2.2.2.1 = lN (kW.getD i 0)))) ∧
  (∀ most : Int32, most ≤ 255 → ((t.2.2.1 = 2 ∧ t.2.2.2.1 ≤ most) ↔ (m.2.2.1 = 2 ∧ 0 ≤ m.2.2.2.2.1 ∧ m.2.2.2.2.1 ≤ most)) ∧ (t.2.2.1 = 2 ∧ t.2.2.2.1 ≤ most → t.2.2.2.1 = m.2.2.2.2.1)) ∧
  (t.2.2.1 = 3 ↔ (m.2.2.1 = 3 ∧ m.2.2.2.2.1 = 59)) ∧ (t.2.2.1 = 0 ↔ m.2.2.1 = 0)
theorem x01 : ¬ (0 : Int32) = 1 := by decide
theorem x02 : ¬ (0 : Int32) = 2 := by decide
theorem x03 : ¬ (0 : Int32) = 3 := by decide
theorem x12 : ¬ (1 : Int32) = 2 := by decide
theorem x13 : ¬ (1 : Int32) = 3 := by decide
theorem x10 : ¬ (1 : Int32) = 0 := by decide
theorem x21 : ¬ (2 : Int32) = 1 := by decide
theorem x23 : ¬ (2 : Int32) = 3 := by decide
theorem x20 : ¬ (2 : Int32) = 0 := by decide
theorem x31 : ¬ (3 : Int32) = 1 := by decide
theorem x32 : ¬ (3 : Int32) = 2 := by decide
theorem tok_go {f tf : Nat → Int32} {tm : Nat} (hR_ : TpR f tf tm) {t : T5} {gd : Int32} (he_ : t.2.1 ≤ tm) : TkG f tm (tGo f tm t) (mUp tf tm t.2.1 gd) ∧ (tGo f tm t).2.2.2.2 = t.2.2.2.2 := by
  have sk_ : tSk f tm t.2.1 = mSk tf tm t.2.1 := fRun_cg _ _ (fun j a_ b_ => (tp_f hR_ (show j < tm by omega)).1)
  have sr_ := fRun_in (P := isW (mB tf tm)) (tm - t.2.1) t.2.1
  obtain ⟨s, hs_⟩ : ∃ s, mSk tf tm t.2.1 = s := ⟨_, rfl⟩
  rw [hs_] at sk_
  have sb_ : t.2.1 ≤ s ∧ s ≤ tm := by
    have : fRun (isW (mB tf tm)) (tm - t.2.1) t.2.1 = s := hs_
    omega
  by_cases q1_ : tm ≤ s
  · rw [tGo_e sk_ q1_, mUp_e (mAdv_e hs_ q1_)]
    refine ⟨⟨rfl, rfl, sb_.2, fun i _ => ⟨fun z_ => absurd z_.1 x01, fun z_ => absurd z_.1 x01⟩, fun most _ => ⟨⟨fun z_ => absurd z_.1 x02, fun z_ => absurd z_.1 x02⟩, fun z_ => absurd z_.1 x02⟩, ⟨fun z_ => absurd z_ x03, fun z_ => absurd z_.1 x03⟩, Iff.rfl⟩, rfl⟩
  have st_ : s < tm := by omega
  obtain ⟨b1_, b2_, b3_, b4_, b5_⟩ := tp_f hR_ st_
  by_cases q2_ : isL f s
  · have rr_ : fRun (isL f) (tm - s) s = fRun (isL (mB tf tm)) (tm - s) s := fRun_cg _ _ (fun j a_ b_ => (tp_f hR_ (show j < tm by omega)).2.1)
    have ri_ := fRun_in (P := isL (mB tf tm)) (tm - s) s
    have ra_ := fRun_all (P := isL (mB tf tm)) (tm - s) s
    obtain ⟨e, he2_⟩ : ∃ e, fRun (isL (mB tf tm)) (tm - s) s = e := ⟨_, rfl⟩
    rw [he2_] at rr_ ri_ ra_
    rw [tGo_l sk_ st_ q2_ rr_, mUp_e (mAdv_l hs_ st_ (b2_.mp q2_) he2_ rfl)]
    refine ⟨⟨rfl, rfl, by show e ≤ tm; omega, fun i hi_ => ?_, fun most _ => ⟨⟨fun z_ => absurd z_.1 x12, fun z_ => absurd z_.1 x12⟩, fun z_ => absurd z_.1 x12⟩, ⟨fun z_ => absurd z_ x13, fun z_ => absurd z_.1 x13⟩, ⟨fun z_ => absurd z_ x10, fun z_ => absurd z_ x10⟩⟩, rfl⟩
    have n_ := name_e hR_ hi_ ri_.1 (show e ≤ tm by omega) ra_
    constructor
    · intro z_; exact ⟨rfl, n_.mp ⟨z_.2.1, z_.2.2⟩⟩
    · intro z_; obtain ⟨g1_, g2_⟩ := n_.mpr z_.2; exact ⟨rfl, g1_, g2_⟩
  by_cases q3_ : isD f s
  · have rr_ : fRun (isD f) (tm - s) s = fRun (isD (mB tf tm)) (tm - s) s := fRun_cg _ _ (fun j a_ b_ => (tp_f hR_ (show j < tm by omega)).2.2.1)
    have ri_ := fRun_in (P := isD (mB tf tm)) (tm - s) s
    have ra_ := fRun_all (P := isD (mB tf tm)) (tm - s) s
    obtain ⟨e, he2_⟩ : ∃ e, fRun (isD (mB tf tm)) (tm - s) s = e := ⟨_, rfl⟩
    rw [he2_] at rr_ ri_ ra_
    rw [tGo_d sk_ st_ q2_ q3_ rr_ rfl, mUp_e (mAdv_d hs_ st_ (fun z_ => q2_ (b2_.mpr z_)) (b3_.mp q3_) he2_ rfl)]
    refine ⟨⟨rfl, rfl, by show e ≤ tm; omega, fun i _ => ⟨fun z_ => absurd z_.1 x21, fun z_ => absurd z_.1 x21⟩, fun most hm_ => ?_, ⟨fun z_ => absurd z_ x23, fun z_ => absurd z_.1 x23⟩, ⟨fun z_ => absurd z_ x20, fun z_ => absurd z_ x20⟩⟩, rfl⟩
    have n_ := num_e (st := s) (n := e - s) hR_ (by omega) (fun k z_ => ra_ (s + k) (by omega) (by omega)) hm_
    exact ⟨⟨fun z_ => ⟨rfl, n_.1.mp z_.2⟩, fun z_ => ⟨rfl, n_.1.mpr z_.2⟩⟩, fun z_ => n_.2 z_.2⟩
  · rw [tGo_o sk_ st_ q2_ q3_ rfl, mUp_e (mAdv_o hs_ st_ (fun z_ => q2_ (b2_.mpr z_)) (fun z_ => q3_ (b3_.mpr z_)))]
    refine ⟨⟨rfl, rfl, by show s + 1 ≤ tm; omega, fun i _ => ⟨fun z_ => ?_, fun z_ => absurd z_.1 x31⟩, fun most _ => ⟨⟨fun z_ => ?_, fun z_ => absurd z_.1 x32⟩, fun z_ => ?_⟩, ?_, ?_⟩, rfl⟩
    · have h_ := z_.1
      dsimp only at h_
      by_cases g_ : f s = 59
      · rw [if_pos g_] at h_; exact absurd h_ (by decide)
      · rw [if_neg g_] at h_; exact absurd h_ (by decide)
    · have h_ := z_.1
      dsimp only at h_
      by_cases g_ : f s = 59
      · rw [if_pos g_] at h_; exact absurd h_ (by decide)
      · rw [if_neg g_] at h_; exact absurd h_ (by decide)
    · have h_ := z_.1
      dsimp only at h_
      by_cases g_ : f s = 59
      · rw [if_pos g_] at h_; exact absurd h_ (by decide)
      · rw [if_neg g_] at h_; exact absurd h_ (by decide)
    · dsimp only
      by_cases g_ : f s = 59
      · rw [if_pos g_]; exact ⟨fun _ => ⟨rfl, b4_.mp g_⟩, fun _ => rfl⟩
      · rw [if_neg g_]; exact ⟨fun z_ => absurd z_ (by decide), fun z_ => absurd (b4_.mpr z_.2) g_⟩
    · dsimp only
      by_cases g_ : f s = 59
      · rw [if_pos g_]
      · rw [if_neg g_]; exact ⟨fun z_ => absurd z_ (by decide), fun z_ => absurd z_ (by decide)⟩
/-- the two readers stand alike: both go on, or both have found the same fault -/
def Sim (f : Nat → Int32) (tm : Nat) (t : T5) (m : M6t) : Prop :=
  (t.2.2.2.2 < 0 ∧ ¬ m.2.2.2.2.2 = 0 ∧ TkG f tm t m) ∨ (0 ≤ t.2.2.2.2 ∧ t.2.2.2.2 = nI m.1 ∧ m.2.2.2.2.2 = 0)
theorem Sim.ok {f : Nat → Int32} {tm : Nat} {t : T5} {m : M6t} (h_ : Sim f tm t m) (g_ : ¬ m.2.2.2.2.2 = 0) : t.2.2.2.2 < 0 ∧ TkG f tm t m := by
  rcases h_ with h_ | h_
  · exact ⟨h_.1, h_.2.2⟩
  · exact absurd h_.2.2 g_
theorem fFl_b {st : Nat} {fa : Int32} (h_ : 0 ≤ fa) : fFl st fa = fa := by unfold fFl; exact if_neg (Int32.not_lt.mpr h_)
theorem tGo_fa {f : Nat → Int32} {ln : Nat} {t : T5} : (tGo f ln t).2.2.2.2 = t.2.2.2.2 := by
  unfold tGo
  by_cases q1_ : ln ≤ tSk f ln t.2.1
  · rw [cif_t q1_]
  rw [cif_f q1_]
  by_cases q2_ : isL f (tSk f ln t.2.1)
  · rw [cif_t q2_]
  rw [cif_f q2_]
  by_cases q3_ : isD f (tSk f ln t.2.1)
  · rw [cif_t q3_]
  rw [cif_f q3_]
theorem tNum_fa {f : Nat → Int32} {ln : Nat} {most : Int32} {t : T5} (h_ : 0 ≤ t.2.2.2.2) : (tNum f ln most t).2.2.2.2.2 = t.2.2.2.2 := by
  unfold tNum
  split
  · exact tGo_fa
  · exact fFl_b h_
theorem tNuA_fa {f : Nat → Int32} {ln i : Nat} {most wo : Int32} {t : T5} (h_ : 0 ≤ t.2.2.2.2) : (tNuA f ln i most wo t).2.2.2.2.2 = t.2.2.2.2 := by
  unfold tNuA
  by_cases q_ : tNam f i t.1 t.2.1 t.2.2.1
  · rw [cif_t q_, tNum_fa (by rw [tGo_fa]; exact h_), tGo_fa]
  · rw [cif_f q_]
theorem tStp_fa {f : Nat → Int32} {ln : Nat} {t : T5} (h_ : 0 ≤ t.2.2.2.2) : (tStp f ln t).2.2.2.2 = t.2.2.2.2 := by
  unfold tStp
  split
  · exact tGo_fa
  · exact fFl_b h_
theorem mEnd_b {f : Nat → Int32} {tm : Nat} {m : M6t} (h_ : m.2.2.2.2.2 = 0) : mEnd f tm m = (m.1, m.2.1, m.2.2.1, m.2.2.2.1, m.2.2.2.2.1, 0) := by
  unfold mEnd; rw [cif_f (fun z_ => z_.1 h_)]
theorem mNum_b {f : Nat → Int32} {tm : Nat} {most : Int32} {m : M6t} (h_ : m.2.2.2.2.2 = 0) : (mNum f tm most m).2 = (m.1, m.2.1, m.2.2.1, m.2.2.2.1, m.2.2.2.2.1, 0) := by
  unfold mNum; rw [cif_f (fun z_ => z_.1 h_)]
theorem mOp_b {f : Nat → Int32} {tm : Nat} {w : Int64} {most wo : Int32} {m : M6t} (h_ : m.2.2.2.2.2 = 0) : mOp f tm w most wo m = (wo, m) := by
  unfold mOp; rw [cif_f (fun z_ => z_.1 h_)]
theorem mMay_b {f : Nat → Int32} {tm : Nat} {w : Int64} {m : M6t} (h_ : m.2.2.2.2.2 = 0) : mMay f tm w m = (0, m) := by
  unfold mMay; rw [cif_f (fun z_ => z_.1 h_)]
section SM
variable {f tf : Nat → Int32} {tm : Nat}
theorem sim_num (hR_ : TpR f tf tm) {t : T5} {m : M6t} {most : Int32} (hm_ : most ≤ 255) (h_ : Sim f tm t m) (hb_ : t.1 ≤ tm) (ht_ : tm < 2147483648) : Sim f tm (tNum f tm most t).2 (mNum tf tm most m).2 ∧ (¬ (mNum tf tm most m).2.2.2.2.2.2 = 0 → (tNum f tm most t).1 = (mNum tf tm most m).1 ∧ 0 ≤ (mNum tf tm most m).1 ∧ (mNum tf tm most m).1 ≤ most) := by
  rcases h_ with ⟨a_, b_, c_⟩ | ⟨a_, b_, c_⟩
  · obtain ⟨c1_, c2_, c3_, c4_, c5_, c6_, c7_⟩ := c_
    obtain ⟨d1_, d2_⟩ := c5_ most hm_
    by_cases q_ : t.2.2.1 = 2 ∧ t.2.2.2.1 ≤ most
    · have q2_ := d1_.mp q_
      unfold tNum mNum
      rw [if_pos q_, cif_t ⟨b_, q2_⟩]
      obtain ⟨g1_, g2_⟩ := tok_go hR_ (t := t) (gd := 1) c3_
      refine ⟨Or.inl ⟨by show (tGo f tm t).2.2.2.2 < 0; rw [g2_]; exact a_, (by decide : ¬ (1 : Int32) = 0), by rw [← c2_]; exact g1_⟩, fun _ => ⟨d2_ q_, q2_.2⟩⟩
    · have q2_ : ¬ (¬ m.2.2.2.2.2 = 0 ∧ m.2.2.1 = 2 ∧ 0 ≤ m.2.2.2.2.1 ∧ m.2.2.2.2.1 ≤ most) := fun z_ => q_ (d1_.mpr z_.2)
      unfold tNum mNum
      rw [if_neg q_, cif_f q2_]
      refine ⟨Or.inr ⟨?_, ?_, rfl⟩, fun z_ => absurd rfl z_⟩
      · show 0 ≤ fFl t.1 t.2.2.2.2; unfold fFl; rw [if_pos a_]; exact nI_pos' (by omega)
      · show fFl t.1 t.2.2.2.2 = nI m.1; unfold fFl; rw [if_pos a_, c1_]
  · refine ⟨Or.inr ⟨by rw [tNum_fa a_]; exact a_, by rw [tNum_fa a_, mNum_b c_]; exact b_, by rw [mNum_b c_]⟩, fun z_ => absurd (by rw [mNum_b c_]) z_⟩
theorem sim_stp (hR_ : TpR f tf tm) {t : T5} {m : M6t} (h_ : Sim f tm t m) (hb_ : t.1 ≤ tm) (ht_ : tm < 2147483648) : Sim f tm (tStp f tm t) (mEnd tf tm m) := by
  rcases h_ with ⟨a_, b_, c_⟩ | ⟨a_, b_, c_⟩
  · obtain ⟨c1_, c2_, c3_, c4_, c5_, c6_, c7_⟩ := c_
    by_cases q_ : t.2.2.1 = 3
    · have q2_ := c6_.mp q_
      unfold tStp mEnd
      rw [if_pos q_, cif_t ⟨b_, q2_⟩]
      obtain ⟨g1_, g2_⟩ := tok_go hR_ (t := t) (gd := 1) c3_
      exact Or.inl ⟨by rw [g2_]; exact a_, (by decide : ¬ (1 : Int32) = 0), by rw [← c2_]; exact g1_⟩
    · unfold tStp mEnd
      rw [if_neg q_, cif_f (fun z_ => q_ (c6_.mpr z_.2))]
      refine Or.inr ⟨?_, ?_, rfl⟩
      · show 0 ≤ fFl t.1 t.2.2.2.2; unfold fFl; rw [if_pos a_]; exact nI_pos' (by omega)
      · show fFl t.1 t.2.2.2.2 = nI m.1; unfold fFl; rw [if_pos a_, c1_]
  · exact Or.inr ⟨by rw [tStp_fa a_]; exact a_, by rw [tStp_fa a_, mEnd_b c_]; exact b_, by rw [mEnd_b c_]⟩
theorem sim_go (hR_ : TpR f tf tm) {t : T5} {m : M6t} {gd : Int32} (h_ : t.2.2.2.2 < 0 ∧ TkG f tm t m) (hg_ : ¬ gd = 0) : Sim f tm (tGo f tm t) (mUp tf tm m.2.1 gd) := by
  obtain ⟨g1_, g2_⟩ := tok_go hR_ (t := t) (gd := gd) h_.2.2.2.1
  exact Or.inl ⟨by rw [g2_]; exact h_.1, hg_, by rw [← h_.2.2.1]; exact g1_⟩
theorem tGo_st {t : T5} (h_ : t.2.1 ≤ tm) : (tGo f tm t).1 ≤ tm ∧ (tGo f tm t).2.1 ≤ tm ∧ (tGo f tm t).1 ≤ (tGo f tm t).2.1 := by
  have a_ := tGo_le (b := f) (ln := tm) (t := t) (st := (tGo f tm t).1) (en := (tGo f tm t).2.1) (so := (tGo f tm t).2.2.1) (va := (tGo f tm t).2.2.2.1) (fa := (tGo f tm t).2.2.2.2) rfl h_
  exact ⟨Nat.le_trans a_.1 a_.2, a_.2, a_.1⟩
theorem tNum_st {most : Int32} {t : T5} (h_ : t.2.1 ≤ tm) (hs_ : t.1 ≤ t.2.1) : (tNum f tm most t).2.1 ≤ (tNum f tm most t).2.2.1 ∧ (tNum f tm most t).2.2.1 ≤ tm :=
  tNum_le (rv := (tNum f tm most t).1) (so := (tNum f tm most t).2.2.2.1) (va := (tNum f tm most t).2.2.2.2.1) (fa := (tNum f tm most t).2.2.2.2.2) rfl h_ hs_
theorem tNuA_st {i : Nat} {most wo : Int32} {t : T5} (h_ : t.2.1 ≤ tm) (hs_ : t.1 ≤ t.2.1) : (tNuA f tm i most wo t).2.1 ≤ (tNuA f tm i most wo t).2.2.1 ∧ (tNuA f tm i most wo t).2.2.1 ≤ tm :=
  tNuA_le (rv := (tNuA f tm i most wo t).1) (so := (tNuA f tm i most wo t).2.2.2.1) (va := (tNuA f tm i most wo t).2.2.2.2.1) (fa := (tNuA f tm i most wo t).2.2.2.2.2) rfl h_ hs_
theorem sim_op (hR_ : TpR f tf tm) {t : T5} {m : M6t} {i : Nat} {most wo : Int32} (hi_ : i < 15) (hm_ : most ≤ 255) (hw_ : 0 ≤ wo ∧ wo ≤ most) (h_ : Sim f tm t m) (hs_ : t.1 ≤ t.2.1) (he_ : t.2.1 ≤ tm) (ht_ : tm < 2147483648) : Sim f tm (tNuA f tm i most wo t).2 (mOp tf tm (lN (kW.getD i 0)) most wo m).2 ∧ (¬ (mOp tf tm (lN (kW.getD i 0)) most wo m).2.2.2.2.2.2 = 0 → (tNuA f tm i most wo t).1 = (mOp tf tm (lN (kW.getD i 0)) most wo m).1 ∧ 0 ≤ (mOp tf tm (lN (kW.getD i 0)) most wo m).1 ∧ (mOp tf tm (lN (kW.getD i 0)) most wo m).1 ≤ most) := by
  rcases h_ with ⟨a_, b_, c_⟩ | ⟨a_, b_, c_⟩
  · have n_ := c_.2.2.2.1 i hi_
    by_cases q_ : tNam f i t.1 t.2.1 t.2.2.1
    · unfold tNuA mOp
      rw [cif_t q_, cif_t ⟨b_, n_.mp q_⟩]
      have g_ := tGo_st (f := f) (t := t) he_
      exact sim_num hR_ hm_ (sim_go hR_ ⟨a_, c_⟩ b_) g_.1 ht_
    · unfold tNuA mOp
      rw [cif_f q_, cif_f (fun z_ => q_ (n_.mpr z_.2))]
      exact ⟨Or.inl ⟨a_, b_, c_⟩, fun _ => ⟨rfl, hw_⟩⟩
  · rw [mOp_b c_]
    exact ⟨Or.inr ⟨by rw [tNuA_fa a_]; exact a_, by rw [tNuA_fa a_]; exact b_, c_⟩, fun z_ => absurd c_ z_⟩
end SM
