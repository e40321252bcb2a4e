theorem mvI_s {f g g1 : Nat → Int32} {k : Nat} (h_ : g1 = fun j_ => if j_ < k then f j_ else g j_) : upd g1 k (f k) = fun j_ => if j_ < k + 1 then f j_ else g j_ := by
  funext j_
  by_cases e_ : j_ = k
  · subst e_; rw [pk_us, if_pos (Nat.lt_succ_self _)]
  · rw [pk_un e_, h_]
    by_cases q_ : j_ < k
    · rw [if_pos (by omega)]; exact if_pos q_
    · rw [if_neg (by omega)]; exact if_neg q_
theorem zeI_s {g g1 : Nat → Int32} {k : Nat} (h_ : g1 = fun j_ => if j_ < k then 0 else g j_) : upd g1 k 0 = fun j_ => if j_ < k + 1 then 0 else g j_ := by
  funext j_
  by_cases e_ : j_ = k
  · subst e_; rw [pk_us, if_pos (Nat.lt_succ_self _)]
  · rw [pk_un e_, h_]
    by_cases q_ : j_ < k
    · rw [if_pos (by omega)]; exact if_pos q_
    · rw [if_neg (by omega)]; exact if_neg q_
def zF : Nat → Int32 := fun _ => 0
def fRow0 : Nat → Int32 := fRow (svI [2, 3, 1, 20]) 0 0 zF zF zF 0 zF zF zF zF 0
theorem fRow0_all : ∀ j, j < 76 → fRow0 j = if j = 0 then 2 else if j = 1 then 3 else if j = 2 then 1 else if j = 3 then 20 else 0 := by decide +kernel
theorem fRow0_at {g g1 : Nat → Int32} (h_ : g1 = fun j_ => if j_ < 76 then 0 else g j_) {j : Nat} (hj_ : j < 76) : upd (upd (upd (upd g1 0 2) 1 3) 2 1) 3 20 j = fRow0 j := by
  rw [fRow0_all j hj_]
  by_cases e3_ : j = 3
  · subst e3_; rw [pk_us]; rfl
  rw [pk_un e3_]
  by_cases e2_ : j = 2
  · subst e2_; rw [pk_us]; rfl
  rw [pk_un e2_]
  by_cases e1_ : j = 1
  · subst e1_; rw [pk_us]; rfl
  rw [pk_un e1_]
  by_cases e0_ : j = 0
  · subst e0_; rw [pk_us]; rfl
  rw [pk_un e0_, if_neg e0_, if_neg e1_, if_neg e2_, if_neg e3_, h_]
  exact if_pos hj_
theorem on_al2 : ∀ a, a < 64 → ∀ b, b < 64 → 64 * a + b ≠ 0 → (nI (64 * a + b) &&& (nI (64 * a + b) - 1)) = nI ((64 * a + b) &&& (64 * a + b - 1)) ∧ fBC (nI (64 * a + b)) = fBC (nI ((64 * a + b) &&& (64 * a + b - 1))) + 1 ∧ ((64 * a + b) &&& (64 * a + b - 1)) < 64 * a + b := by decide +kernel
theorem on_all (n : Nat) (h_ : n < 4096) (h0_ : n ≠ 0) : (nI n &&& (nI n - 1)) = nI (n &&& (n - 1)) ∧ fBC (nI n) = fBC (nI (n &&& (n - 1))) + 1 ∧ (n &&& (n - 1)) < n := by
  have e_ : 64 * (n / 64) + n % 64 = n := by omega
  have a_ := on_al2 (n / 64) (by omega) (n % 64) (by omega) (by omega)
  rw [e_] at a_
  exact a_
theorem on_s {n : Nat} {x y c : Int32} (hn_ : n < 4096) (hy_ : y = nI n) (h0_ : ¬ y = 0) (hc_ : c + fBC y = fBC x) : (y &&& (y - 1)) = nI (n &&& (n - 1)) ∧ (n &&& (n - 1)) < n ∧ c + 1 + fBC (y &&& (y - 1)) = fBC x := by
  subst hy_
  obtain ⟨a_, b_, d_⟩ := on_all n hn_ (fun z_ => h0_ (by rw [z_]; rfl))
  refine ⟨a_, d_, ?_⟩
  rw [a_, ← hc_, b_]; grind
theorem nI_m1 {h : Nat} (h_ : h < 2147483648) : ¬ nI h = -1 := fun z_ => absurd (z_ ▸ nI_pos' (n := h) h_ : (0 : Int32) ≤ -1) (by decide)
theorem mQ_iff {nh : Nat} (hn_ : nh ≤ 8) {U : Nat → Prop} : ∀ h, (h < nh ∧ (nI h = -1 ∨ U h)) ↔ h < nh ∧ U h := fun h =>
  ⟨fun z_ => ⟨z_.1, z_.2.elim (fun y_ => absurd y_ (nI_m1 (by omega))) id⟩, fun z_ => ⟨z_.1, Or.inr z_.2⟩⟩
def fChl (z dl : Int32) (nh : Nat) : Int32 := if fRem (fDr (fZ z)) 100 < dl then fRem (fDr z) (nI nh) else -1
def fChi (z dl : Int32) (nh : Nat) : Int32 := if nh = 0 then -1 else fChl z dl nh
def fZz (z : Int32) (nh : Nat) : Int32 := if nh = 0 then z else fZ (fZ z)
theorem and1_c (y : Int32) : y &&& 1 = 0 ∨ y &&& 1 = 1 := by
  have h_ : (y &&& 1).toBitVec = BitVec.setWidth 32 (BitVec.ofBool (y.toBitVec.getLsbD 0)) := by
    rw [Int32.toBitVec_and]; exact BitVec.and_one_eq_setWidth_ofBool_getLsbD
  cases hb_ : y.toBitVec.getLsbD 0 with
  | false => left; rw [hb_] at h_; exact Int32.toBitVec_inj.mp (h_.trans (by decide))
  | true => right; rw [hb_] at h_; exact Int32.toBitVec_inj.mp (h_.trans (by decide))
theorem and1_0 {x y : Int32} (h_ : ¬ hasP x y) : (x >>> (y &&& 31)) &&& 1 = 0 := (and1_c _).resolve_right h_
theorem so_st {sw : Nat → Int32} {k : Nat} {x : Int32} (hx_ : x = fMask (fun s_ => sw s_ = 1) k) (hb_ : sw k = 0 ∨ sw k = 1) : x ||| (sw k <<< (nI k &&& 31)) = fMask (fun s_ => sw s_ = 1) (k + 1) := by
  rcases hb_ with b_ | b_
  · rw [b_, Int32.zero_shiftLeft, Int32.or_zero]; exact fMask_sf hx_ (by rw [b_]; decide)
  · rw [b_]; exact fMask_st hx_ b_
theorem ra_st {ar : Nat → Int32} {i k : Nat} {x : Int32} (hx_ : x = fMask (fun h_ => hasP (ar h_) (nI i)) k) : x ||| (((ar k >>> (nI i &&& 31)) &&& 1) <<< (nI k &&& 31)) = fMask (fun h_ => hasP (ar h_) (nI i)) (k + 1) := by
  by_cases q_ : hasP (ar k) (nI i)
  · rw [show (ar k >>> (nI i &&& 31)) &&& 1 = 1 from q_]; exact fMask_st hx_ q_
  · rw [and1_0 q_, Int32.zero_shiftLeft, Int32.or_zero]; exact fMask_sf hx_ q_
set_option maxRecDepth 100000 in
set_option maxHeartbeats 4000000 in
theorem c_X6_in (l : Launch) (G : Gd) (v : Int32) (lo : Int32) (hi : Int32)  : Ct l G yX6_in cX6_in 3 (some (FieldType.boolean)) 0 [.int v, .int lo, .int hi] (wF []) (some (.int (bI (lo ≤ v ∧ v ≤ hi)))) (wF []) := by
  refine Ct.of "GooseArmsModel" [some (.int v), some (.int lo), some (.int hi)] (by decide +kernel) rfl (Nat.le_of_ble_eq_true rfl) rfl ?_
  refine J_iload_n 0 0 dX6_in_0 rfl rfl ?_
  refine J_iload_n 1 1 dX6_in_1 rfl rfl ?_
  refine J_icmp_lt (tgt := 14) 2 dX6_in_2 (by decide) (fun c_1_ => ?_) (fun c_1_ => ?_)
  · skip
    refine J_iconst (v := 0) 14 dX6_in_14 rfl ?_
    exact J_zret 15 rfl dX6_in_15 (congrArg (fun x_ => some (Value.int x_)) (bI_f (by first | omega | grind)).symm) rfl
  · skip
    refine J_iload_n 5 0 dX6_in_5 rfl rfl ?_
    refine J_iload_n 6 2 dX6_in_6 rfl rfl ?_
    refine J_icmp_gt (tgt := 14) 7 dX6_in_7 (by decide) (fun c_2_ => ?_) (fun c_2_ => ?_)
    · skip
      refine J_iconst (v := 0) 14 dX6_in_14 rfl ?_
      exact J_zret 15 rfl dX6_in_15 (congrArg (fun x_ => some (Value.int x_)) (bI_f (by first | omega | grind)).symm) rfl
    · skip
      refine J_iconst (v := 1) 10 dX6_in_10 rfl ?_
      refine J_goto (tgt := 15) 11 dX6_in_11 (by decide) ?_
      exact J_zret 15 rfl dX6_in_15 (congrArg (fun x_ => some (Value.int x_)) (bI_t (by first | omega | grind)).symm) rfl
set_option maxRecDepth 100000 in
set_option maxHeartbeats 4000000 in
theorem c_X6_in_t (l : Launch) (G : Gd) (v : Int32) (lo : Int32) (hi : Int32) (hw : lo ≤ v ∧ v ≤ hi) : Ct l G yX6_in cX6_in 3 (some (FieldType.boolean)) 0 [.int v, .int lo, .int hi] (wF []) (some (.int 1)) (wF []) := by
  refine Ct.of "GooseArmsModel" [some (.int v), some (.int lo), some (.int hi)] (by decide +kernel) rfl (Nat.le_of_ble_eq_true rfl) rfl ?_
  refine J_iload_n 0 0 dX6_in_0 rfl rfl ?_
  refine J_iload_n 1 1 dX6_in_1 rfl rfl ?_
  refine J_icmp_lt (tgt := 14) 2 dX6_in_2 (by decide) (fun c_1_ => ?_) (fun c_1_ => ?_)
  · skip
    exact absurd c_1_ (Int32.not_lt.mpr hw.1)
  · skip
    refine J_iload_n 5 0 dX6_in_5 rfl rfl ?_
    refine J_iload_n 6 2 dX6_in_6 rfl rfl ?_
    refine J_icmp_gt (tgt := 14) 7 dX6_in_7 (by decide) (fun c_2_ => ?_) (fun c_2_ => ?_)
    · skip
      exact absurd c_2_ (Int32.not_lt.mpr hw.2)
    · skip
      refine J_iconst (v := 1) 10 dX6_in_10 rfl ?_
      refine J_goto (tgt := 15) 11 dX6_in_11 (by decide) ?_
      exact J_zret 15 rfl dX6_in_15 rfl rfl
set_option maxRecDepth 100000 in
set_option maxHeartbeats 4000000 in
theorem c_X6_in_f (l : Launch) (G : Gd) (v : Int32) (lo : Int32) (hi : Int32) (hw : ¬ (lo ≤ v ∧ v ≤ hi)) : Ct l G yX6_in cX6_in 3 (some (FieldType.boolean)) 0 [.int v, .int lo, .int hi] (wF []) (some (.int 0)) (wF []) := by
  refine Ct.of "GooseArmsModel" [some (.int v), some (.int lo), some (.int hi)] (by decide +kernel) rfl (Nat.le_of_ble_eq_true rfl) rfl ?_
  refine J_iload_n 0 0 dX6_in_0 rfl rfl ?_
  refine J_iload_n 1 1 dX6_in_1 rfl rfl ?_
  refine J_icmp_lt (tgt := 14) 2 dX6_in_2 (by decide) (fun c_1_ => ?_) (fun c_1_ => ?_)
  · skip
    refine J_iconst (v := 0) 14 dX6_in_14 rfl ?_
    exact J_zret 15 rfl dX6_in_15 rfl rfl
  · skip
    refine J_iload_n 5 0 dX6_in_5 rfl rfl ?_
    refine J_iload_n 6 2 dX6_in_6 rfl rfl ?_
    refine J_icmp_gt (tgt := 14) 7 dX6_in_7 (by decide) (fun c_2_ => ?_) (fun c_2_ => ?_)
    · skip
      refine J_iconst (v := 0) 14 dX6_in_14 rfl ?_
      exact J_zret 15 rfl dX6_in_15 rfl rfl
    · skip
      exact absurd ⟨Int32.not_lt.mp c_1_, Int32.not_lt.mp c_2_⟩ hw
set_option maxRecDepth 100000 in
set_option maxHeartbeats 4000000 in
theorem c_X6_held_99 (l : Launch) (G : Gd) (v : Int32)  : Ct l G yX6_held cX6_held 3 (some (FieldType.int)) 0 [.int v, .int 0, .int 99] (wF []) (some (.int (heldI v))) (wF []) := by
  refine Ct.of "GooseArmsModel" [some (.int v), some (.int 0), some (.int 99)] (by decide +kernel) rfl (Nat.le_of_ble_eq_true rfl) rfl ?_
  refine J_iload_n 0 0 dX6_held_0 rfl rfl ?_
  refine J_iload_n 1 1 dX6_held_1 rfl rfl ?_
  refine J_icmp_ge (tgt := 9) 2 dX6_held_2 (by decide) (fun c_1_ => ?_) (fun c_1_ => ?_)
  · skip
    refine J_iload_n 9 0 dX6_held_9 rfl rfl ?_
    refine J_iload_n 10 2 dX6_held_10 rfl rfl ?_
    refine J_icmp_le (tgt := 18) 11 dX6_held_11 (by decide) (fun c_2_ => ?_) (fun c_2_ => ?_)
    · skip
      refine J_iload_n 18 0 dX6_held_18 rfl rfl ?_
      exact J_iret 19 dX6_held_19 (congrArg (fun x_ => some (Value.int x_)) (by unfold heldI; by_cases z_ : v < 0 <;> by_cases y_ : 99 < v <;> simp [z_, y_] <;> grind)) rfl
    · skip
      refine J_iload_n 14 2 dX6_held_14 rfl rfl ?_
      refine J_goto (tgt := 19) 15 dX6_held_15 (by decide) ?_
      exact J_iret 19 dX6_held_19 (congrArg (fun x_ => some (Value.int x_)) (by unfold heldI; by_cases z_ : v < 0 <;> by_cases y_ : 99 < v <;> simp [z_, y_] <;> grind)) rfl
  · skip
    refine J_iload_n 5 1 dX6_held_5 rfl rfl ?_
    refine J_goto (tgt := 19) 6 dX6_held_6 (by decide) ?_
    exact J_iret 19 dX6_held_19 (congrArg (fun x_ => some (Value.int x_)) (by unfold heldI; by_cases z_ : v < 0 <;> by_cases y_ : 99 < v <;> simp [z_, y_] <;> grind)) rfl
set_option maxRecDepth 100000 in
set_option maxHeartbeats 4000000 in
theorem c_X6_isLetter (l : Launch) (G : Gd) (v : Int32)  : Ct l G yX6_isLetter cX6_isLetter 1 (some (FieldType.boolean)) 1 [.int v] (wF []) (some (.int (bI (97 ≤ v ∧ v ≤ 122)))) (wF []) := by
  refine Ct.of "GooseArmsModel" [some (.int v)] (by decide +kernel) rfl (Nat.le_of_ble_eq_true rfl) rfl ?_
  refine J_iload_n 0 0 dX6_isLetter_0 rfl rfl ?_
  refine J_bipush (v := 97) 1 dX6_isLetter_1 rfl ?_
  refine J_bipush (v := 122) 3 dX6_isLetter_3 rfl ?_
  refine kb_RX6_57 (bs' := []) (rest := []) (st' := [.int (bI (97 ≤ v ∧ v ≤ 122))]) 5 (c_X6_in l G v 97 122 ) [] rfl rfl [] rfl rfl rfl rfl rfl rfl (Nat.le_of_ble_eq_true rfl) rfl dX6_isLetter_5 ?_
  exact J_zret 8 (bI_nar _) dX6_isLetter_8 rfl rfl
set_option maxRecDepth 100000 in
set_option maxHeartbeats 4000000 in
theorem c_X6_isDigit (l : Launch) (G : Gd) (v : Int32)  : Ct l G yX6_isDigit cX6_isDigit 1 (some (FieldType.boolean)) 1 [.int v] (wF []) (some (.int (bI (48 ≤ v ∧ v ≤ 57)))) (wF []) := by
  refine Ct.of "GooseArmsModel" [some (.int v)] (by decide +kernel) rfl (Nat.le_of_ble_eq_true rfl) rfl ?_
  refine J_iload_n 0 0 dX6_isDigit_0 rfl rfl ?_
  refine J_bipush (v := 48) 1 dX6_isDigit_1 rfl ?_
  refine J_bipush (v := 57) 3 dX6_isDigit_3 rfl ?_
  refine kb_RX6_57 (bs' := []) (rest := []) (st' := [.int (bI (48 ≤ v ∧ v ≤ 57))]) 5 (c_X6_in l G v 48 57 ) [] rfl rfl [] rfl rfl rfl rfl rfl rfl (Nat.le_of_ble_eq_true rfl) rfl dX6_isDigit_5 ?_
  exact J_zret 8 (bI_nar _) dX6_isDigit_8 rfl rfl
set_option maxRecDepth 100000 in
set_option maxHeartbeats 4000000 in
theorem c_X6_isShelf (l : Launch) (G : Gd) (v : Int32)  : Ct l G yX6_isShelf cX6_isShelf 1 (some (FieldType.boolean)) 1 [.int v] (wF []) (some (.int (bI (0 ≤ v ∧ v ≤ 3)))) (wF []) := by
  refine Ct.of "GooseArmsModel" [some (.int v)] (by decide +kernel) rfl (Nat.le_of_ble_eq_true rfl) rfl ?_
  refine J_iload_n 0 0 dX6_isShelf_0 rfl rfl ?_
  refine J_iconst (v := 0) 1 dX6_isShelf_1 rfl ?_
  refine J_iconst (v := 3) 2 dX6_isShelf_2 rfl ?_
  refine kb_RX6_57 (bs' := []) (rest := []) (st' := [.int (bI (0 ≤ v ∧ v ≤ 3))]) 3 (c_X6_in l G v 0 3 ) [] rfl rfl [] rfl rfl rfl rfl rfl rfl (Nat.le_of_ble_eq_true rfl) rfl dX6_isShelf_3 ?_
  exact J_zret 6 (bI_nar _) dX6_isShelf_6 rfl rfl
set_option maxRecDepth 100000 in
set_option maxHeartbeats 4000000 in
theorem c_X6_isShelf_t (l : Launch) (G : Gd) (j : Nat) (hj : j ≤ 3) : Ct l G yX6_isShelf cX6_isShelf 1 (some (FieldType.boolean)) 1 [.int (nI j)] (wF []) (some (.int 1)) (wF []) := by
  refine Ct.of "GooseArmsModel" [some (.int (nI j))] (by decide +kernel) rfl (Nat.le_of_ble_eq_true rfl) rfl ?_
  refine J_iload_n 0 0 dX6_isShelf_0 rfl rfl ?_
  refine J_iconst (v := 0) 1 dX6_isShelf_1 rfl ?_
  refine J_iconst (v := 3) 2 dX6_isShelf_2 rfl ?_
  refine kb_RX6_57 (bs' := []) (rest := []) (st' := [.int (bI (0 ≤ (nI j) ∧ (nI j) ≤ 3))]) 3 (c_X6_in l G (nI j) 0 3 ) [] rfl rfl [] rfl rfl rfl rfl rfl rfl (Nat.le_of_ble_eq_true rfl) rfl dX6_isShelf_3 ?_
  exact J_zret 6 (bI_nar _) dX6_isShelf_6 (congrArg (fun x_ => some (Value.int x_)) (bI_t (inL_t hj (by decide)))) rfl
set_option maxRecDepth 100000 in
set_option maxHeartbeats 4000000 in
theorem c_X6_isShelf_f (l : Launch) (G : Gd) (v : Int32) (hw : ¬ (0 ≤ v ∧ v ≤ 3)) : Ct l G yX6_isShelf cX6_isShelf 1 (some (FieldType.boolean)) 1 [.int v] (wF []) (some (.int 0)) (wF []) := by
  refine Ct.of "GooseArmsModel" [some (.int v)] (by decide +kernel) rfl (Nat.le_of_ble_eq_true rfl) rfl ?_
  refine J_iload_n 0 0 dX6_isShelf_0 rfl rfl ?_
  refine J_iconst (v := 0) 1 dX6_isShelf_1 rfl ?_
  refine J_iconst (v := 3) 2 dX6_isShelf_2 rfl ?_
  refine kb_RX6_57 (bs' := []) (rest := []) (st' := [.int (bI (0 ≤ v ∧ v ≤ 3))]) 3 (c_X6_in l G v 0 3 ) [] rfl rfl [] rfl rfl rfl rfl rfl rfl (Nat.le_of_ble_eq_true rfl) rfl dX6_isShelf_3 ?_
  exact J_zret 6 (bI_nar _) dX6_isShelf_6 (congrArg (fun x_ => some (Value.int x_)) (bI_f hw)) rfl
set_option maxRecDepth 100000 in
set_option maxHeartbeats 4000000 in
theorem c_X6_mostOf (l : Launch) (G : Gd) (j : Nat) (hj : j ≤ 3) : Ct l G yX6_mostOf cX6_mostOf 1 (some (FieldType.int)) 0 [.int (nI j)] (wF []) (some (.int (([9, 9, 9, 99] : List Int32).getD j 0))) (wF []) := by
  refine Ct.of "GooseArmsModel" [some (.int (nI j))] (by decide +kernel) rfl (Nat.le_of_ble_eq_true rfl) rfl ?_
  refine J_iload_n 0 0 dX6_mostOf_0 rfl rfl ?_
  refine J_iconst (v := 3) 1 dX6_mostOf_1 rfl ?_
  refine J_icmp_ne (tgt := 10) 2 dX6_mostOf_2 (by decide) (fun c_1_ => ?_) (fun c_1_ => ?_)
  · skip
    have c_1_ : ¬ j = 3 := fun z_ => c_1_ ((nI_eq (a := j) (b := 3) (by omega) (by omega)).mpr z_)
    refine J_bipush (v := 9) 10 dX6_mostOf_10 rfl ?_
    exact J_iret 12 dX6_mostOf_12 (congrArg (fun x_ => some (Value.int x_)) (by first | (rw [show j = 3 by omega]; rfl) | (rcases (show j = 0 ∨ j = 1 ∨ j = 2 by omega) with z_ | z_ | z_ <;> (rw [z_]; rfl)))) rfl
  · skip
    have c_1_ : j = 3 := (nI_eq (a := j) (b := 3) (by omega) (by omega)).mp c_1_
    refine J_bipush (v := 99) 5 dX6_mostOf_5 rfl ?_
    refine J_goto (tgt := 12) 7 dX6_mostOf_7 (by decide) ?_
    exact J_iret 12 dX6_mostOf_12 (congrArg (fun x_ => some (Value.int x_)) (by first | (rw [show j = 3 by omega]; rfl) | (rcases (show j = 0 ∨ j = 1 ∨ j = 2 by omega) with z_ | z_ | z_ <;> (rw [z_]; rfl)))) rfl
set_option maxRecDepth 100000 in
set_option maxHeartbeats 4000000 in
theorem c_X6_moveAll (l : Launch) (G : Gd) (a : Nat) (f : Nat → Int32) (b : Nat) (g : Nat → Int32)  : Ct l G yX6_moveAll cX6_moveAll 3 none 0 [.ref a, .ref b] (wF [wI G a 76 f, wI G b 76 g]) none (wF [wI G a 76 f, wI G b 76 f]) := by
  refine Ct.of "GooseArmsModel" [some (.ref a), some (.ref b), none] (by decide +kernel) rfl (Nat.le_of_ble_eq_true rfl) rfl ?_
  have cut_2_ : ∀ (n_2_ : Nat) (k : Nat) (g1 : Nat → Int32), (76 - k < n_2_) → (hk : k ≤ 76) → (hg : g1 = fun j_ => if j_ < k then f j_ else g j_) → J l G (bd G 0 none none (wF [wI G a 76 f, wI G b 76 f])) cX6_moveAll 3 "GooseArmsModel" 2 [some (.ref a), some (.ref b), some (.int (nI k))] [] (wF [wI G a 76 f, wI G b 76 g1]) := by
    intro n_2_
    induction n_2_ with
    | zero => intro k g1 m_2_; exact absurd m_2_ (Nat.not_lt_zero _)
    | succ n_2_ ih_2_ =>
      intro k g1 m_2_ hk hg
      refine J_iload_n 2 2 dX6_moveAll_2 rfl rfl ?_
      refine J_bipush (v := 76) 3 dX6_moveAll_3 rfl ?_
      refine J_icmp_ge (tgt := 20) 5 dX6_moveAll_5 (by decide) (fun c_1_ => ?_) (fun c_1_ => ?_)
      · skip
        have c_1_ : 76 ≤ k := (nI_leI (a := 76) (b := k) (by omega) (by omega)).mp c_1_
        have hk76_ : k = 76 := by omega
        refine J_arrI (ws' := (wF [wI G a 76 f, wI G b 76 f])) 20 1 rfl (fun j_ hj_ => by rw [hg]; exact if_pos (by omega)) rfl ?_
        exact J_vret 20 dX6_moveAll_20 rfl rfl
      · skip
        have c_1_ : ¬ 76 ≤ k := fun z_ => c_1_ ((nI_leI (a := 76) (b := k) (by omega) (by omega)).mpr z_)
        refine J_aload_n 8 1 dX6_moveAll_8 rfl rfl ?_
        refine J_iload_n 9 2 dX6_moveAll_9 rfl rfl ?_
        refine J_aload_n 10 0 dX6_moveAll_10 rfl rfl ?_
        refine J_iload_n 11 2 dX6_moveAll_11 rfl rfl ?_
        refine J_iald 12 0 k rfl rfl (by omega) (by decide) dX6_moveAll_12 ?_
        refine J_iast (ws' := (wF [wI G a 76 f, wI G b 76 (upd g1 k (f k))])) 13 1 k rfl rfl (by omega) (by decide) rfl dX6_moveAll_13 ?_
        refine J_iinc (v := nI (k + 1)) (lv' := [some (.ref a), some (.ref b), some (.int (nI (k + 1)))]) 14 dX6_moveAll_14 rfl (nI_add _ 1) (by decide) rfl ?_
        refine J_goto (tgt := 2) 17 dX6_moveAll_17 (by decide) ?_
        exact ih_2_ (k + 1) (upd g1 k (f k)) (by omega) (by first | assumption | omega | rfl) (by first | exact (funext fun j_ => (if_neg (Nat.not_lt_zero _)).symm) | exact mvI_s hg)
  refine J_iconst (v := 0) 0 dX6_moveAll_0 rfl ?_
  refine J_istore_n (lv' := [some (.ref a), some (.ref b), some (.int 0)]) 1 2 dX6_moveAll_1 rfl (by decide) rfl ?_
  exact cut_2_ ((76 - 0) + 1) 0 g (Nat.lt_succ_self _) (by first | assumption | omega | rfl) (by first | exact (funext fun j_ => (if_neg (Nat.not_lt_zero _)).symm) | exact mvI_s hg)
theorem c_X6_moveAll_r (l : Launch) (G : Gd) (a : Nat) (la : Nat → Int32) (ns : Nat) (sd : Nat) (to : Nat → Int32) (he : Nat → Int32) (sw : Nat → Int32) (nh : Nat) (ki : Nat → Int32) (te : Nat → Int32) (mi : Nat → Int32) (ar : Nat → Int32) (z : Int32) (b : Nat) (b_la : Nat → Int32) (b_ns : Nat) (b_sd : Nat) (b_to : Nat → Int32) (b_he : Nat → Int32) (b_sw : Nat → Int32) (b_nh : Nat) (b_ki : Nat → Int32) (b_te : Nat → Int32) (b_mi : Nat → Int32) (b_ar : Nat → Int32) (b_z : Int32)  : Ct l G yX6_moveAll cX6_moveAll 3 none 0 [.ref a, .ref b] (wF [wMr G a la ns sd to he sw nh ki te mi ar z, wMr G b b_la b_ns b_sd b_to b_he b_sw b_nh b_ki b_te b_mi b_ar b_z]) none (wF [wMr G a la ns sd to he sw nh ki te mi ar z, wMr G b la ns sd to he sw nh ki te mi ar z]) := c_X6_moveAll l G a _ b _
set_option maxRecDepth 100000 in
set_option maxHeartbeats 4000000 in
theorem c_X6_begins (l : Launch) (G : Gd) (a : Nat) (f : Nat → Int32)  : Ct l G yX6_begins cX6_begins 2 none 0 [.ref a] (wF [wI G a 76 f]) none (wF [wI G a 76 fRow0]) := by
  refine Ct.of "GooseArmsModel" [some (.ref a), none] (by decide +kernel) rfl (Nat.le_of_ble_eq_true rfl) rfl ?_
  have cut_2_ : ∀ (n_2_ : Nat) (k : Nat) (g1 : Nat → Int32), (76 - k < n_2_) → (hk : k ≤ 76) → (hg : g1 = fun j_ => if j_ < k then 0 else f j_) → J l G (bd G 0 none none (wF [wI G a 76 fRow0])) cX6_begins 2 "GooseArmsModel" 2 [some (.ref a), some (.int (nI k))] [] (wF [wI G a 76 g1]) := by
    intro n_2_
    induction n_2_ with
    | zero => intro k g1 m_2_; exact absurd m_2_ (Nat.not_lt_zero _)
    | succ n_2_ ih_2_ =>
      intro k g1 m_2_ hk hg
      refine J_iload_n 2 1 dX6_begins_2 rfl rfl ?_
      refine J_bipush (v := 76) 3 dX6_begins_3 rfl ?_
      refine J_icmp_ge (tgt := 18) 5 dX6_begins_5 (by decide) (fun c_1_ => ?_) (fun c_1_ => ?_)
      · skip
        have c_1_ : 76 ≤ k := (nI_leI (a := 76) (b := k) (by omega) (by omega)).mp c_1_
        refine J_aload_n 18 0 dX6_begins_18 rfl rfl ?_
        refine J_iconst (v := 0) 19 dX6_begins_19 rfl ?_
        refine J_iconst (v := 2) 20 dX6_begins_20 rfl ?_
        refine J_iast (ws' := (wF [wI G a 76 (upd g1 0 2)])) 21 0 0 rfl rfl (by omega) (by decide) rfl dX6_begins_21 ?_
        refine J_aload_n 22 0 dX6_begins_22 rfl rfl ?_
        refine J_iconst (v := 1) 23 dX6_begins_23 rfl ?_
        refine J_iconst (v := 3) 24 dX6_begins_24 rfl ?_
        refine J_iast (ws' := (wF [wI G a 76 (upd (upd g1 0 2) 1 3)])) 25 0 1 rfl rfl (by omega) (by decide) rfl dX6_begins_25 ?_
        refine J_aload_n 26 0 dX6_begins_26 rfl rfl ?_
        refine J_iconst (v := 2) 27 dX6_begins_27 rfl ?_
        refine J_iconst (v := 1) 28 dX6_begins_28 rfl ?_
        refine J_iast (ws' := (wF [wI G a 76 (upd (upd (upd g1 0 2) 1 3) 2 1)])) 29 0 2 rfl rfl (by omega) (by decide) rfl dX6_begins_29 ?_
        refine J_aload_n 30 0 dX6_begins_30 rfl rfl ?_
        refine J_iconst (v := 3) 31 dX6_begins_31 rfl ?_
        refine J_bipush (v := 20) 32 dX6_begins_32 rfl ?_
        refine J_iast (ws' := (wF [wI G a 76 (upd (upd (upd (upd g1 0 2) 1 3) 2 1) 3 20)])) 34 0 3 rfl rfl (by omega) (by decide) rfl dX6_begins_34 ?_
        have hk76_ : k = 76 := by omega
        refine J_arrI (ws' := (wF [wI G a 76 fRow0])) 35 0 rfl (fun j_ hj_ => fRow0_at (by rw [hg, hk76_]) hj_) rfl ?_
        exact J_vret 35 dX6_begins_35 rfl rfl
      · skip
        have c_1_ : ¬ 76 ≤ k := fun z_ => c_1_ ((nI_leI (a := 76) (b := k) (by omega) (by omega)).mpr z_)
        refine J_aload_n 8 0 dX6_begins_8 rfl rfl ?_
        refine J_iload_n 9 1 dX6_begins_9 rfl rfl ?_
        refine J_iconst (v := 0) 10 dX6_begins_10 rfl ?_
        refine J_iast (ws' := (wF [wI G a 76 (upd g1 k 0)])) 11 0 k rfl rfl (by omega) (by decide) rfl dX6_begins_11 ?_
        refine J_iinc (v := nI (k + 1)) (lv' := [some (.ref a), some (.int (nI (k + 1)))]) 12 dX6_begins_12 rfl (nI_add _ 1) (by decide) rfl ?_
        refine J_goto (tgt := 2) 15 dX6_begins_15 (by decide) ?_
        exact ih_2_ (k + 1) (upd g1 k 0) (by omega) (by first | assumption | omega | rfl) (by first | exact (funext fun j_ => (if_neg (Nat.not_lt_zero _)).symm) | exact zeI_s hg)
  refine J_iconst (v := 0) 0 dX6_begins_0 rfl ?_
  refine J_istore_n (lv' := [some (.ref a), some (.int 0)]) 1 1 dX6_begins_1 rfl (by decide) rfl ?_
  exact cut_2_ ((76 - 0) + 1) 0 f (Nat.lt_succ_self _) (by first | assumption | omega | rfl) (by first | exact (funext fun j_ => (if_neg (Nat.not_lt_zero _)).symm) | exact zeI_s hg)
theorem c_X6_begins_r (l : Launch) (G : Gd) (a : Nat) (la : Nat → Int32) (ns : Nat) (sd : Nat) (to : Nat → Int32) (he : Nat → Int32) (sw : Nat → Int32) (nh : Nat) (ki : Nat → Int32) (te : Nat → Int32) (mi : Nat → Int32) (ar : Nat → Int32) (z : Int32)  : Ct l G yX6_begins cX6_begins 2 none 0 [.ref a] (wF [wMr G a la ns sd to he sw nh ki te mi ar z]) none (wF [wMr G a (svI [2, 3, 1, 20]) 0 0 zF zF zF 0 zF zF zF zF 0]) := c_X6_begins l G a _
set_option maxRecDepth 100000 in
set_option maxHeartbeats 4000000 in
theorem c_X6_ones (l : Launch) (G : Gd) (x : Int32) (hx : ∃ n_ : Nat, n_ < 4096 ∧ x = nI n_) : Ct l G yX6_ones cX6_ones 3 (some (FieldType.int)) 0 [.int x] (wF []) (some (.int (fBC x))) (wF []) := by
  refine Ct.of "GooseArmsModel" [some (.int x), none, none] (by decide +kernel) rfl (Nat.le_of_ble_eq_true rfl) rfl ?_
  obtain ⟨n_, hn_, hxn_⟩ := hx
  have cut_4_ : ∀ (n_4_ : Nat) (c : Int32) (y : Int32) (n : Nat), (n < n_4_) → (hn : n < 4096) → (hy : y = nI n) → (hc : c + fBC y = fBC x) → J l G (bd G 0 (some (FieldType.int)) (some (.int (fBC x))) (wF [])) cX6_ones 3 "GooseArmsModel" 4 [some (.int x), some (.int c), some (.int y)] [] (wF []) := by
    intro n_4_
    induction n_4_ with
    | zero => intro c y n m_4_; exact absurd m_4_ (Nat.not_lt_zero _)
    | succ n_4_ ih_4_ =>
      intro c y n m_4_ hn hy hc
      refine J_iload_n 4 2 dX6_ones_4 rfl rfl ?_
      refine J_if_eq (tgt := 20) 5 dX6_ones_5 (by decide) (fun c_1_ => ?_) (fun c_1_ => ?_)
      · skip
        refine J_iload_n 20 1 dX6_ones_20 rfl rfl ?_
        exact J_iret 21 dX6_ones_21 (congrArg (fun x_ => some (Value.int x_)) (by rw [← hc, (by assumption : y = 0)]; exact (Int32.add_zero _).symm)) rfl
      · skip
        have hs_ := on_s hn hy c_1_ hc
        refine J_iinc (v := c + 1) (lv' := [some (.int x), some (.int (c + 1)), some (.int y)]) 8 dX6_ones_8 rfl rfl (by decide) rfl ?_
        refine J_iload_n 11 2 dX6_ones_11 rfl rfl ?_
        refine J_iload_n 12 2 dX6_ones_12 rfl rfl ?_
        refine J_iconst (v := 1) 13 dX6_ones_13 rfl ?_
        refine J_isub 14 dX6_ones_14 ?_
        refine J_iand 15 dX6_ones_15 ?_
        refine J_istore_n (lv' := [some (.int x), some (.int (c + 1)), some (.int (y &&& (y - 1)))]) 16 2 dX6_ones_16 rfl (by decide) rfl ?_
        refine J_goto (tgt := 4) 17 dX6_ones_17 (by decide) ?_
        exact ih_4_ (c + 1) (y &&& (y - 1)) (n &&& (n - 1)) (by first | omega | exact Nat.lt_of_lt_of_le hs_.2.1 (by omega)) (by first | exact Nat.lt_trans hs_.2.1 hn | exact hn_) (by first | exact hs_.1 | exact hxn_) (by first | exact hs_.2.2 | exact Int32.zero_add _)
  refine J_iconst (v := 0) 0 dX6_ones_0 rfl ?_
  refine J_istore_n (lv' := [some (.int x), some (.int 0), none]) 1 1 dX6_ones_1 rfl (by decide) rfl ?_
  refine J_iload_n 2 0 dX6_ones_2 rfl rfl ?_
  refine J_istore_n (lv' := [some (.int x), some (.int 0), some (.int x)]) 3 2 dX6_ones_3 rfl (by decide) rfl ?_
  exact cut_4_ (n_ + 1) 0 x n_ (Nat.lt_succ_self _) (by first | exact Nat.lt_trans hs_.2.1 hn | exact hn_) (by first | exact hs_.1 | exact hxn_) (by first | exact hs_.2.2 | exact Int32.zero_add _)
set_option maxRecDepth 100000 in
set_option maxHeartbeats 4000000 in
theorem c_X6_isOne (l : Launch) (G : Gd) (v : Int32) (o : Nat) (rw : Nat) (fr : Nat) (kp : Nat) (tr : Nat) (ik : Int32) (tp : Nat) (tm : Nat) (mso : Int32) (bg : Nat) (en : Nat) (wd : Int64) (va : Int32) (gd : Int32) (rs : Nat) (mu : Nat) (rm : Nat) (ss : Nat) (msz : Nat) (msh : Nat) (mho : Nat) (mhn : Nat) (mhz : Nat) (kd : Int32) (nb : Int32) (tn : Int32) (tc : Nat) (bo : Nat) (ip : Int32) (la : Nat → Int32) (ns : Nat) (sd : Nat) (to : Nat → Int32) (he : Nat → Int32) (sw : Nat → Int32) (nh : Nat) (ki : Nat → Int32) (te : Nat → Int32) (mi : Nat → Int32) (ar : Nat → Int32) (z : Int32)  : Ct l G yX6_isOne cX6_isOne 2 (some (FieldType.boolean)) 1 [.ref o, .int v] (wF [wMo o rw fr kp tr ik tp tm mso bg en wd va gd rs mu rm ss msz msh mho mhn mhz kd nb tn tc bo ip, wMr G rw la ns sd to he sw nh ki te mi ar z]) (some (.int (bI (0 ≤ v ∧ v ≤ nI nh - 1)))) (wF [wMo o rw fr kp tr ik tp tm mso bg en wd va gd rs mu rm ss msz msh mho mhn mhz kd nb tn tc bo ip, wMr G rw la ns sd to he sw nh ki te mi ar z]) := by
  refine Ct.of "GooseArmsModel" [some (.ref o), some (.int v)] (by decide +kernel) rfl (Nat.le_of_ble_eq_true rfl) rfl ?_
  refine J_iload_n 0 1 dX6_isOne_0 rfl rfl ?_
  refine J_iconst (v := 0) 1 dX6_isOne_1 rfl ?_
  refine J_aload_n 2 0 dX6_isOne_2 rfl rfl ?_
  refine g_789 (v := .ref rw) 3 0 rfl rfl dX6_isOne_3 ?_
  refine J_bipush (v := 6) 6 dX6_isOne_6 rfl ?_
  refine J_iald 8 1 6 rfl rfl (by omega) (by decide) dX6_isOne_8 ?_
  refine J_topi (y := nI nh) 9 (fR_nh rfl) ?_
  refine J_iconst (v := 1) 9 dX6_isOne_9 rfl ?_
  refine J_isub 10 dX6_isOne_10 ?_
  refine kb_RX6_57 (bs' := [wMo o rw fr kp tr ik tp tm mso bg en wd va gd rs mu rm ss msz msh mho mhn mhz kd nb tn tc bo ip, wMr G rw la ns sd to he sw nh ki te mi ar z]) (rest := []) (st' := [.int (bI (0 ≤ v ∧ v ≤ ((nI nh) - 1)))]) 11 (c_X6_in l G v 0 ((nI nh) - 1) ) [] rfl rfl [] rfl rfl rfl rfl rfl rfl (Nat.le_of_ble_eq_true rfl) rfl dX6_isOne_11 ?_
  exact J_zret 14 (bI_nar _) dX6_isOne_14 (congrArg (fun x_ => some (Value.int x_)) (bI_c (by grind))) rfl
set_option maxRecDepth 100000 in
set_option maxHeartbeats 4000000 in
theorem c_X6_isOne_t (l : Launch) (G : Gd) (j : Nat) (o : Nat) (rw : Nat) (fr : Nat) (kp : Nat) (tr : Nat) (ik : Int32) (tp : Nat) (tm : Nat) (mso : Int32) (bg : Nat) (en : Nat) (wd : Int64) (va : Int32) (gd : Int32) (rs : Nat) (mu : Nat) (rm : Nat) (ss : Nat) (msz : Nat) (msh : Nat) (mho : Nat) (mhn : Nat) (mhz : Nat) (kd : Int32) (nb : Int32) (tn : Int32) (tc : Nat) (bo : Nat) (ip : Int32) (la : Nat → Int32) (ns : Nat) (sd : Nat) (to : Nat → Int32) (he : Nat → Int32) (sw : Nat → Int32) (nh : Nat) (ki : Nat → Int32) (te : Nat → Int32) (mi : Nat → Int32) (ar : Nat → Int32) (z : Int32) (hj : j < nh) (hb : nh < 2147483648) : Ct l G yX6_isOne cX6_isOne 2 (some (FieldType.boolean)) 1 [.ref o, .int (nI j)] (wF [wMo o rw fr kp tr ik tp tm mso bg en wd va gd rs mu rm ss msz msh mho mhn mhz kd nb tn tc bo ip, wMr G rw la ns sd to he sw nh ki te mi ar z]) (some (.int 1)) (wF [wMo o rw fr kp tr ik tp tm mso bg en wd va gd rs mu rm ss msz msh mho mhn mhz kd nb tn tc bo ip, wMr G rw la ns sd to he sw nh ki te mi ar z]) := by
  refine Ct.of "GooseArmsModel" [some (.ref o), some (.int (nI j))] (by decide +kernel) rfl (Nat.le_of_ble_eq_true rfl) rfl ?_
  refine J_iload_n 0 1 dX6_isOne_0 rfl rfl ?_
  refine J_iconst (v := 0) 1 dX6_isOne_1 rfl ?_
  refine J_aload_n 2 0 dX6_isOne_2 rfl rfl ?_
  refine g_789 (v := .ref rw) 3 0 rfl rfl dX6_isOne_3 ?_
  refine J_bipush (v := 6) 6 dX6_isOne_6 rfl ?_
  refine J_iald 8 1 6 rfl rfl (by omega) (by decide) dX6_isOne_8 ?_
  refine J_topi (y := nI nh) 9 (fR_nh rfl) ?_
  refine J_iconst (v := 1) 9 dX6_isOne_9 rfl ?_
  refine J_isub 10 dX6_isOne_10 ?_
  refine kb_RX6_57 (bs' := [wMo o rw fr kp tr ik tp tm mso bg en wd va gd rs mu rm ss msz msh mho mhn mhz kd nb tn tc bo ip, wMr G rw la ns sd to he sw nh ki te mi ar z]) (rest := []) (st' := [.int (bI (0 ≤ (nI j) ∧ (nI j) ≤ ((nI nh) - 1)))]) 11 (c_X6_in l G (nI j) 0 ((nI nh) - 1) ) [] rfl rfl [] rfl rfl rfl rfl rfl rfl (Nat.le_of_ble_eq_true rfl) rfl dX6_isOne_11 ?_
  exact J_zret 14 (bI_nar _) dX6_isOne_14 (congrArg (fun x_ => some (Value.int x_)) (bI_t (inR_t hj hb))) rfl
set_option maxRecDepth 100000 in
set_option maxHeartbeats 4000000 in
theorem c_X6_isOne_f (l : Launch) (G : Gd) (v : Int32) (o : Nat) (rw : Nat) (fr : Nat) (kp : Nat) (tr : Nat) (ik : Int32) (tp : Nat) (tm : Nat) (mso : Int32) (bg : Nat) (en : Nat) (wd : Int64) (va : Int32) (gd : Int32) (rs : Nat) (mu : Nat) (rm : Nat) (ss : Nat) (msz : Nat) (msh : Nat) (mho : Nat) (mhn : Nat) (mhz : Nat) (kd : Int32) (nb : Int32) (tn : Int32) (tc : Nat) (bo : Nat) (ip : Int32) (la : Nat → Int32) (ns : Nat) (sd : Nat) (to : Nat → Int32) (he : Nat → Int32) (sw : Nat → Int32) (nh : Nat) (ki : Nat → Int32) (te : Nat → Int32) (mi : Nat → Int32) (ar : Nat → Int32) (z : Int32) (hw : ¬ (0 ≤ v ∧ v ≤ nI nh - 1)) : Ct l G yX6_isOne cX6_isOne 2 (some (FieldType.boolean)) 1 [.ref o, .int v] (wF [wMo o rw fr kp tr ik tp tm mso bg en wd va gd rs mu rm ss msz msh mho mhn mhz kd nb tn tc bo ip, wMr G rw la ns sd to he sw nh ki te mi ar z]) (some (.int 0)) (wF [wMo o rw fr kp tr ik tp tm mso bg en wd va gd rs mu rm ss msz msh mho mhn mhz kd nb tn tc bo ip, wMr G rw la ns sd to he sw nh ki te mi ar z]) := by
  refine Ct.of "GooseArmsModel" [some (.ref o), some (.int v)] (by decide +kernel) rfl (Nat.le_of_ble_eq_true rfl) rfl ?_
  refine J_iload_n 0 1 dX6_isOne_0 rfl rfl ?_
  refine J_iconst (v := 0) 1 dX6_isOne_1 rfl ?_
  refine J_aload_n 2 0 dX6_isOne_2 rfl rfl ?_
  refine g_789 (v := .ref rw) 3 0 rfl rfl dX6_isOne_3 ?_
  refine J_bipush (v := 6) 6 dX6_isOne_6 rfl ?_
  refine J_iald 8 1 6 rfl rfl (by omega) (by decide) dX6_isOne_8 ?_
  refine J_topi (y := nI nh) 9 (fR_nh rfl) ?_
  refine J_iconst (v := 1) 9 dX6_isOne_9 rfl ?_
  refine J_isub 10 dX6_isOne_10 ?_
  refine kb_RX6_57 (bs' := [wMo o rw fr kp tr ik tp tm mso bg en wd va gd rs mu rm ss msz msh mho mhn mhz kd nb tn tc bo ip, wMr G rw la ns sd to he sw nh ki te mi ar z]) (rest := []) (st' := [.int (bI (0 ≤ v ∧ v ≤ ((nI nh) - 1)))]) 11 (c_X6_in l G v 0 ((nI nh) - 1) ) [] rfl rfl [] rfl rfl rfl rfl rfl rfl (Nat.le_of_ble_eq_true rfl) rfl dX6_isOne_11 ?_
  exact J_zret 14 (bI_nar _) dX6_isOne_14 (congrArg (fun x_ => some (Value.int x_)) (bI_f hw)) rfl
set_option maxRecDepth 100000 in
set_option maxHeartbeats 4000000 in
theorem c_X6_isSaying (l : Launch) (G : Gd) (v : Int32) (o : Nat) (rw : Nat) (fr : Nat) (kp : Nat) (tr : Nat) (ik : Int32) (tp : Nat) (tm : Nat) (mso : Int32) (bg : Nat) (en : Nat) (wd : Int64) (va : Int32) (gd : Int32) (rs : Nat) (mu : Nat) (rm : Nat) (ss : Nat) (msz : Nat) (msh : Nat) (mho : Nat) (mhn : Nat) (mhz : Nat) (kd : Int32) (nb : Int32) (tn : Int32) (tc : Nat) (bo : Nat) (ip : Int32) (la : Nat → Int32) (ns : Nat) (sd : Nat) (to : Nat → Int32) (he : Nat → Int32) (sw : Nat → Int32) (nh : Nat) (ki : Nat → Int32) (te : Nat → Int32) (mi : Nat → Int32) (ar : Nat → Int32) (z : Int32)  : Ct l G yX6_isSaying cX6_isSaying 2 (some (FieldType.boolean)) 1 [.ref o, .int v] (wF [wMo o rw fr kp tr ik tp tm mso bg en wd va gd rs mu rm ss msz msh mho mhn mhz kd nb tn tc bo ip, wMr G rw la ns sd to he sw nh ki te mi ar z]) (some (.int (bI (0 ≤ v ∧ v ≤ nI ns - 1)))) (wF [wMo o rw fr kp tr ik tp tm mso bg en wd va gd rs mu rm ss msz msh mho mhn mhz kd nb tn tc bo ip, wMr G rw la ns sd to he sw nh ki te mi ar z]) := by
  refine Ct.of "GooseArmsModel" [some (.ref o), some (.int v)] (by decide +kernel) rfl (Nat.le_of_ble_eq_true rfl) rfl ?_
  refine J_iload_n 0 1 dX6_isSaying_0 rfl rfl ?_
  refine J_iconst (v := 0) 1 dX6_isSaying_1 rfl ?_
  refine J_aload_n 2 0 dX6_isSaying_2 rfl rfl ?_
  refine g_789 (v := .ref rw) 3 0 rfl rfl dX6_isSaying_3 ?_
  refine J_iconst (v := 5) 6 dX6_isSaying_6 rfl ?_
  refine J_iald 7 1 5 rfl rfl (by omega) (by decide) dX6_isSaying_7 ?_
  refine J_topi (y := nI ns) 8 (fR_ns rfl) ?_
  refine J_iconst (v := 1) 8 dX6_isSaying_8 rfl ?_
  refine J_isub 9 dX6_isSaying_9 ?_
  refine kb_RX6_57 (bs' := [wMo o rw fr kp tr ik tp tm mso bg en wd va gd rs mu rm ss msz msh mho mhn mhz kd nb tn tc bo ip, wMr G rw la ns sd to he sw nh ki te mi ar z]) (rest := []) (st' := [.int (bI (0 ≤ v ∧ v ≤ ((nI ns) - 1)))]) 10 (c_X6_in l G v 0 ((nI ns) - 1) ) [] rfl rfl [] rfl rfl rfl rfl rfl rfl (Nat.le_of_ble_eq_true rfl) rfl dX6_isSaying_10 ?_
  exact J_zret 13 (bI_nar _) dX6_isSaying_13 (congrArg (fun x_ => some (Value.int x_)) (bI_c (by grind))) rfl
set_option maxRecDepth 100000 in
set_option maxHeartbeats 4000000 in
theorem c_X6_isSaying_t (l : Launch) (G : Gd) (j : Nat) (o : Nat) (rw : Nat) (fr : Nat) (kp : Nat) (tr : Nat) (ik : Int32) (tp : Nat) (tm : Nat) (mso : Int32) (bg : Nat) (en : Nat) (wd : Int64) (va : Int32) (gd : Int32) (rs : Nat) (mu : Nat) (rm : Nat) (ss : Nat) (msz : Nat) (msh : Nat) (mho : Nat) (mhn : Nat) (mhz : Nat) (kd : Int32) (nb : Int32) (tn : Int32) (tc : Nat) (bo : Nat) (ip : Int32) (la : Nat → Int32) (ns : Nat) (sd : Nat) (to : Nat → Int32) (he : Nat → Int32) (sw : Nat → Int32) (nh : Nat) (ki : Nat → Int32) (te : Nat → Int32) (mi : Nat → Int32) (ar : Nat → Int32) (z : Int32) (hj : j < ns) (hb : ns < 2147483648) : Ct l G yX6_isSaying cX6_isSaying 2 (some (FieldType.boolean)) 1 [.ref o, .int (nI j)] (wF [wMo o rw fr kp tr ik tp tm mso bg en wd va gd rs mu rm ss msz msh mho mhn mhz kd nb tn tc bo ip, wMr G rw la ns sd to he sw nh ki te mi ar z]) (some (.int 1)) (wF [wMo o rw fr kp tr ik tp tm mso bg en wd va gd rs mu rm ss msz msh mho mhn mhz kd nb tn tc bo ip, wMr G rw la ns sd to he sw nh ki te mi ar z]) := by
  refine Ct.of "GooseArmsModel" [some (.ref o), some (.int (nI j))] (by decide +kernel) rfl (Nat.le_of_ble_eq_true rfl) rfl ?_
  refine J_iload_n 0 1 dX6_isSaying_0 rfl rfl ?_
  refine J_iconst (v := 0) 1 dX6_isSaying_1 rfl ?_
  refine J_aload_n 2 0 dX6_isSaying_2 rfl rfl ?_
  refine g_789 (v := .ref rw) 3 0 rfl rfl dX6_isSaying_3 ?_
  refine J_iconst (v := 5) 6 dX6_isSaying_6 rfl ?_
  refine J_iald 7 1 5 rfl rfl (by omega) (by decide) dX6_isSaying_7 ?_
  refine J_topi (y := nI ns) 8 (fR_ns rfl) ?_
  refine J_iconst (v := 1) 8 dX6_isSaying_8 rfl ?_
  refine J_isub 9 dX6_isSaying_9 ?_
  refine kb_RX6_57 (bs' := [wMo o rw fr kp tr ik tp tm mso bg en wd va gd rs mu rm ss msz msh mho mhn mhz kd nb tn tc bo ip, wMr G rw la ns sd to he sw nh ki te mi ar z]) (rest := []) (st' := [.int (bI (0 ≤ (nI j) ∧ (nI j) ≤ ((nI ns) - 1)))]) 10 (c_X6_in l G (nI j) 0 ((nI ns) - 1) ) [] rfl rfl [] rfl rfl rfl rfl rfl rfl (Nat.le_of_ble_eq_true rfl) rfl dX6_isSaying_10 ?_
  exact J_zret 13 (bI_nar _) dX6_isSaying_13 (congrArg (fun x_ => some (Value.int x_)) (bI_t (inR_t hj hb))) rfl
set_option maxRecDepth 100000 in
set_option maxHeartbeats 4000000 in
theorem c_X6_isSaying_f (l : Launch) (G : Gd) (v : Int32) (o : Nat) (rw : Nat) (fr : Nat) (kp : Nat) (tr : Nat) (ik : Int32) (tp : Nat) (tm : Nat) (mso : Int32) (bg : Nat) (en : Nat) (wd : Int64) (va : Int32) (gd : Int32) (rs : Nat) (mu : Nat) (rm : Nat) (ss : Nat) (msz : Nat) (msh : Nat) (mho : Nat) (mhn : Nat) (mhz : Nat) (kd : Int32) (nb : Int32) (tn : Int32) (tc : Nat) (bo : Nat) (ip : Int32) (la : Nat → Int32) (ns : Nat) (sd : Nat) (to : Nat → Int32) (he : Nat → Int32) (sw : Nat → Int32) (nh : Nat) (ki : Nat → Int32) (te : Nat → Int32) (mi : Nat → Int32) (ar : Nat → Int32) (z : Int32) (hw : ¬ (0 ≤ v ∧ v ≤ nI ns - 1)) : Ct l G yX6_isSaying cX6_isSaying 2 (some (FieldType.boolean)) 1 [.ref o, .int v] (wF [wMo o rw fr kp tr ik tp tm mso bg en wd va gd rs mu rm ss msz msh mho mhn mhz kd nb tn tc bo ip, wMr G rw la ns sd to he sw nh ki te mi ar z]) (some (.int 0)) (wF [wMo o rw fr kp tr ik tp tm mso bg en wd va gd rs mu rm ss msz msh mho mhn mhz kd nb tn tc bo ip, wMr G rw la ns sd to he sw nh ki te mi ar z]) := by
  refine Ct.of "GooseArmsModel" [some (.ref o), some (.int v)] (by decide +kernel) rfl (Nat.le_of_ble_eq_true rfl) rfl ?_
  refine J_iload_n 0 1 dX6_isSaying_0 rfl rfl ?_
  refine J_iconst (v := 0) 1 dX6_isSaying_1 rfl ?_
  refine J_aload_n 2 0 dX6_isSaying_2 rfl rfl ?_
  refine g_789 (v := .ref rw) 3 0 rfl rfl dX6_isSaying_3 ?_
  refine J_iconst (v := 5) 6 dX6_isSaying_6 rfl ?_
  refine J_iald 7 1 5 rfl rfl (by omega) (by decide) dX6_isSaying_7 ?_
  refine J_topi (y := nI ns) 8 (fR_ns rfl) ?_
  refine J_iconst (v := 1) 8 dX6_isSaying_8 rfl ?_
  refine J_isub 9 dX6_isSaying_9 ?_
  refine kb_RX6_57 (bs' := [wMo o rw fr kp tr ik tp tm mso bg en wd va gd rs mu rm ss msz msh mho mhn mhz kd nb tn tc bo ip, wMr G rw la ns sd to he sw nh ki te mi ar z]) (rest := []) (st' := [.int (bI (0 ≤ v ∧ v ≤ ((nI ns) - 1)))]) 10 (c_X6_in l G v 0 ((nI ns) - 1) ) [] rfl rfl [] rfl rfl rfl rfl rfl rfl (Nat.le_of_ble_eq_true rfl) rfl dX6_isSaying_10 ?_
  exact J_zret 13 (bI_nar _) dX6_isSaying_13 (congrArg (fun x_ => some (Value.int x_)) (bI_f hw)) rfl
set_option maxRecDepth 100000 in
set_option maxHeartbeats 4000000 in
theorem c_X6_its_0 (l : Launch) (G : Gd) (p : Nat) (o : Nat) (rw : Nat) (fr : Nat) (kp : Nat) (tr : Nat) (ik : Int32) (tp : Nat) (tm : Nat) (mso : Int32) (bg : Nat) (en : Nat) (wd : Int64) (va : Int32) (gd : Int32) (rs : Nat) (mu : Nat) (rm : Nat) (ss : Nat) (msz : Nat) (msh : Nat) (mho : Nat) (mhn : Nat) (mhz : Nat) (kd : Int32) (nb : Int32) (tn : Int32) (tc : Nat) (bo : Nat) (ip : Int32) (la : Nat → Int32) (ns : Nat) (sd : Nat) (to : Nat → Int32) (he : Nat → Int32) (sw : Nat → Int32) (nh : Nat) (ki : Nat → Int32) (te : Nat → Int32) (mi : Nat → Int32) (ar : Nat → Int32) (z : Int32) (hp : p < 8) : Ct l G yX6_its cX6_its 3 (some (FieldType.int)) 0 [.ref o, .int (nI p), .int 0] (wF [wMo o rw fr kp tr ik tp tm mso bg en wd va gd rs mu rm ss msz msh mho mhn mhz kd nb tn tc bo ip, wMr G rw la ns sd to he sw nh ki te mi ar z]) (some (.int (ki p))) (wF [wMo o rw fr kp tr ik tp tm mso bg en wd va gd rs mu rm ss msz msh mho mhn mhz kd nb tn tc bo ip, wMr G rw la ns sd to he sw nh ki te mi ar z]) := by
  refine Ct.of "GooseArmsModel" [some (.ref o), some (.int (nI p)), some (.int 0)] (by decide +kernel) rfl (Nat.le_of_ble_eq_true rfl) rfl ?_
  refine J_aload_n 0 0 dX6_its_0 rfl rfl ?_
  refine g_789 (v := .ref rw) 1 0 rfl rfl dX6_its_1 ?_
  refine J_bipush (v := 44) 4 dX6_its_4 rfl ?_
  refine J_iconst (v := 4) 6 dX6_its_6 rfl ?_
  refine J_iload_n 7 1 dX6_its_7 rfl rfl ?_
  refine J_imul 8 dX6_its_8 ?_
  refine J_topi (y := nI (4 * p)) 9 (pk_mul 4 p) ?_
  refine J_iadd 9 dX6_its_9 ?_
  refine J_topi (y := nI (44 + (4 * p))) 10 (nI_add 44 (4 * p)) ?_
  refine J_iload_n 10 2 dX6_its_10 rfl rfl ?_
  refine J_iadd 11 dX6_its_11 ?_
  refine J_topi (y := nI ((44 + (4 * p)) + 0)) 12 (nI_add (44 + (4 * p)) 0) ?_
  refine J_iald 12 1 ((44 + (4 * p)) + 0) rfl rfl (by omega) (by decide) dX6_its_12 ?_
  refine J_topi (y := ki p) 13 (fR_ki (i := p) (by first | rfl | omega)) ?_
  exact J_iret 13 dX6_its_13 rfl rfl
set_option maxRecDepth 100000 in
set_option maxHeartbeats 4000000 in
theorem c_X6_sets_0 (l : Launch) (G : Gd) (p : Nat) (v : Int32) (o : Nat) (rw : Nat) (fr : Nat) (kp : Nat) (tr : Nat) (ik : Int32) (tp : Nat) (tm : Nat) (mso : Int32) (bg : Nat) (en : Nat) (wd : Int64) (va : Int32) (gd : Int32) (rs : Nat) (mu : Nat) (rm : Nat) (ss : Nat) (msz : Nat) (msh : Nat) (mho : Nat) (mhn : Nat) (mhz : Nat) (kd : Int32) (nb : Int32) (tn : Int32) (tc : Nat) (bo : Nat) (ip : Int32) (la : Nat → Int32) (ns : Nat) (sd : Nat) (to : Nat → Int32) (he : Nat → Int32) (sw : Nat → Int32) (nh : Nat) (ki : Nat → Int32) (te : Nat → Int32) (mi : Nat → Int32) (ar : Nat → Int32) (z : Int32) (hp : p < 8) : Ct l G yX6_sets cX6_sets 4 none 0 [.ref o, .int (nI p), .int 0, .int v] (wF [wMo o rw fr kp tr ik tp tm mso bg en wd va gd rs mu rm ss msz msh mho mhn mhz kd nb tn tc bo ip, wMr G rw la ns sd to he sw nh ki te mi ar z]) none (wF [wMo o rw fr kp tr ik tp tm mso bg en wd va gd rs mu rm ss msz msh mho mhn mhz kd nb tn tc bo ip, wMr G rw la ns sd to he sw nh (upd ki p v) te mi ar z]) := by
  refine Ct.of "GooseArmsModel" [some (.ref o), some (.int (nI p)), some (.int 0), some (.int v)] (by decide +kernel) rfl (Nat.le_of_ble_eq_true rfl) rfl ?_
  refine J_aload_n 0 0 dX6_sets_0 rfl rfl ?_
  refine g_789 (v := .ref rw) 1 0 rfl rfl dX6_sets_1 ?_
  refine J_bipush (v := 44) 4 dX6_sets_4 rfl ?_
  refine J_iconst (v := 4) 6 dX6_sets_6 rfl ?_
  refine J_iload_n 7 1 dX6_sets_7 rfl rfl ?_
  refine J_imul 8 dX6_sets_8 ?_
  refine J_topi (y := nI (4 * p)) 9 (pk_mul 4 p) ?_
  refine J_iadd 9 dX6_sets_9 ?_
  refine J_topi (y := nI (44 + (4 * p))) 10 (nI_add 44 (4 * p)) ?_
  refine J_iload_n 10 2 dX6_sets_10 rfl rfl ?_
  refine J_iadd 11 dX6_sets_11 ?_
  refine J_topi (y := nI ((44 + (4 * p)) + 0)) 12 (nI_add (44 + (4 * p)) 0) ?_
  refine J_iload_n 12 3 dX6_sets_12 rfl rfl ?_
  refine J_iast (ws' := (wF [wMo o rw fr kp tr ik tp tm mso bg en wd va gd rs mu rm ss msz msh mho mhn mhz kd nb tn tc bo ip, wI G rw 76 (upd (fRow la ns sd to he sw nh ki te mi ar z) ((44 + (4 * p)) + 0) v)])) 13 1 ((44 + (4 * p)) + 0) rfl rfl (by omega) (by decide) rfl dX6_sets_13 ?_
  refine J_ws (ws' := (wF [wMo o rw fr kp tr ik tp tm mso bg en wd va gd rs mu rm ss msz msh mho mhn mhz kd nb tn tc bo ip, wMr G rw la ns sd to he sw nh (upd ki p v) te mi ar z])) 14 (congrArg (fun x_ => (wF [wMo o rw fr kp tr ik tp tm mso bg en wd va gd rs mu rm ss msz msh mho mhn mhz kd nb tn tc bo ip, wI G rw 76 x_])) (fU_ki (i := p) (by omega))) ?_
  exact J_vret 14 dX6_sets_14 rfl rfl
set_option maxRecDepth 100000 in
set_option maxHeartbeats 4000000 in
theorem c_X6_becomes_ki (l : Launch) (G : Gd) (i : Nat) (v : Int32) (o : Nat) (rw : Nat) (fr : Nat) (kp : Nat) (tr : Nat) (ik : Int32) (tp : Nat) (tm : Nat) (mso : Int32) (bg : Nat) (en : Nat) (wd : Int64) (va : Int32) (gd : Int32) (rs : Nat) (mu : Nat) (rm : Nat) (ss : Nat) (msz : Nat) (msh : Nat) (mho : Nat) (mhn : Nat) (mhz : Nat) (kd : Int32) (nb : Int32) (tn : Int32) (tc : Nat) (bo : Nat) (ip : Int32) (la : Nat → Int32) (ns : Nat) (sd : Nat) (to : Nat → Int32) (he : Nat → Int32) (sw : Nat → Int32) (nh : Nat) (ki : Nat → Int32) (te : Nat → Int32) (mi : Nat → Int32) (ar : Nat → Int32) (z : Int32) (hi : i < 8) : Ct l G yX6_becomes cX6_becomes 4 (some (FieldType.int)) 0 [.ref o, .int (nI (44 + (4 * i))), .int v] (wF [wMo o rw fr kp tr ik tp tm mso bg en wd va gd rs mu rm ss msz msh mho mhn mhz kd nb tn tc bo ip, wMr G rw la ns sd to he sw nh ki te mi ar z]) (some (.int (ki i))) (wF [wMo o rw fr kp tr ik tp tm mso bg en wd va gd rs mu rm ss msz msh mho mhn mhz kd nb tn tc bo ip, wMr G rw la ns sd to he sw nh (upd ki i v) te mi ar z]) := by
  refine Ct.of "GooseArmsModel" [some (.ref o), some (.int (nI (44 + (4 * i)))), some (.int v), none] (by decide +kernel) rfl (Nat.le_of_ble_eq_true rfl) rfl ?_
  refine J_aload_n 0 0 dX6_becomes_0 rfl rfl ?_
  refine g_789 (v := .ref rw) 1 0 rfl rfl dX6_becomes_1 ?_
  refine J_iload_n 4 1 dX6_becomes_4 rfl rfl ?_
  refine J_iald 5 1 (44 + (4 * i)) rfl rfl (by omega) (by decide) dX6_becomes_5 ?_
  refine J_topi (y := ki i) 6 (fR_ki (i := i) (by first | rfl | omega)) ?_
  refine J_istore_n (lv' := [some (.ref o), some (.int (nI (44 + (4 * i)))), some (.int v), some (.int (ki i))]) 6 3 dX6_becomes_6 rfl (by decide) rfl ?_
  refine J_aload_n 7 0 dX6_becomes_7 rfl rfl ?_
  refine g_789 (v := .ref rw) 8 0 rfl rfl dX6_becomes_8 ?_
  refine J_iload_n 11 1 dX6_becomes_11 rfl rfl ?_
  refine J_iload_n 12 2 dX6_becomes_12 rfl rfl ?_
  refine J_iast (ws' := (wF [wMo o rw fr kp tr ik tp tm mso bg en wd va gd rs mu rm ss msz msh mho mhn mhz kd nb tn tc bo ip, wI G rw 76 (upd (fRow la ns sd to he sw nh ki te mi ar z) (44 + (4 * i)) v)])) 13 1 (44 + (4 * i)) rfl rfl (by omega) (by decide) rfl dX6_becomes_13 ?_
  refine J_ws (ws' := (wF [wMo o rw fr kp tr ik tp tm mso bg en wd va gd rs mu rm ss msz msh mho mhn mhz kd nb tn tc bo ip, wMr G rw la ns sd to he sw nh (upd ki i v) te mi ar z])) 14 (congrArg (fun x_ => (wF [wMo o rw fr kp tr ik tp tm mso bg en wd va gd rs mu rm ss msz msh mho mhn mhz kd nb tn tc bo ip, wI G rw 76 x_])) (fU_ki (i := i) (by omega))) ?_
  refine J_iload_n 14 3 dX6_becomes_14 rfl rfl ?_
  exact J_iret 15 dX6_becomes_15 rfl rfl
set_option maxRecDepth 100000 in
set_option maxHeartbeats 4000000 in
theorem c_X6_its_1 (l : Launch) (G : Gd) (p : Nat) (o : Nat) (rw : Nat) (fr : Nat) (kp : Nat) (tr : Nat) (ik : Int32) (tp : Nat) (tm : Nat) (mso : Int32) (bg : Nat) (en : Nat) (wd : Int64) (va : Int32) (gd : Int32) (rs : Nat) (mu : Nat) (rm : Nat) (ss : Nat) (msz : Nat) (msh : Nat) (mho : Nat) (mhn : Nat) (mhz : Nat) (kd : Int32) (nb : Int32) (tn : Int32) (tc : Nat) (bo : Nat) (ip : Int32) (la : Nat → Int32) (ns : Nat) (sd : Nat) (to : Nat → Int32) (he : Nat → Int32) (sw : Nat → Int32) (nh : Nat) (ki : Nat → Int32) (te : Nat → Int32) (mi : Nat → Int32) (ar : Nat → Int32) (z : Int32) (hp : p < 8) : Ct l G yX6_its cX6_its 3 (some (FieldType.int)) 0 [.ref o, .int (nI p), .int 1] (wF [wMo o rw fr kp tr ik tp tm mso bg en wd va gd rs mu rm ss msz msh mho mhn mhz kd nb tn tc bo ip, wMr G rw la ns sd to he sw nh ki te mi ar z]) (some (.int (te p))) (wF [wMo o rw fr kp tr ik tp tm mso bg en wd va gd rs mu rm ss msz msh mho mhn mhz kd nb tn tc bo ip, wMr G rw la ns sd to he sw nh ki te mi ar z]) := by
  refine Ct.of "GooseArmsModel" [some (.ref o), some (.int (nI p)), some (.int 1)] (by decide +kernel) rfl (Nat.le_of_ble_eq_true rfl) rfl ?_
  refine J_aload_n 0 0 dX6_its_0 rfl rfl ?_
  refine g_789 (v := .ref rw) 1 0 rfl rfl dX6_its_1 ?_
  refine J_bipush (v := 44) 4 dX6_its_4 rfl ?_
  refine J_iconst (v := 4) 6 dX6_its_6 rfl ?_
  refine J_iload_n 7 1 dX6_its_7 rfl rfl ?_
  refine J_imul 8 dX6_its_8 ?_
  refine J_topi (y := nI (4 * p)) 9 (pk_mul 4 p) ?_
  refine J_iadd 9 dX6_its_9 ?_
  refine J_topi (y := nI (44 + (4 * p))) 10 (nI_add 44 (4 * p)) ?_
  refine J_iload_n 10 2 dX6_its_10 rfl rfl ?_
  refine J_iadd 11 dX6_its_11 ?_
  refine J_topi (y := nI ((44 + (4 * p)) + 1)) 12 (nI_add (44 + (4 * p)) 1) ?_
  refine J_iald 12 1 ((44 + (4 * p)) + 1) rfl rfl (by omega) (by decide) dX6_its_12 ?_
  refine J_topi (y := te p) 13 (fR_te (i := p) (by first | rfl | omega)) ?_
  exact J_iret 13 dX6_its_13 rfl rfl
set_option maxRecDepth 100000 in
set_option maxHeartbeats 4000000 in
theorem c_X6_sets_1 (l : Launch) (G : Gd) (p : Nat) (v : Int32) (o : Nat) (rw : Nat) (fr : Nat) (kp : Nat) (tr : Nat) (ik : Int32) (tp : Nat) (tm : Nat) (mso : Int32) (bg : Nat) (en : Nat) (wd : Int64) (va : Int32) (gd : Int32) (rs : Nat) (mu : Nat) (rm : Nat) (ss : Nat) (msz : Nat) (msh : Nat) (mho : Nat) (mhn : Nat) (mhz : Nat) (kd : Int32) (nb : Int32) (tn : Int32) (tc : Nat) (bo : Nat) (ip : Int32) (la : Nat → Int32) (ns : Nat) (sd : Nat) (to : Nat → Int32) (he : Nat → Int32) (sw : Nat → Int32) (nh : Nat) (ki : Nat → Int32) (te : Nat → Int32) (mi : Nat → Int32) (ar : Nat → Int32) (z : Int32) (hp : p < 8) : Ct l G yX6_sets cX6_sets 4 none 0 [.ref o, .int (nI p), .int 1, .int v] (wF [wMo o rw fr kp tr ik tp tm mso bg en wd va gd rs mu rm ss msz msh mho mhn mhz kd nb tn tc bo ip, wMr G rw la ns sd to he sw nh ki te mi ar z]) none (wF [wMo o rw fr kp tr ik tp tm mso bg en wd va gd rs mu rm ss msz msh mho mhn mhz kd nb tn tc bo ip, wMr G rw la ns sd to he sw nh ki (upd te p v) mi ar z]) := by
  refine Ct.of "GooseArmsModel" [some (.ref o), some (.int (nI p)), some (.int 1), some (.int v)] (by decide +kernel) rfl (Nat.le_of_ble_eq_true rfl) rfl ?_
  refine J_aload_n 0 0 dX6_sets_0 rfl rfl ?_
  refine g_789 (v := .ref rw) 1 0 rfl rfl dX6_sets_1 ?_
  refine J_bipush (v := 44) 4 dX6_sets_4 rfl ?_
  refine J_iconst (v := 4) 6 dX6_sets_6 rfl ?_
  refine J_iload_n 7 1 dX6_sets_7 rfl rfl ?_
  refine J_imul 8 dX6_sets_8 ?_
  refine J_topi (y := nI (4 * p)) 9 (pk_mul 4 p) ?_
  refine J_iadd 9 dX6_sets_9 ?_
  refine J_topi (y := nI (44 + (4 * p))) 10 (nI_add 44 (4 * p)) ?_
  refine J_iload_n 10 2 dX6_sets_10 rfl rfl ?_
  refine J_iadd 11 dX6_sets_11 ?_
  refine J_topi (y := nI ((44 + (4 * p)) + 1)) 12 (nI_add (44 + (4 * p)) 1) ?_
  refine J_iload_n 12 3 dX6_sets_12 rfl rfl ?_
  refine J_iast (ws' := (wF [wMo o rw fr kp tr ik tp tm mso bg en wd va gd rs mu rm ss msz msh mho mhn mhz kd nb tn tc bo ip, wI G rw 76 (upd (fRow la ns sd to he sw nh ki te mi ar z) ((44 + (4 * p)) + 1) v)])) 13 1 ((44 + (4 * p)) + 1) rfl rfl (by omega) (by decide) rfl dX6_sets_13 ?_
  refine J_ws (ws' := (wF [wMo o rw fr kp tr ik tp tm mso bg en wd va gd rs mu rm ss msz msh mho mhn mhz kd nb tn tc bo ip, wMr G rw la ns sd to he sw nh ki (upd te p v) mi ar z])) 14 (congrArg (fun x_ => (wF [wMo o rw fr kp tr ik tp tm mso bg en wd va gd rs mu rm ss msz msh mho mhn mhz kd nb tn tc bo ip, wI G rw 76 x_])) (fU_te (i := p) (by omega))) ?_
  exact J_vret 14 dX6_sets_14 rfl rfl
set_option maxRecDepth 100000 in
set_option maxHeartbeats 4000000 in
theorem c_X6_becomes_te (l : Launch) (G : Gd) (i : Nat) (v : Int32) (o : Nat) (rw : Nat) (fr : Nat) (kp : Nat) (tr : Nat) (ik : Int32) (tp : Nat) (tm : Nat) (mso : Int32) (bg : Nat) (en : Nat) (wd : Int64) (va : Int32) (gd : Int32) (rs : Nat) (mu : Nat) (rm : Nat) (ss : Nat) (msz : Nat) (msh : Nat) (mho : Nat) (mhn : Nat) (mhz : Nat) (kd : Int32) (nb : Int32) (tn : Int32) (tc : Nat) (bo : Nat) (ip : Int32) (la : Nat → Int32) (ns : Nat) (sd : Nat) (to : Nat → Int32) (he : Nat → Int32) (sw : Nat → Int32) (nh : Nat) (ki : Nat → Int32) (te : Nat → Int32) (mi : Nat → Int32) (ar : Nat → Int32) (z : Int32) (hi : i < 8) : Ct l G yX6_becomes cX6_becomes 4 (some (FieldType.int)) 0 [.ref o, .int (nI ((44 + (4 * i)) + 1)), .int v] (wF [wMo o rw fr kp tr ik tp tm mso bg en wd va gd rs mu rm ss msz msh mho mhn mhz kd nb tn tc bo ip, wMr G rw la ns sd to he sw nh ki te mi ar z]) (some (.int (te i))) (wF [wMo o rw fr kp tr ik tp tm mso bg en wd va gd rs mu rm ss msz msh mho mhn mhz kd nb tn tc bo ip, wMr G rw la ns sd to he sw nh ki (upd te i v) mi ar z]) := by
  refine Ct.of "GooseArmsModel" [some (.ref o), some (.int (nI ((44 + (4 * i)) + 1))), some (.int v), none] (by decide +kernel) rfl (Nat.le_of_ble_eq_true rfl) rfl ?_
  refine J_aload_n 0 0 dX6_becomes_0 rfl rfl ?_
  refine g_789 (v := .ref rw) 1 0 rfl rfl dX6_becomes_1 ?_
  refine J_iload_n 4 1 dX6_becomes_4 rfl rfl ?_
  refine J_iald 5 1 ((44 + (4 * i)) + 1) rfl rfl (by omega) (by decide) dX6_becomes_5 ?_
  refine J_topi (y := te i) 6 (fR_te (i := i) (by first | rfl | omega)) ?_
  refine J_istore_n (lv' := [some (.ref o), some (.int (nI ((44 + (4 * i)) + 1))), some (.int v), some (.int (te i))]) 6 3 dX6_becomes_6 rfl (by decide) rfl ?_
  refine J_aload_n 7 0 dX6_becomes_7 rfl rfl ?_
  refine g_789 (v := .ref rw) 8 0 rfl rfl dX6_becomes_8 ?_
  refine J_iload_n 11 1 dX6_becomes_11 rfl rfl ?_
  refine J_iload_n 12 2 dX6_becomes_12 rfl rfl ?_
  refine J_iast (ws' := (wF [wMo o rw fr kp tr ik tp tm mso bg en wd va gd rs mu rm ss msz msh mho mhn mhz kd nb tn tc bo ip, wI G rw 76 (upd (fRow la ns sd to he sw nh ki te mi ar z) ((44 + (4 * i)) + 1) v)])) 13 1 ((44 + (4 * i)) + 1) rfl rfl (by omega) (by decide) rfl dX6_becomes_13 ?_
  refine J_ws (ws' := (wF [wMo o rw fr kp tr ik tp tm mso bg en wd va gd rs mu rm ss msz msh mho mhn mhz kd nb tn tc bo ip, wMr G rw la ns sd to he sw nh ki (upd te i v) mi ar z])) 14 (congrArg (fun x_ => (wF [wMo o rw fr kp tr ik tp tm mso bg en wd va gd rs mu rm ss msz msh mho mhn mhz kd nb tn tc bo ip, wI G rw 76 x_])) (fU_te (i := i) (by omega))) ?_
  refine J_iload_n 14 3 dX6_becomes_14 rfl rfl ?_
  exact J_iret 15 dX6_becomes_15 rfl rfl
set_option maxRecDepth 100000 in
set_option maxHeartbeats 4000000 in
theorem c_X6_its_2 (l : Launch) (G : Gd) (p : Nat) (o : Nat) (rw : Nat) (fr : Nat) (kp : Nat) (tr : Nat) (ik : Int32) (tp : Nat) (tm : Nat) (mso : Int32) (bg : Nat) (en : Nat) (wd : Int64) (va : Int32) (gd : Int32) (rs : Nat) (mu : Nat) (rm : Nat) (ss : Nat) (msz : Nat) (msh : Nat) (mho : Nat) (mhn : Nat) (mhz : Nat) (kd : Int32) (nb : Int32) (tn : Int32) (tc : Nat) (bo : Nat) (ip : Int32) (la : Nat → Int32) (ns : Nat) (sd : Nat) (to : Nat → Int32) (he : Nat → Int32) (sw : Nat → Int32) (nh : Nat) (ki : Nat → Int32) (te : Nat → Int32) (mi : Nat → Int32) (ar : Nat → Int32) (z : Int32) (hp : p < 8) : Ct l G yX6_its cX6_its 3 (some (FieldType.int)) 0 [.ref o, .int (nI p), .int 2] (wF [wMo o rw fr kp tr ik tp tm mso bg en wd va gd rs mu rm ss msz msh mho mhn mhz kd nb tn tc bo ip, wMr G rw la ns sd to he sw nh ki te mi ar z]) (some (.int (mi p))) (wF [wMo o rw fr kp tr ik tp tm mso bg en wd va gd rs mu rm ss msz msh mho mhn mhz kd nb tn tc bo ip, wMr G rw la ns sd to he sw nh ki te mi ar z]) := by
  refine Ct.of "GooseArmsModel" [some (.ref o), some (.int (nI p)), some (.int 2)] (by decide +kernel) rfl (Nat.le_of_ble_eq_true rfl) rfl ?_
  refine J_aload_n 0 0 dX6_its_0 rfl rfl ?_
  refine g_789 (v := .ref rw) 1 0 rfl rfl dX6_its_1 ?_
  refine J_bipush (v := 44) 4 dX6_its_4 rfl ?_
  refine J_iconst (v := 4) 6 dX6_its_6 rfl ?_
  refine J_iload_n 7 1 dX6_its_7 rfl rfl ?_
  refine J_imul 8 dX6_its_8 ?_
  refine J_topi (y := nI (4 * p)) 9 (pk_mul 4 p) ?_
  refine J_iadd 9 dX6_its_9 ?_
  refine J_topi (y := nI (44 + (4 * p))) 10 (nI_add 44 (4 * p)) ?_
  refine J_iload_n 10 2 dX6_its_10 rfl rfl ?_
  refine J_iadd 11 dX6_its_11 ?_
  refine J_topi (y := nI ((44 + (4 * p)) + 2)) 12 (nI_add (44 + (4 * p)) 2) ?_
  refine J_iald 12 1 ((44 + (4 * p)) + 2) rfl rfl (by omega) (by decide) dX6_its_12 ?_
  refine J_topi (y := mi p) 13 (fR_mi (i := p) (by first | rfl | omega)) ?_
  exact J_iret 13 dX6_its_13 rfl rfl
set_option maxRecDepth 100000 in
set_option maxHeartbeats 4000000 in
theorem c_X6_sets_2 (l : Launch) (G : Gd) (p : Nat) (v : Int32) (o : Nat) (rw : Nat) (fr : Nat) (kp : Nat) (tr : Nat) (ik : Int32) (tp : Nat) (tm : Nat) (mso : Int32) (bg : Nat) (en : Nat) (wd : Int64) (va : Int32) (gd : Int32) (rs : Nat) (mu : Nat) (rm : Nat) (ss : Nat) (msz : Nat) (msh : Nat) (mho : Nat) (mhn : Nat) (mhz : Nat) (kd : Int32) (nb : Int32) (tn : Int32) (tc : Nat) (bo : Nat) (ip : Int32) (la : Nat → Int32) (ns : Nat) (sd : Nat) (to : Nat → Int32) (he : Nat → Int32) (sw : Nat → Int32) (nh : Nat) (ki : Nat → Int32) (te : Nat → Int32) (mi : Nat → Int32) (ar : Nat → Int32) (z : Int32) (hp : p < 8) : Ct l G yX6_sets cX6_sets 4 none 0 [.ref o, .int (nI p), .int 2, .int v] (wF [wMo o rw fr kp tr ik tp tm mso bg en wd va gd rs mu rm ss msz msh mho mhn mhz kd nb tn tc bo ip, wMr G rw la ns sd to he sw nh ki te mi ar z]) none (wF [wMo o rw fr kp tr ik tp tm mso bg en wd va gd rs mu rm ss msz msh mho mhn mhz kd nb tn tc bo ip, wMr G rw la ns sd to he sw nh ki te (upd mi p v) ar z]) := by
  refine Ct.of "GooseArmsModel" [some (.ref o), some (.int (nI p)), some (.int 2), some (.int v)] (by decide +kernel) rfl (Nat.le_of_ble_eq_true rfl) rfl ?_
  refine J_aload_n 0 0 dX6_sets_0 rfl rfl ?_
  refine g_789 (v := .ref rw) 1 0 rfl rfl dX6_sets_1 ?_
  refine J_bipush (v := 44) 4 dX6_sets_4 rfl ?_
  refine J_iconst (v := 4) 6 dX6_sets_6 rfl ?_
  refine J_iload_n 7 1 dX6_sets_7 rfl rfl ?_
  refine J_imul 8 dX6_sets_8 ?_
  refine J_topi (y := nI (4 * p)) 9 (pk_mul 4 p) ?_
  refine J_iadd 9 dX6_sets_9 ?_
  refine J_topi (y := nI (44 + (4 * p))) 10 (nI_add 44 (4 * p)) ?_
  refine J_iload_n 10 2 dX6_sets_10 rfl rfl ?_
  refine J_iadd 11 dX6_sets_11 ?_
  refine J_topi (y := nI ((44 + (4 * p)) + 2)) 12 (nI_add (44 + (4 * p)) 2) ?_
  refine J_iload_n 12 3 dX6_sets_12 rfl rfl ?_
  refine J_iast (ws' := (wF [wMo o rw fr kp tr ik tp tm mso bg en wd va gd rs mu rm ss msz msh mho mhn mhz kd nb tn tc bo ip, wI G rw 76 (upd (fRow la ns sd to he sw nh ki te mi ar z) ((44 + (4 * p)) + 2) v)])) 13 1 ((44 + (4 * p)) + 2) rfl rfl (by omega) (by decide) rfl dX6_sets_13 ?_
  refine J_ws (ws' := (wF [wMo o rw fr kp tr ik tp tm mso bg en wd va gd rs mu rm ss msz msh mho mhn mhz kd nb tn tc bo ip, wMr G rw la ns sd to he sw nh ki te (upd mi p v) ar z])) 14 (congrArg (fun x_ => (wF [wMo o rw fr kp tr ik tp tm mso bg en wd va gd rs mu rm ss msz msh mho mhn mhz kd nb tn tc bo ip, wI G rw 76 x_])) (fU_mi (i := p) (by omega))) ?_
  exact J_vret 14 dX6_sets_14 rfl rfl
set_option maxRecDepth 100000 in
set_option maxHeartbeats 4000000 in
theorem c_X6_its_3 (l : Launch) (G : Gd) (p : Nat) (o : Nat) (rw : Nat) (fr : Nat) (kp : Nat) (tr : Nat) (ik : Int32) (tp : Nat) (tm : Nat) (mso : Int32) (bg : Nat) (en : Nat) (wd : Int64) (va : Int32) (gd : Int32) (rs : Nat) (mu : Nat) (rm : Nat) (ss : Nat) (msz : Nat) (msh : Nat) (mho : Nat) (mhn : Nat) (mhz : Nat) (kd : Int32) (nb : Int32) (tn : Int32) (tc : Nat) (bo : Nat) (ip : Int32) (la : Nat → Int32) (ns : Nat) (sd : Nat) (to : Nat → Int32) (he : Nat → Int32) (sw : Nat → Int32) (nh : Nat) (ki : Nat → Int32) (te : Nat → Int32) (mi : Nat → Int32) (ar : Nat → Int32) (z : Int32) (hp : p < 8) : Ct l G yX6_its cX6_its 3 (some (FieldType.int)) 0 [.ref o, .int (nI p), .int 3] (wF [wMo o rw fr kp tr ik tp tm mso bg en wd va gd rs mu rm ss msz msh mho mhn mhz kd nb tn tc bo ip, wMr G rw la ns sd to he sw nh ki te mi ar z]) (some (.int (ar p))) (wF [wMo o rw fr kp tr ik tp tm mso bg en wd va gd rs mu rm ss msz msh mho mhn mhz kd nb tn tc bo ip, wMr G rw la ns sd to he sw nh ki te mi ar z]) := by
  refine Ct.of "GooseArmsModel" [some (.ref o), some (.int (nI p)), some (.int 3)] (by decide +kernel) rfl (Nat.le_of_ble_eq_true rfl) rfl ?_
  refine J_aload_n 0 0 dX6_its_0 rfl rfl ?_
  refine g_789 (v := .ref rw) 1 0 rfl rfl dX6_its_1 ?_
  refine J_bipush (v := 44) 4 dX6_its_4 rfl ?_
  refine J_iconst (v := 4) 6 dX6_its_6 rfl ?_
  refine J_iload_n 7 1 dX6_its_7 rfl rfl ?_
  refine J_imul 8 dX6_its_8 ?_
  refine J_topi (y := nI (4 * p)) 9 (pk_mul 4 p) ?_
  refine J_iadd 9 dX6_its_9 ?_
  refine J_topi (y := nI (44 + (4 * p))) 10 (nI_add 44 (4 * p)) ?_
  refine J_iload_n 10 2 dX6_its_10 rfl rfl ?_
  refine J_iadd 11 dX6_its_11 ?_
  refine J_topi (y := nI ((44 + (4 * p)) + 3)) 12 (nI_add (44 + (4 * p)) 3) ?_
  refine J_iald 12 1 ((44 + (4 * p)) + 3) rfl rfl (by omega) (by decide) dX6_its_12 ?_
  refine J_topi (y := ar p) 13 (fR_ar (i := p) (by first | rfl | omega)) ?_
  exact J_iret 13 dX6_its_13 rfl rfl
set_option maxRecDepth 100000 in
set_option maxHeartbeats 4000000 in
theorem c_X6_sets_3 (l : Launch) (G : Gd) (p : Nat) (v : Int32) (o : Nat) (rw : Nat) (fr : Nat) (kp : Nat) (tr : Nat) (ik : Int32) (tp : Nat) (tm : Nat) (mso : Int32) (bg : Nat) (en : Nat) (wd : Int64) (va : Int32) (gd : Int32) (rs : Nat) (mu : Nat) (rm : Nat) (ss : Nat) (msz : Nat) (msh : Nat) (mho : Nat) (mhn : Nat) (mhz : Nat) (kd : Int32) (nb : Int32) (tn : Int32) (tc : Nat) (bo : Nat) (ip : Int32) (la : Nat → Int32) (ns : Nat) (sd : Nat) (to : Nat → Int32) (he : Nat → Int32) (sw : Nat → Int32) (nh : Nat) (ki : Nat → Int32) (te : Nat → Int32) (mi : Nat → Int32) (ar : Nat → Int32) (z : Int32) (hp : p < 8) : Ct l G yX6_sets cX6_sets 4 none 0 [.ref o, .int (nI p), .int 3, .int v] (wF [wMo o rw fr kp tr ik tp tm mso bg en wd va gd rs mu rm ss msz msh mho mhn mhz kd nb tn tc bo ip, wMr G rw la ns sd to he sw nh ki te mi ar z]) none (wF [wMo o rw fr kp tr ik tp tm mso bg en wd va gd rs mu rm ss msz msh mho mhn mhz kd nb tn tc bo ip, wMr G rw la ns sd to he sw nh ki te mi (upd ar p v) z]) := by
  refine Ct.of "GooseArmsModel" [some (.ref o), some (.int (nI p)), some (.int 3), some (.int v)] (by decide +kernel) rfl (Nat.le_of_ble_eq_true rfl) rfl ?_
  refine J_aload_n 0 0 dX6_sets_0 rfl rfl ?_
  refine g_789 (v := .ref rw) 1 0 rfl rfl dX6_sets_1 ?_
  refine J_bipush (v := 44) 4 dX6_sets_4 rfl ?_
  refine J_iconst (v := 4) 6 dX6_sets_6 rfl ?_
  refine J_iload_n 7 1 dX6_sets_7 rfl rfl ?_
  refine J_imul 8 dX6_sets_8 ?_
  refine J_topi (y := nI (4 * p)) 9 (pk_mul 4 p) ?_
  refine J_iadd 9 dX6_sets_9 ?_
  refine J_topi (y := nI (44 + (4 * p))) 10 (nI_add 44 (4 * p)) ?_
  refine J_iload_n 10 2 dX6_sets_10 rfl rfl ?_
  refine J_iadd 11 dX6_sets_11 ?_
  refine J_topi (y := nI ((44 + (4 * p)) + 3)) 12 (nI_add (44 + (4 * p)) 3) ?_
  refine J_iload_n 12 3 dX6_sets_12 rfl rfl ?_
  refine J_iast (ws' := (wF [wMo o rw fr kp tr ik tp tm mso bg en wd va gd rs mu rm ss msz msh mho mhn mhz kd nb tn tc bo ip, wI G rw 76 (upd (fRow la ns sd to he sw nh ki te mi ar z) ((44 + (4 * p)) + 3) v)])) 13 1 ((44 + (4 * p)) + 3) rfl rfl (by omega) (by decide) rfl dX6_sets_13 ?_
  refine J_ws (ws' := (wF [wMo o rw fr kp tr ik tp tm mso bg en wd va gd rs mu rm ss msz msh mho mhn mhz kd nb tn tc bo ip, wMr G rw la ns sd to he sw nh ki te mi (upd ar p v) z])) 14 (congrArg (fun x_ => (wF [wMo o rw fr kp tr ik tp tm mso bg en wd va gd rs mu rm ss msz msh mho mhn mhz kd nb tn tc bo ip, wI G rw 76 x_])) (fU_ar (i := p) (by omega))) ?_
  exact J_vret 14 dX6_sets_14 rfl rfl
set_option maxRecDepth 100000 in
set_option maxHeartbeats 4000000 in
theorem c_X6_words_0 (l : Launch) (G : Gd) (i : Nat) (o : Nat) (rw : Nat) (fr : Nat) (kp : Nat) (tr : Nat) (ik : Int32) (tp : Nat) (tm : Nat) (mso : Int32) (bg : Nat) (en : Nat) (wd : Int64) (va : Int32) (gd : Int32) (rs : Nat) (mu : Nat) (rm : Nat) (ss : Nat) (msz : Nat) (msh : Nat) (mho : Nat) (mhn : Nat) (mhz : Nat) (kd : Int32) (nb : Int32) (tn : Int32) (tc : Nat) (bo : Nat) (ip : Int32) (la : Nat → Int32) (ns : Nat) (sd : Nat) (to : Nat → Int32) (he : Nat → Int32) (sw : Nat → Int32) (nh : Nat) (ki : Nat → Int32) (te : Nat → Int32) (mi : Nat → Int32) (ar : Nat → Int32) (z : Int32) (hi : i < 12) : Ct l G yX6_words cX6_words 3 (some (FieldType.int)) 0 [.ref o, .int (nI i), .int 0] (wF [wMo o rw fr kp tr ik tp tm mso bg en wd va gd rs mu rm ss msz msh mho mhn mhz kd nb tn tc bo ip, wMr G rw la ns sd to he sw nh ki te mi ar z]) (some (.int (to i))) (wF [wMo o rw fr kp tr ik tp tm mso bg en wd va gd rs mu rm ss msz msh mho mhn mhz kd nb tn tc bo ip, wMr G rw la ns sd to he sw nh ki te mi ar z]) := by
  refine Ct.of "GooseArmsModel" [some (.ref o), some (.int (nI i)), some (.int 0)] (by decide +kernel) rfl (Nat.le_of_ble_eq_true rfl) rfl ?_
  refine J_aload_n 0 0 dX6_words_0 rfl rfl ?_
  refine g_789 (v := .ref rw) 1 0 rfl rfl dX6_words_1 ?_
  refine J_bipush (v := 8) 4 dX6_words_4 rfl ?_
  refine J_iconst (v := 3) 6 dX6_words_6 rfl ?_
  refine J_iload_n 7 1 dX6_words_7 rfl rfl ?_
  refine J_imul 8 dX6_words_8 ?_
  refine J_topi (y := nI (3 * i)) 9 (pk_mul 3 i) ?_
  refine J_iadd 9 dX6_words_9 ?_
  refine J_topi (y := nI (8 + (3 * i))) 10 (nI_add 8 (3 * i)) ?_
  refine J_iload_n 10 2 dX6_words_10 rfl rfl ?_
  refine J_iadd 11 dX6_words_11 ?_
  refine J_topi (y := nI ((8 + (3 * i)) + 0)) 12 (nI_add (8 + (3 * i)) 0) ?_
  refine J_iald 12 1 ((8 + (3 * i)) + 0) rfl rfl (by omega) (by decide) dX6_words_12 ?_
  refine J_topi (y := to i) 13 (fR_to (i := i) (by first | rfl | omega) (by omega)) ?_
  exact J_iret 13 dX6_words_13 rfl rfl
set_option maxRecDepth 100000 in
set_option maxHeartbeats 4000000 in
theorem c_X6_becomes_to (l : Launch) (G : Gd) (i : Nat) (v : Int32) (o : Nat) (rw : Nat) (fr : Nat) (kp : Nat) (tr : Nat) (ik : Int32) (tp : Nat) (tm : Nat) (mso : Int32) (bg : Nat) (en : Nat) (wd : Int64) (va : Int32) (gd : Int32) (rs : Nat) (mu : Nat) (rm : Nat) (ss : Nat) (msz : Nat) (msh : Nat) (mho : Nat) (mhn : Nat) (mhz : Nat) (kd : Int32) (nb : Int32) (tn : Int32) (tc : Nat) (bo : Nat) (ip : Int32) (la : Nat → Int32) (ns : Nat) (sd : Nat) (to : Nat → Int32) (he : Nat → Int32) (sw : Nat → Int32) (nh : Nat) (ki : Nat → Int32) (te : Nat → Int32) (mi : Nat → Int32) (ar : Nat → Int32) (z : Int32) (hi : i < 12) : Ct l G yX6_becomes cX6_becomes 4 (some (FieldType.int)) 0 [.ref o, .int (nI ((8 + (3 * i)) + 0)), .int v] (wF [wMo o rw fr kp tr ik tp tm mso bg en wd va gd rs mu rm ss msz msh mho mhn mhz kd nb tn tc bo ip, wMr G rw la ns sd to he sw nh ki te mi ar z]) (some (.int (to i))) (wF [wMo o rw fr kp tr ik tp tm mso bg en wd va gd rs mu rm ss msz msh mho mhn mhz kd nb tn tc bo ip, wMr G rw la ns sd (upd to i v) he sw nh ki te mi ar z]) := by
  refine Ct.of "GooseArmsModel" [some (.ref o), some (.int (nI ((8 + (3 * i)) + 0))), some (.int v), none] (by decide +kernel) rfl (Nat.le_of_ble_eq_true rfl) rfl ?_
  refine J_aload_n 0 0 dX6_becomes_0 rfl rfl ?_
  refine g_789 (v := .ref rw) 1 0 rfl rfl dX6_becomes_1 ?_
  refine J_iload_n 4 1 dX6_becomes_4 rfl rfl ?_
  refine J_iald 5 1 ((8 + (3 * i)) + 0) rfl rfl (by omega) (by decide) dX6_becomes_5 ?_
  refine J_topi (y := to i) 6 (fR_to (i := i) (by first | rfl | omega) (by omega)) ?_
  refine J_istore_n (lv' := [some (.ref o), some (.int (nI ((8 + (3 * i)) + 0))), some (.int v), some (.int (to i))]) 6 3 dX6_becomes_6 rfl (by decide) rfl ?_
  refine J_aload_n 7 0 dX6_becomes_7 rfl rfl ?_
  refine g_789 (v := .ref rw) 8 0 rfl rfl dX6_becomes_8 ?_
  refine J_iload_n 11 1 dX6_becomes_11 rfl rfl ?_
  refine J_iload_n 12 2 dX6_becomes_12 rfl rfl ?_
  refine J_iast (ws' := (wF [wMo o rw fr kp tr ik tp tm mso bg en wd va gd rs mu rm ss msz msh mho mhn mhz kd nb tn tc bo ip, wI G rw 76 (upd (fRow la ns sd to he sw nh ki te mi ar z) ((8 + (3 * i)) + 0) v)])) 13 1 ((8 + (3 * i)) + 0) rfl rfl (by omega) (by decide) rfl dX6_becomes_13 ?_
  refine J_ws (ws' := (wF [wMo o rw fr kp tr ik tp tm mso bg en wd va gd rs mu rm ss msz msh mho mhn mhz kd nb tn tc bo ip, wMr G rw la ns sd (upd to i v) he sw nh ki te mi ar z])) 14 (congrArg (fun x_ => (wF [wMo o rw fr kp tr ik tp tm mso bg en wd va gd rs mu rm ss msz msh mho mhn mhz kd nb tn tc bo ip, wI G rw 76 x_])) (fU_to (i := i) (by omega) (by omega))) ?_
  refine J_iload_n 14 3 dX6_becomes_14 rfl rfl ?_
  exact J_iret 15 dX6_becomes_15 rfl rfl
set_option maxRecDepth 100000 in
set_option maxHeartbeats 4000000 in
theorem c_X6_words_1 (l : Launch) (G : Gd) (i : Nat) (o : Nat) (rw : Nat) (fr : Nat) (kp : Nat) (tr : Nat) (ik : Int32) (tp : Nat) (tm : Nat) (mso : Int32) (bg : Nat) (en : Nat) (wd : Int64) (va : Int32) (gd : Int32) (rs : Nat) (mu : Nat) (rm : Nat) (ss : Nat) (msz : Nat) (msh : Nat) (mho : Nat) (mhn : Nat) (mhz : Nat) (kd : Int32) (nb : Int32) (tn : Int32) (tc : Nat) (bo : Nat) (ip : Int32) (la : Nat → Int32) (ns : Nat) (sd : Nat) (to : Nat → Int32) (he : Nat → Int32) (sw : Nat → Int32) (nh : Nat) (ki : Nat → Int32) (te : Nat → Int32) (mi : Nat → Int32) (ar : Nat → Int32) (z : Int32) (hi : i < 12) : Ct l G yX6_words cX6_words 3 (some (FieldType.int)) 0 [.ref o, .int (nI i), .int 1] (wF [wMo o rw fr kp tr ik tp tm mso bg en wd va gd rs mu rm ss msz msh mho mhn mhz kd nb tn tc bo ip, wMr G rw la ns sd to he sw nh ki te mi ar z]) (some (.int (he i))) (wF [wMo o rw fr kp tr ik tp tm mso bg en wd va gd rs mu rm ss msz msh mho mhn mhz kd nb tn tc bo ip, wMr G rw la ns sd to he sw nh ki te mi ar z]) := by
  refine Ct.of "GooseArmsModel" [some (.ref o), some (.int (nI i)), some (.int 1)] (by decide +kernel) rfl (Nat.le_of_ble_eq_true rfl) rfl ?_
  refine J_aload_n 0 0 dX6_words_0 rfl rfl ?_
  refine g_789 (v := .ref rw) 1 0 rfl rfl dX6_words_1 ?_
  refine J_bipush (v := 8) 4 dX6_words_4 rfl ?_
  refine J_iconst (v := 3) 6 dX6_words_6 rfl ?_
  refine J_iload_n 7 1 dX6_words_7 rfl rfl ?_
  refine J_imul 8 dX6_words_8 ?_
  refine J_topi (y := nI (3 * i)) 9 (pk_mul 3 i) ?_
  refine J_iadd 9 dX6_words_9 ?_
  refine J_topi (y := nI (8 + (3 * i))) 10 (nI_add 8 (3 * i)) ?_
  refine J_iload_n 10 2 dX6_words_10 rfl rfl ?_
  refine J_iadd 11 dX6_words_11 ?_
  refine J_topi (y := nI ((8 + (3 * i)) + 1)) 12 (nI_add (8 + (3 * i)) 1) ?_
  refine J_iald 12 1 ((8 + (3 * i)) + 1) rfl rfl (by omega) (by decide) dX6_words_12 ?_
  refine J_topi (y := he i) 13 (fR_he (i := i) (by first | rfl | omega) (by omega)) ?_
  exact J_iret 13 dX6_words_13 rfl rfl
set_option maxRecDepth 100000 in
set_option maxHeartbeats 4000000 in
theorem c_X6_becomes_he (l : Launch) (G : Gd) (i : Nat) (v : Int32) (o : Nat) (rw : Nat) (fr : Nat) (kp : Nat) (tr : Nat) (ik : Int32) (tp : Nat) (tm : Nat) (mso : Int32) (bg : Nat) (en : Nat) (wd : Int64) (va : Int32) (gd : Int32) (rs : Nat) (mu : Nat) (rm : Nat) (ss : Nat) (msz : Nat) (msh : Nat) (mho : Nat) (mhn : Nat) (mhz : Nat) (kd : Int32) (nb : Int32) (tn : Int32) (tc : Nat) (bo : Nat) (ip : Int32) (la : Nat → Int32) (ns : Nat) (sd : Nat) (to : Nat → Int32) (he : Nat → Int32) (sw : Nat → Int32) (nh : Nat) (ki : Nat → Int32) (te : Nat → Int32) (mi : Nat → Int32) (ar : Nat → Int32) (z : Int32) (hi : i < 12) : Ct l G yX6_becomes cX6_becomes 4 (some (FieldType.int)) 0 [.ref o, .int (nI ((8 + (3 * i)) + 1)), .int v] (wF [wMo o rw fr kp tr ik tp tm mso bg en wd va gd rs mu rm ss msz msh mho mhn mhz kd nb tn tc bo ip, wMr G rw la ns sd to he sw nh ki te mi ar z]) (some (.int (he i))) (wF [wMo o rw fr kp tr ik tp tm mso bg en wd va gd rs mu rm ss msz msh mho mhn mhz kd nb tn tc bo ip, wMr G rw la ns sd to (upd he i v) sw nh ki te mi ar z]) := by
  refine Ct.of "GooseArmsModel" [some (.ref o), some (.int (nI ((8 + (3 * i)) + 1))), some (.int v), none] (by decide +kernel) rfl (Nat.le_of_ble_eq_true rfl) rfl ?_
  refine J_aload_n 0 0 dX6_becomes_0 rfl rfl ?_
  refine g_789 (v := .ref rw) 1 0 rfl rfl dX6_becomes_1 ?_
  refine J_iload_n 4 1 dX6_becomes_4 rfl rfl ?_
  refine J_iald 5 1 ((8 + (3 * i)) + 1) rfl rfl (by omega) (by decide) dX6_becomes_5 ?_
  refine J_topi (y := he i) 6 (fR_he (i := i) (by first | rfl | omega) (by omega)) ?_
  refine J_istore_n (lv' := [some (.ref o), some (.int (nI ((8 + (3 * i)) + 1))), some (.int v), some (.int (he i))]) 6 3 dX6_becomes_6 rfl (by decide) rfl ?_
  refine J_aload_n 7 0 dX6_becomes_7 rfl rfl ?_
  refine g_789 (v := .ref rw) 8 0 rfl rfl dX6_becomes_8 ?_
  refine J_iload_n 11 1 dX6_becomes_11 rfl rfl ?_
  refine J_iload_n 12 2 dX6_becomes_12 rfl rfl ?_
  refine J_iast (ws' := (wF [wMo o rw fr kp tr ik tp tm mso bg en wd va gd rs mu rm ss msz msh mho mhn mhz kd nb tn tc bo ip, wI G rw 76 (upd (fRow la ns sd to he sw nh ki te mi ar z) ((8 + (3 * i)) + 1) v)])) 13 1 ((8 + (3 * i)) + 1) rfl rfl (by omega) (by decide) rfl dX6_becomes_13 ?_
  refine J_ws (ws' := (wF [wMo o rw fr kp tr ik tp tm mso bg en wd va gd rs mu rm ss msz msh mho mhn mhz kd nb tn tc bo ip, wMr G rw la ns sd to (upd he i v) sw nh ki te mi ar z])) 14 (congrArg (fun x_ => (wF [wMo o rw fr kp tr ik tp tm mso bg en wd va gd rs mu rm ss msz msh mho mhn mhz kd nb tn tc bo ip, wI G rw 76 x_])) (fU_he (i := i) (by omega) (by omega))) ?_
  refine J_iload_n 14 3 dX6_becomes_14 rfl rfl ?_
  exact J_iret 15 dX6_becomes_15 rfl rfl
set_option maxRecDepth 100000 in
set_option maxHeartbeats 4000000 in
theorem c_X6_words_2 (l : Launch) (G : Gd) (i : Nat) (o : Nat) (rw : Nat) (fr : Nat) (kp : Nat) (tr : Nat) (ik : Int32) (tp : Nat) (tm : Nat) (mso : Int32) (bg : Nat) (en : Nat) (wd : Int64) (va : Int32) (gd : Int32) (rs : Nat) (mu : Nat) (rm : Nat) (ss : Nat) (msz : Nat) (msh : Nat) (mho : Nat) (mhn : Nat) (mhz : Nat) (kd : Int32) (nb : Int32) (tn : Int32) (tc : Nat) (bo : Nat) (ip : Int32) (la : Nat → Int32) (ns : Nat) (sd : Nat) (to : Nat → Int32) (he : Nat → Int32) (sw : Nat → Int32) (nh : Nat) (ki : Nat → Int32) (te : Nat → Int32) (mi : Nat → Int32) (ar : Nat → Int32) (z : Int32) (hi : i < 12) : Ct l G yX6_words cX6_words 3 (some (FieldType.int)) 0 [.ref o, .int (nI i), .int 2] (wF [wMo o rw fr kp tr ik tp tm mso bg en wd va gd rs mu rm ss msz msh mho mhn mhz kd nb tn tc bo ip, wMr G rw la ns sd to he sw nh ki te mi ar z]) (some (.int (sw i))) (wF [wMo o rw fr kp tr ik tp tm mso bg en wd va gd rs mu rm ss msz msh mho mhn mhz kd nb tn tc bo ip, wMr G rw la ns sd to he sw nh ki te mi ar z]) := by
  refine Ct.of "GooseArmsModel" [some (.ref o), some (.int (nI i)), some (.int 2)] (by decide +kernel) rfl (Nat.le_of_ble_eq_true rfl) rfl ?_
  refine J_aload_n 0 0 dX6_words_0 rfl rfl ?_
  refine g_789 (v := .ref rw) 1 0 rfl rfl dX6_words_1 ?_
  refine J_bipush (v := 8) 4 dX6_words_4 rfl ?_
  refine J_iconst (v := 3) 6 dX6_words_6 rfl ?_
  refine J_iload_n 7 1 dX6_words_7 rfl rfl ?_
  refine J_imul 8 dX6_words_8 ?_
  refine J_topi (y := nI (3 * i)) 9 (pk_mul 3 i) ?_
  refine J_iadd 9 dX6_words_9 ?_
  refine J_topi (y := nI (8 + (3 * i))) 10 (nI_add 8 (3 * i)) ?_
  refine J_iload_n 10 2 dX6_words_10 rfl rfl ?_
  refine J_iadd 11 dX6_words_11 ?_
  refine J_topi (y := nI ((8 + (3 * i)) + 2)) 12 (nI_add (8 + (3 * i)) 2) ?_
  refine J_iald 12 1 ((8 + (3 * i)) + 2) rfl rfl (by omega) (by decide) dX6_words_12 ?_
  refine J_topi (y := sw i) 13 (fR_sw (i := i) (by first | rfl | omega) (by omega)) ?_
  exact J_iret 13 dX6_words_13 rfl rfl
set_option maxRecDepth 100000 in
set_option maxHeartbeats 4000000 in
theorem c_X6_becomes_sw (l : Launch) (G : Gd) (i : Nat) (v : Int32) (o : Nat) (rw : Nat) (fr : Nat) (kp : Nat) (tr : Nat) (ik : Int32) (tp : Nat) (tm : Nat) (mso : Int32) (bg : Nat) (en : Nat) (wd : Int64) (va : Int32) (gd : Int32) (rs : Nat) (mu : Nat) (rm : Nat) (ss : Nat) (msz : Nat) (msh : Nat) (mho : Nat) (mhn : Nat) (mhz : Nat) (kd : Int32) (nb : Int32) (tn : Int32) (tc : Nat) (bo : Nat) (ip : Int32) (la : Nat → Int32) (ns : Nat) (sd : Nat) (to : Nat → Int32) (he : Nat → Int32) (sw : Nat → Int32) (nh : Nat) (ki : Nat → Int32) (te : Nat → Int32) (mi : Nat → Int32) (ar : Nat → Int32) (z : Int32) (hi : i < 12) : Ct l G yX6_becomes cX6_becomes 4 (some (FieldType.int)) 0 [.ref o, .int (nI ((8 + (3 * i)) + 2)), .int v] (wF [wMo o rw fr kp tr ik tp tm mso bg en wd va gd rs mu rm ss msz msh mho mhn mhz kd nb tn tc bo ip, wMr G rw la ns sd to he sw nh ki te mi ar z]) (some (.int (sw i))) (wF [wMo o rw fr kp tr ik tp tm mso bg en wd va gd rs mu rm ss msz msh mho mhn mhz kd nb tn tc bo ip, wMr G rw la ns sd to he (upd sw i v) nh ki te mi ar z]) := by
  refine Ct.of "GooseArmsModel" [some (.ref o), some (.int (nI ((8 + (3 * i)) + 2))), some (.int v), none] (by decide +kernel) rfl (Nat.le_of_ble_eq_true rfl) rfl ?_
  refine J_aload_n 0 0 dX6_becomes_0 rfl rfl ?_
  refine g_789 (v := .ref rw) 1 0 rfl rfl dX6_becomes_1 ?_
  refine J_iload_n 4 1 dX6_becomes_4 rfl rfl ?_
  refine J_iald 5 1 ((8 + (3 * i)) + 2) rfl rfl (by omega) (by decide) dX6_becomes_5 ?_
  refine J_topi (y := sw i) 6 (fR_sw (i := i) (by first | rfl | omega) (by omega)) ?_
  refine J_istore_n (lv' := [some (.ref o), some (.int (nI ((8 + (3 * i)) + 2))), some (.int v), some (.int (sw i))]) 6 3 dX6_becomes_6 rfl (by decide) rfl ?_
  refine J_aload_n 7 0 dX6_becomes_7 rfl rfl ?_
  refine g_789 (v := .ref rw) 8 0 rfl rfl dX6_becomes_8 ?_
  refine J_iload_n 11 1 dX6_becomes_11 rfl rfl ?_
  refine J_iload_n 12 2 dX6_becomes_12 rfl rfl ?_
  refine J_iast (ws' := (wF [wMo o rw fr kp tr ik tp tm mso bg en wd va gd rs mu rm ss msz msh mho mhn mhz kd nb tn tc bo ip, wI G rw 76 (upd (fRow la ns sd to he sw nh ki te mi ar z) ((8 + (3 * i)) + 2) v)])) 13 1 ((8 + (3 * i)) + 2) rfl rfl (by omega) (by decide) rfl dX6_becomes_13 ?_
  refine J_ws (ws' := (wF [wMo o rw fr kp tr ik tp tm mso bg en wd va gd rs mu rm ss msz msh mho mhn mhz kd nb tn tc bo ip, wMr G rw la ns sd to he (upd sw i v) nh ki te mi ar z])) 14 (congrArg (fun x_ => (wF [wMo o rw fr kp tr ik tp tm mso bg en wd va gd rs mu rm ss msz msh mho mhn mhz kd nb tn tc bo ip, wI G rw 76 x_])) (fU_sw (i := i) (by omega) (by omega))) ?_
  refine J_iload_n 14 3 dX6_becomes_14 rfl rfl ?_
  exact J_iret 15 dX6_becomes_15 rfl rfl
set_option maxRecDepth 100000 in
set_option maxHeartbeats 4000000 in
theorem c_X6_becomes_la (l : Launch) (G : Gd) (i : Nat) (v : Int32) (o : Nat) (rw : Nat) (fr : Nat) (kp : Nat) (tr : Nat) (ik : Int32) (tp : Nat) (tm : Nat) (mso : Int32) (bg : Nat) (en : Nat) (wd : Int64) (va : Int32) (gd : Int32) (rs : Nat) (mu : Nat) (rm : Nat) (ss : Nat) (msz : Nat) (msh : Nat) (mho : Nat) (mhn : Nat) (mhz : Nat) (kd : Int32) (nb : Int32) (tn : Int32) (tc : Nat) (bo : Nat) (ip : Int32) (la : Nat → Int32) (ns : Nat) (sd : Nat) (to : Nat → Int32) (he : Nat → Int32) (sw : Nat → Int32) (nh : Nat) (ki : Nat → Int32) (te : Nat → Int32) (mi : Nat → Int32) (ar : Nat → Int32) (z : Int32) (hi : i < 4) : Ct l G yX6_becomes cX6_becomes 4 (some (FieldType.int)) 0 [.ref o, .int (nI i), .int v] (wF [wMo o rw fr kp tr ik tp tm mso bg en wd va gd rs mu rm ss msz msh mho mhn mhz kd nb tn tc bo ip, wMr G rw la ns sd to he sw nh ki te mi ar z]) (some (.int (la i))) (wF [wMo o rw fr kp tr ik tp tm mso bg en wd va gd rs mu rm ss msz msh mho mhn mhz kd nb tn tc bo ip, wMr G rw (upd la i v) ns sd to he sw nh ki te mi ar z]) := by
  refine Ct.of "GooseArmsModel" [some (.ref o), some (.int (nI i)), some (.int v), none] (by decide +kernel) rfl (Nat.le_of_ble_eq_true rfl) rfl ?_
  refine J_aload_n 0 0 dX6_becomes_0 rfl rfl ?_
  refine g_789 (v := .ref rw) 1 0 rfl rfl dX6_becomes_1 ?_
  refine J_iload_n 4 1 dX6_becomes_4 rfl rfl ?_
  refine J_iald 5 1 i rfl rfl (by omega) (by decide) dX6_becomes_5 ?_
  refine J_topi (y := la i) 6 (fR_la (j := i) (by first | rfl | omega) (by omega)) ?_
  refine J_istore_n (lv' := [some (.ref o), some (.int (nI i)), some (.int v), some (.int (la i))]) 6 3 dX6_becomes_6 rfl (by decide) rfl ?_
  refine J_aload_n 7 0 dX6_becomes_7 rfl rfl ?_
  refine g_789 (v := .ref rw) 8 0 rfl rfl dX6_becomes_8 ?_
  refine J_iload_n 11 1 dX6_becomes_11 rfl rfl ?_
  refine J_iload_n 12 2 dX6_becomes_12 rfl rfl ?_
  refine J_iast (ws' := (wF [wMo o rw fr kp tr ik tp tm mso bg en wd va gd rs mu rm ss msz msh mho mhn mhz kd nb tn tc bo ip, wI G rw 76 (upd (fRow la ns sd to he sw nh ki te mi ar z) i v)])) 13 1 i rfl rfl (by omega) (by decide) rfl dX6_becomes_13 ?_
  refine J_ws (ws' := (wF [wMo o rw fr kp tr ik tp tm mso bg en wd va gd rs mu rm ss msz msh mho mhn mhz kd nb tn tc bo ip, wMr G rw (upd la i v) ns sd to he sw nh ki te mi ar z])) 14 (congrArg (fun x_ => (wF [wMo o rw fr kp tr ik tp tm mso bg en wd va gd rs mu rm ss msz msh mho mhn mhz kd nb tn tc bo ip, wI G rw 76 x_])) (fU_la (by omega))) ?_
  refine J_iload_n 14 3 dX6_becomes_14 rfl rfl ?_
  exact J_iret 15 dX6_becomes_15 rfl rfl
set_option maxRecDepth 100000 in
set_option maxHeartbeats 4000000 in
theorem c_X6_becomes_sd (l : Launch) (G : Gd) (v : Nat) (o : Nat) (rw : Nat) (fr : Nat) (kp : Nat) (tr : Nat) (ik : Int32) (tp : Nat) (tm : Nat) (mso : Int32) (bg : Nat) (en : Nat) (wd : Int64) (va : Int32) (gd : Int32) (rs : Nat) (mu : Nat) (rm : Nat) (ss : Nat) (msz : Nat) (msh : Nat) (mho : Nat) (mhn : Nat) (mhz : Nat) (kd : Int32) (nb : Int32) (tn : Int32) (tc : Nat) (bo : Nat) (ip : Int32) (la : Nat → Int32) (ns : Nat) (sd : Nat) (to : Nat → Int32) (he : Nat → Int32) (sw : Nat → Int32) (nh : Nat) (ki : Nat → Int32) (te : Nat → Int32) (mi : Nat → Int32) (ar : Nat → Int32) (z : Int32)  : Ct l G yX6_becomes cX6_becomes 4 (some (FieldType.int)) 0 [.ref o, .int (nI 4), .int (nI v)] (wF [wMo o rw fr kp tr ik tp tm mso bg en wd va gd rs mu rm ss msz msh mho mhn mhz kd nb tn tc bo ip, wMr G rw la ns sd to he sw nh ki te mi ar z]) (some (.int (nI sd))) (wF [wMo o rw fr kp tr ik tp tm mso bg en wd va gd rs mu rm ss msz msh mho mhn mhz kd nb tn tc bo ip, wMr G rw la ns v to he sw nh ki te mi ar z]) := by
  refine Ct.of "GooseArmsModel" [some (.ref o), some (.int (nI 4)), some (.int (nI v)), none] (by decide +kernel) rfl (Nat.le_of_ble_eq_true rfl) rfl ?_
  refine J_aload_n 0 0 dX6_becomes_0 rfl rfl ?_
  refine g_789 (v := .ref rw) 1 0 rfl rfl dX6_becomes_1 ?_
  refine J_iload_n 4 1 dX6_becomes_4 rfl rfl ?_
  refine J_iald 5 1 4 rfl rfl (by omega) (by decide) dX6_becomes_5 ?_
  refine J_topi (y := nI sd) 6 (fR_sd rfl) ?_
  refine J_istore_n (lv' := [some (.ref o), some (.int (nI 4)), some (.int (nI v)), some (.int (nI sd))]) 6 3 dX6_becomes_6 rfl (by decide) rfl ?_
  refine J_aload_n 7 0 dX6_becomes_7 rfl rfl ?_
  refine g_789 (v := .ref rw) 8 0 rfl rfl dX6_becomes_8 ?_
  refine J_iload_n 11 1 dX6_becomes_11 rfl rfl ?_
  refine J_iload_n 12 2 dX6_becomes_12 rfl rfl ?_
  refine J_iast (ws' := (wF [wMo o rw fr kp tr ik tp tm mso bg en wd va gd rs mu rm ss msz msh mho mhn mhz kd nb tn tc bo ip, wI G rw 76 (upd (fRow la ns sd to he sw nh ki te mi ar z) 4 (nI v))])) 13 1 4 rfl rfl (by omega) (by decide) rfl dX6_becomes_13 ?_
  refine J_ws (ws' := (wF [wMo o rw fr kp tr ik tp tm mso bg en wd va gd rs mu rm ss msz msh mho mhn mhz kd nb tn tc bo ip, wMr G rw la ns v to he sw nh ki te mi ar z])) 14 (congrArg (fun x_ => (wF [wMo o rw fr kp tr ik tp tm mso bg en wd va gd rs mu rm ss msz msh mho mhn mhz kd nb tn tc bo ip, wI G rw 76 x_])) (fU_sd rfl)) ?_
  refine J_iload_n 14 3 dX6_becomes_14 rfl rfl ?_
  exact J_iret 15 dX6_becomes_15 rfl rfl
set_option maxRecDepth 100000 in
set_option maxHeartbeats 4000000 in
theorem c_X6_becomes_z (l : Launch) (G : Gd) (v : Int32) (o : Nat) (rw : Nat) (fr : Nat) (kp : Nat) (tr : Nat) (ik : Int32) (tp : Nat) (tm : Nat) (mso : Int32) (bg : Nat) (en : Nat) (wd : Int64) (va : Int32) (gd : Int32) (rs : Nat) (mu : Nat) (rm : Nat) (ss : Nat) (msz : Nat) (msh : Nat) (mho : Nat) (mhn : Nat) (mhz : Nat) (kd : Int32) (nb : Int32) (tn : Int32) (tc : Nat) (bo : Nat) (ip : Int32) (la : Nat → Int32) (ns : Nat) (sd : Nat) (to : Nat → Int32) (he : Nat → Int32) (sw : Nat → Int32) (nh : Nat) (ki : Nat → Int32) (te : Nat → Int32) (mi : Nat → Int32) (ar : Nat → Int32) (z : Int32)  : Ct l G yX6_becomes cX6_becomes 4 (some (FieldType.int)) 0 [.ref o, .int (nI 7), .int v] (wF [wMo o rw fr kp tr ik tp tm mso bg en wd va gd rs mu rm ss msz msh mho mhn mhz kd nb tn tc bo ip, wMr G rw la ns sd to he sw nh ki te mi ar z]) (some (.int z)) (wF [wMo o rw fr kp tr ik tp tm mso bg en wd va gd rs mu rm ss msz msh mho mhn mhz kd nb tn tc bo ip, wMr G rw la ns sd to he sw nh ki te mi ar v]) := by
  refine Ct.of "GooseArmsModel" [some (.ref o), some (.int (nI 7)), some (.int v), none] (by decide +kernel) rfl (Nat.le_of_ble_eq_true rfl) rfl ?_
  refine J_aload_n 0 0 dX6_becomes_0 rfl rfl ?_
  refine g_789 (v := .ref rw) 1 0 rfl rfl dX6_becomes_1 ?_
  refine J_iload_n 4 1 dX6_becomes_4 rfl rfl ?_
  refine J_iald 5 1 7 rfl rfl (by omega) (by decide) dX6_becomes_5 ?_
  refine J_topi (y := z) 6 (fR_z rfl) ?_
  refine J_istore_n (lv' := [some (.ref o), some (.int (nI 7)), some (.int v), some (.int z)]) 6 3 dX6_becomes_6 rfl (by decide) rfl ?_
  refine J_aload_n 7 0 dX6_becomes_7 rfl rfl ?_
  refine g_789 (v := .ref rw) 8 0 rfl rfl dX6_becomes_8 ?_
  refine J_iload_n 11 1 dX6_becomes_11 rfl rfl ?_
  refine J_iload_n 12 2 dX6_becomes_12 rfl rfl ?_
  refine J_iast (ws' := (wF [wMo o rw fr kp tr ik tp tm mso bg en wd va gd rs mu rm ss msz msh mho mhn mhz kd nb tn tc bo ip, wI G rw 76 (upd (fRow la ns sd to he sw nh ki te mi ar z) 7 v)])) 13 1 7 rfl rfl (by omega) (by decide) rfl dX6_becomes_13 ?_
  refine J_ws (ws' := (wF [wMo o rw fr kp tr ik tp tm mso bg en wd va gd rs mu rm ss msz msh mho mhn mhz kd nb tn tc bo ip, wMr G rw la ns sd to he sw nh ki te mi ar v])) 14 (congrArg (fun x_ => (wF [wMo o rw fr kp tr ik tp tm mso bg en wd va gd rs mu rm ss msz msh mho mhn mhz kd nb tn tc bo ip, wI G rw 76 x_])) (fU_z rfl)) ?_
  refine J_iload_n 14 3 dX6_becomes_14 rfl rfl ?_
  exact J_iret 15 dX6_becomes_15 rfl rfl
set_option maxRecDepth 100000 in
set_option maxHeartbeats 4000000 in
theorem c_X6_isWords_0 (l : Launch) (G : Gd) (v : Int32)  : Ct l G yX6_isWords cX6_isWords 2 (some (FieldType.boolean)) 1 [.int 0, .int v] (wF []) (some (.int (bI (0 ≤ v ∧ v ≤ 7)))) (wF []) := by
  refine Ct.of "GooseArmsModel" [some (.int 0), some (.int v)] (by decide +kernel) rfl (Nat.le_of_ble_eq_true rfl) rfl ?_
  refine J_iload_n 0 0 dX6_isWords_0 rfl rfl ?_
  refine J_if_ne (tgt := 14) 1 dX6_isWords_1 (by decide) (fun c_1_ => absurd c_1_ (by decide)) (fun _ => ?_)
  refine J_iload_n 4 1 dX6_isWords_4 rfl rfl ?_
  refine J_iconst (v := 0) 5 dX6_isWords_5 rfl ?_
  refine J_bipush (v := 7) 6 dX6_isWords_6 rfl ?_
  refine kb_RX6_57 (bs' := []) (rest := []) (st' := [.int (bI (0 ≤ v ∧ v ≤ 7))]) 8 (c_X6_in l G v 0 7 ) [] rfl rfl [] rfl rfl rfl rfl rfl rfl (Nat.le_of_ble_eq_true rfl) rfl dX6_isWords_8 ?_
  refine J_goto (tgt := 48) 11 dX6_isWords_11 (by decide) ?_
  exact J_zret 48 (bI_nar _) dX6_isWords_48 rfl rfl
set_option maxRecDepth 100000 in
set_option maxHeartbeats 4000000 in
theorem c_X6_isWords_1 (l : Launch) (G : Gd) (v : Int32)  : Ct l G yX6_isWords cX6_isWords 2 (some (FieldType.boolean)) 1 [.int 1, .int v] (wF []) (some (.int (bI (0 ≤ v ∧ v ≤ 9)))) (wF []) := by
  refine Ct.of "GooseArmsModel" [some (.int 1), some (.int v)] (by decide +kernel) rfl (Nat.le_of_ble_eq_true rfl) rfl ?_
  refine J_iload_n 0 0 dX6_isWords_0 rfl rfl ?_
  refine J_if_ne (tgt := 14) 1 dX6_isWords_1 (by decide) (fun _ => ?_) (fun c_1_ => absurd c_1_ (by decide))
  refine J_iload_n 14 0 dX6_isWords_14 rfl rfl ?_
  refine J_iconst (v := 1) 15 dX6_isWords_15 rfl ?_
  refine J_icmp_ne (tgt := 29) 16 dX6_isWords_16 (by decide) (fun c_2_ => absurd c_2_ (by decide)) (fun _ => ?_)
  refine J_iload_n 19 1 dX6_isWords_19 rfl rfl ?_
  refine J_iconst (v := 0) 20 dX6_isWords_20 rfl ?_
  refine J_bipush (v := 9) 21 dX6_isWords_21 rfl ?_
  refine kb_RX6_57 (bs' := []) (rest := []) (st' := [.int (bI (0 ≤ v ∧ v ≤ 9))]) 23 (c_X6_in l G v 0 9 ) [] rfl rfl [] rfl rfl rfl rfl rfl rfl (Nat.le_of_ble_eq_true rfl) rfl dX6_isWords_23 ?_
  refine J_goto (tgt := 48) 26 dX6_isWords_26 (by decide) ?_
  exact J_zret 48 (bI_nar _) dX6_isWords_48 rfl rfl
set_option maxRecDepth 100000 in
set_option maxHeartbeats 4000000 in
theorem c_X6_isWords_2 (l : Launch) (G : Gd) (v : Int32)  : Ct l G yX6_isWords cX6_isWords 2 (some (FieldType.boolean)) 1 [.int 2, .int v] (wF []) (some (.int (bI (0 ≤ v ∧ v ≤ 1)))) (wF []) := by
  refine Ct.of "GooseArmsModel" [some (.int 2), some (.int v)] (by decide +kernel) rfl (Nat.le_of_ble_eq_true rfl) rfl ?_
  refine J_iload_n 0 0 dX6_isWords_0 rfl rfl ?_
  refine J_if_ne (tgt := 14) 1 dX6_isWords_1 (by decide) (fun _ => ?_) (fun c_1_ => absurd c_1_ (by decide))
  refine J_iload_n 14 0 dX6_isWords_14 rfl rfl ?_
  refine J_iconst (v := 1) 15 dX6_isWords_15 rfl ?_
  refine J_icmp_ne (tgt := 29) 16 dX6_isWords_16 (by decide) (fun _ => ?_) (fun c_2_ => absurd c_2_ (by decide))
  refine J_iload_n 29 0 dX6_isWords_29 rfl rfl ?_
  refine J_iconst (v := 2) 30 dX6_isWords_30 rfl ?_
  refine J_icmp_ne (tgt := 47) 31 dX6_isWords_31 (by decide) (fun c_3_ => absurd c_3_ (by decide)) (fun _ => ?_)
  refine J_iload_n 34 1 dX6_isWords_34 rfl rfl ?_
  refine J_iconst (v := 0) 35 dX6_isWords_35 rfl ?_
  refine J_iconst (v := 1) 36 dX6_isWords_36 rfl ?_
  refine kb_RX6_57 (bs' := []) (rest := []) (st' := [.int (bI (0 ≤ v ∧ v ≤ 1))]) 37 (c_X6_in l G v 0 1 ) [] rfl rfl [] rfl rfl rfl rfl rfl rfl (Nat.le_of_ble_eq_true rfl) rfl dX6_isWords_37 ?_
  refine J_ifB_eq (tgt := 47) 40 dX6_isWords_40 (by decide) (fun c_4_ => ?_) (fun c_4_ => ?_)
  · skip
    refine J_iconst (v := 0) 47 dX6_isWords_47 rfl ?_
    exact J_zret 48 rfl dX6_isWords_48 (congrArg (fun x_ => some (Value.int x_)) (bI_f (by first | omega | grind)).symm) rfl
  · skip
    refine J_iconst (v := 1) 43 dX6_isWords_43 rfl ?_
    refine J_goto (tgt := 48) 44 dX6_isWords_44 (by decide) ?_
    exact J_zret 48 rfl dX6_isWords_48 (congrArg (fun x_ => some (Value.int x_)) (bI_t (by first | omega | grind)).symm) rfl
set_option maxRecDepth 100000 in
set_option maxHeartbeats 4000000 in
theorem c_X6_isWords_n (l : Launch) (G : Gd) (w : Int32) (v : Int32) (hw : ¬ (0 ≤ w ∧ w ≤ 2)) : Ct l G yX6_isWords cX6_isWords 2 (some (FieldType.boolean)) 1 [.int w, .int v] (wF []) (some (.int 0)) (wF []) := by
  refine Ct.of "GooseArmsModel" [some (.int w), some (.int v)] (by decide +kernel) rfl (Nat.le_of_ble_eq_true rfl) rfl ?_
  refine J_iload_n 0 0 dX6_isWords_0 rfl rfl ?_
  refine J_if_ne (tgt := 14) 1 dX6_isWords_1 (by decide) (fun c_1_ => ?_) (fun c_1_ => ?_)
  · skip
    refine J_iload_n 14 0 dX6_isWords_14 rfl rfl ?_
    refine J_iconst (v := 1) 15 dX6_isWords_15 rfl ?_
    refine J_icmp_ne (tgt := 29) 16 dX6_isWords_16 (by decide) (fun c_2_ => ?_) (fun c_2_ => ?_)
    · skip
      refine J_iload_n 29 0 dX6_isWords_29 rfl rfl ?_
      refine J_iconst (v := 2) 30 dX6_isWords_30 rfl ?_
      refine J_icmp_ne (tgt := 47) 31 dX6_isWords_31 (by decide) (fun c_3_ => ?_) (fun c_3_ => ?_)
      · skip
        refine J_iconst (v := 0) 47 dX6_isWords_47 rfl ?_
        exact J_zret 48 rfl dX6_isWords_48 rfl rfl
      · skip
        exact (hw (by rw [c_3_]; decide)).elim
    · skip
      exact (hw (by rw [c_2_]; decide)).elim
  · skip
    exact (hw (by rw [c_1_]; decide)).elim
set_option maxRecDepth 100000 in
set_option maxHeartbeats 4000000 in
theorem c_X6_isKind (l : Launch) (G : Gd) (k : Int32) (v : Int32)  : Ct l G yX6_isKind cX6_isKind 2 (some (FieldType.boolean)) 1 [.int k, .int v] (wF []) (some (.int (bI ((0 ≤ k ∧ k ≤ 5) ∧ (0 ≤ v ∧ v ≤ 255))))) (wF []) := by
  refine Ct.of "GooseArmsModel" [some (.int k), some (.int v)] (by decide +kernel) rfl (Nat.le_of_ble_eq_true rfl) rfl ?_
  refine J_iload_n 0 0 dX6_isKind_0 rfl rfl ?_
  refine J_iconst (v := 0) 1 dX6_isKind_1 rfl ?_
  refine J_iconst (v := 5) 2 dX6_isKind_2 rfl ?_
  refine kb_RX6_57 (bs' := []) (rest := []) (st' := [.int (bI (0 ≤ k ∧ k ≤ 5))]) 3 (c_X6_in l G k 0 5 ) [] rfl rfl [] rfl rfl rfl rfl rfl rfl (Nat.le_of_ble_eq_true rfl) rfl dX6_isKind_3 ?_
  refine J_ifB_eq (tgt := 24) 6 dX6_isKind_6 (by decide) (fun c_1_ => ?_) (fun c_1_ => ?_)
  · skip
    refine J_iconst (v := 0) 24 dX6_isKind_24 rfl ?_
    exact J_zret 25 rfl dX6_isKind_25 (congrArg (fun x_ => some (Value.int x_)) (bI_f (by first | omega | grind)).symm) rfl
  · skip
    refine J_iload_n 9 1 dX6_isKind_9 rfl rfl ?_
    refine J_iconst (v := 0) 10 dX6_isKind_10 rfl ?_
    refine J_sipush (v := 255) 11 dX6_isKind_11 rfl ?_
    refine kb_RX6_57 (bs' := []) (rest := []) (st' := [.int (bI (0 ≤ v ∧ v ≤ 255))]) 14 (c_X6_in l G v 0 255 ) [] rfl rfl [] rfl rfl rfl rfl rfl rfl (Nat.le_of_ble_eq_true rfl) rfl dX6_isKind_14 ?_
    refine J_ifB_eq (tgt := 24) 17 dX6_isKind_17 (by decide) (fun c_2_ => ?_) (fun c_2_ => ?_)
    · skip
      refine J_iconst (v := 0) 24 dX6_isKind_24 rfl ?_
      exact J_zret 25 rfl dX6_isKind_25 (congrArg (fun x_ => some (Value.int x_)) (bI_f (by first | omega | grind)).symm) rfl
    · skip
      refine J_iconst (v := 1) 20 dX6_isKind_20 rfl ?_
      refine J_goto (tgt := 25) 21 dX6_isKind_21 (by decide) ?_
      exact J_zret 25 rfl dX6_isKind_25 (congrArg (fun x_ => some (Value.int x_)) (bI_t (by first | omega | grind)).symm) rfl
set_option maxRecDepth 100000 in
set_option maxHeartbeats 4000000 in
theorem c_X6_leftMany (l : Launch) (G : Gd) (o : Nat) (rw : Nat) (fr : Nat) (kp : Nat) (tr : Nat) (ik : Int32) (tp : Nat) (tm : Nat) (mso : Int32) (bg : Nat) (en : Nat) (wd : Int64) (va : Int32) (gd : Int32) (rs : Nat) (mu : Nat) (rm : Nat) (ss : Nat) (msz : Nat) (msh : Nat) (mho : Nat) (mhn : Nat) (mhz : Nat) (kd : Int32) (nb : Int32) (tn : Int32) (tc : Nat) (bo : Nat) (ip : Int32) (la : Nat → Int32) (ns : Nat) (sd : Nat) (to : Nat → Int32) (he : Nat → Int32) (sw : Nat → Int32) (nh : Nat) (ki : Nat → Int32) (te : Nat → Int32) (mi : Nat → Int32) (ar : Nat → Int32) (z : Int32) (hsd : sd ≤ ns) : Ct l G yX6_leftMany cX6_leftMany 1 (some (FieldType.int)) 0 [.ref o] (wF [wMo o rw fr kp tr ik tp tm mso bg en wd va gd rs mu rm ss msz msh mho mhn mhz kd nb tn tc bo ip, wMr G rw la ns sd to he sw nh ki te mi ar z]) (some (.int (nI (ns - sd)))) (wF [wMo o rw fr kp tr ik tp tm mso bg en wd va gd rs mu rm ss msz msh mho mhn mhz kd nb tn tc bo ip, wMr G rw la ns sd to he sw nh ki te mi ar z]) := by
  refine Ct.of "GooseArmsModel" [some (.ref o)] (by decide +kernel) rfl (Nat.le_of_ble_eq_true rfl) rfl ?_
  refine J_aload_n 0 0 dX6_leftMany_0 rfl rfl ?_
  refine g_789 (v := .ref rw) 1 0 rfl rfl dX6_leftMany_1 ?_
  refine J_iconst (v := 5) 4 dX6_leftMany_4 rfl ?_
  refine J_iald 5 1 5 rfl rfl (by omega) (by decide) dX6_leftMany_5 ?_
  refine J_topi (y := nI ns) 6 (fR_ns rfl) ?_
  refine J_aload_n 6 0 dX6_leftMany_6 rfl rfl ?_
  refine g_789 (v := .ref rw) 7 0 rfl rfl dX6_leftMany_7 ?_
  refine J_iconst (v := 4) 10 dX6_leftMany_10 rfl ?_
  refine J_iald 11 1 4 rfl rfl (by omega) (by decide) dX6_leftMany_11 ?_
  refine J_topi (y := nI sd) 12 (fR_sd rfl) ?_
  refine J_isub 12 dX6_leftMany_12 ?_
  exact J_iret 13 dX6_leftMany_13 (congrArg (fun x_ => some (Value.int x_)) (pk_sub hsd)) rfl
set_option maxRecDepth 100000 in
set_option maxHeartbeats 4000000 in
theorem c_X6_shivers (l : Launch) (G : Gd) (h : Nat) (i : Nat) (o : Nat) (rw : Nat) (fr : Nat) (kp : Nat) (tr : Nat) (ik : Int32) (tp : Nat) (tm : Nat) (mso : Int32) (bg : Nat) (en : Nat) (wd : Int64) (va : Int32) (gd : Int32) (rs : Nat) (mu : Nat) (rm : Nat) (ss : Nat) (msz : Nat) (msh : Nat) (mho : Nat) (mhn : Nat) (mhz : Nat) (kd : Int32) (nb : Int32) (tn : Int32) (tc : Nat) (bo : Nat) (ip : Int32) (la : Nat → Int32) (ns : Nat) (sd : Nat) (to : Nat → Int32) (he : Nat → Int32) (sw : Nat → Int32) (nh : Nat) (ki : Nat → Int32) (te : Nat → Int32) (mi : Nat → Int32) (ar : Nat → Int32) (z : Int32) (hh : h < 8) (hi : i < 12) : Ct l G yX6_shivers cX6_shivers 7 (some (FieldType.int)) 1 [.ref o, .int (nI h), .int (nI i)] (wF [wMo o rw fr kp tr ik tp tm mso bg en wd va gd rs mu rm ss msz msh mho mhn mhz kd nb tn tc bo ip, wMr G rw la ns sd to he sw nh ki te mi ar z]) (some (.int (fShiv (ki h) (mi h) (te h) (la 1) (to i) (he i) (sw i) (nI i)))) (wF [wMo o rw fr kp tr ik tp tm mso bg en wd va gd rs mu rm ss msz msh mho mhn mhz kd nb tn tc bo ip, wMr G rw la ns sd to he sw nh ki te mi ar z]) := by
  refine Ct.of "GooseArmsModel" [some (.ref o), some (.int (nI h)), some (.int (nI i)), none, none, none, none] (by decide +kernel) rfl (Nat.le_of_ble_eq_true rfl) rfl ?_
  refine J_aload_n 0 0 dX6_shivers_0 rfl rfl ?_
  refine J_iload_n 1 1 dX6_shivers_1 rfl rfl ?_
  refine J_iconst (v := 2) 2 dX6_shivers_2 rfl ?_
  refine kb_RX6_187 (bs' := [wMo o rw fr kp tr ik tp tm mso bg en wd va gd rs mu rm ss msz msh mho mhn mhz kd nb tn tc bo ip, wMr G rw la ns sd to he sw nh ki te mi ar z]) (rest := []) (st' := [.int (mi h)]) 3 (c_X6_its_2 l G h o rw fr kp tr ik tp tm mso bg en wd va gd rs mu rm ss msz msh mho mhn mhz kd nb tn tc bo ip la ns sd to he sw nh ki te mi ar z (by first | omega | assumption)) [0, 1] 0 rfl rfl rfl [[o], [rw]] rfl rfl rfl rfl rfl rfl (Nat.le_of_ble_eq_true rfl) rfl dX6_shivers_3 ?_
  refine J_aload_n 6 0 dX6_shivers_6 rfl rfl ?_
  refine J_iload_n 7 2 dX6_shivers_7 rfl rfl ?_
  refine J_iconst (v := 0) 8 dX6_shivers_8 rfl ?_
  refine kb_RX6_193 (bs' := [wMo o rw fr kp tr ik tp tm mso bg en wd va gd rs mu rm ss msz msh mho mhn mhz kd nb tn tc bo ip, wMr G rw la ns sd to he sw nh ki te mi ar z]) (rest := [.int (mi h)]) (st' := [.int (to i), .int (mi h)]) 9 (c_X6_words_0 l G i o rw fr kp tr ik tp tm mso bg en wd va gd rs mu rm ss msz msh mho mhn mhz kd nb tn tc bo ip la ns sd to he sw nh ki te mi ar z (by first | omega | assumption)) [0, 1] 0 rfl rfl rfl [[o], [rw]] rfl rfl rfl rfl rfl rfl (Nat.le_of_ble_eq_true rfl) rfl dX6_shivers_9 ?_
  refine J_ishr 12 dX6_shivers_12 ?_
  refine J_iconst (v := 1) 13 dX6_shivers_13 rfl ?_
  refine J_iand 14 dX6_shivers_14 ?_
  refine J_iconst (v := 1) 15 dX6_shivers_15 rfl ?_
  refine J_icmp_ne (tgt := 23) 16 dX6_shivers_16 (by decide) (fun c_1_ => ?_) (fun c_1_ => ?_)
  · skip
    refine J_iconst (v := 0) 23 dX6_shivers_23 rfl ?_
    refine J_istore_n (lv' := [some (.ref o), some (.int (nI h)), some (.int (nI i)), some (.int 0), none, none, none]) 24 3 dX6_shivers_24 rfl (by decide) rfl ?_
    refine J_aload_n 25 0 dX6_shivers_25 rfl rfl ?_
    refine J_iload_n 26 2 dX6_shivers_26 rfl rfl ?_
    refine J_iconst (v := 1) 27 dX6_shivers_27 rfl ?_
    refine kb_RX6_193 (bs' := [wMo o rw fr kp tr ik tp tm mso bg en wd va gd rs mu rm ss msz msh mho mhn mhz kd nb tn tc bo ip, wMr G rw la ns sd to he sw nh ki te mi ar z]) (rest := []) (st' := [.int (he i)]) 28 (c_X6_words_1 l G i o rw fr kp tr ik tp tm mso bg en wd va gd rs mu rm ss msz msh mho mhn mhz kd nb tn tc bo ip la ns sd to he sw nh ki te mi ar z (by first | omega | assumption)) [0, 1] 0 rfl rfl rfl [[o], [rw]] rfl rfl rfl rfl rfl rfl (Nat.le_of_ble_eq_true rfl) rfl dX6_shivers_28 ?_
    refine J_iload_n 31 3 dX6_shivers_31 rfl rfl ?_
    refine J_if_eq (tgt := 44) 32 dX6_shivers_32 (by decide) (fun _ => ?_) (fun c_2_ => absurd c_2_ (by decide))
    refine J_iconst (v := 0) 44 dX6_shivers_44 rfl ?_
    refine J_iadd 45 dX6_shivers_45 ?_
    refine J_istore (lv' := [some (.ref o), some (.int (nI h)), some (.int (nI i)), some (.int 0), some (.int ((he i) + 0)), none, none]) 46 dX6_shivers_46 (by decide) rfl ?_
    refine J_aload_n 48 0 dX6_shivers_48 rfl rfl ?_
    refine J_iload_n 49 2 dX6_shivers_49 rfl rfl ?_
    refine J_iconst (v := 2) 50 dX6_shivers_50 rfl ?_
    refine kb_RX6_193 (bs' := [wMo o rw fr kp tr ik tp tm mso bg en wd va gd rs mu rm ss msz msh mho mhn mhz kd nb tn tc bo ip, wMr G rw la ns sd to he sw nh ki te mi ar z]) (rest := []) (st' := [.int (sw i)]) 51 (c_X6_words_2 l G i o rw fr kp tr ik tp tm mso bg en wd va gd rs mu rm ss msz msh mho mhn mhz kd nb tn tc bo ip la ns sd to he sw nh ki te mi ar z (by first | omega | assumption)) [0, 1] 0 rfl rfl rfl [[o], [rw]] rfl rfl rfl rfl rfl rfl (Nat.le_of_ble_eq_true rfl) rfl dX6_shivers_51 ?_
    refine J_iconst (v := 1) 54 dX6_shivers_54 rfl ?_
    refine J_icmp_ne (tgt := 62) 55 dX6_shivers_55 (by decide) (fun c_3_ => ?_) (fun c_3_ => ?_)
    · skip
      refine J_iconst (v := 0) 62 dX6_shivers_62 rfl ?_
      refine J_istore (lv' := [some (.ref o), some (.int (nI h)), some (.int (nI i)), some (.int 0), some (.int ((he i) + 0)), some (.int 0), none]) 63 dX6_shivers_63 (by decide) rfl ?_
      refine J_iload 65 dX6_shivers_65 rfl ?_
      refine J_iload 67 dX6_shivers_67 rfl ?_
      refine J_if_eq (tgt := 81) 69 dX6_shivers_69 (by decide) (fun _ => ?_) (fun c_4_ => absurd c_4_ (by decide))
      refine J_iconst (v := 0) 81 dX6_shivers_81 rfl ?_
      refine J_iadd 82 dX6_shivers_82 ?_
      refine J_istore (lv' := [some (.ref o), some (.int (nI h)), some (.int (nI i)), some (.int 0), some (.int ((he i) + 0)), some (.int 0), some (.int (((he i) + 0) + 0))]) 83 dX6_shivers_83 (by decide) rfl ?_
      refine J_aload_n 85 0 dX6_shivers_85 rfl rfl ?_
      refine J_iload_n 86 1 dX6_shivers_86 rfl rfl ?_
      refine J_iconst (v := 0) 87 dX6_shivers_87 rfl ?_
      refine kb_RX6_187 (bs' := [wMo o rw fr kp tr ik tp tm mso bg en wd va gd rs mu rm ss msz msh mho mhn mhz kd nb tn tc bo ip, wMr G rw la ns sd to he sw nh ki te mi ar z]) (rest := []) (st' := [.int (ki h)]) 88 (c_X6_its_0 l G h o rw fr kp tr ik tp tm mso bg en wd va gd rs mu rm ss msz msh mho mhn mhz kd nb tn tc bo ip la ns sd to he sw nh ki te mi ar z (by first | omega | assumption)) [0, 1] 0 rfl rfl rfl [[o], [rw]] rfl rfl rfl rfl rfl rfl (Nat.le_of_ble_eq_true rfl) rfl dX6_shivers_88 ?_
      by_cases e_5_ : (ki h) = 1
      · skip
        refine J_tableIn (tgt := 124) (off := 33) 91 1 dX6_shivers_91 e_5_ (by decide +kernel) (by decide) ?_
        refine J_iload 124 dX6_shivers_124 rfl ?_
        exact J_iret 126 dX6_shivers_126 (congrArg (fun x_ => some (Value.int x_)) (by simp [fShiv, fPlain, hasP, *] <;> grind)) rfl
      by_cases e_6_ : (ki h) = 2
      · skip
        refine J_tableIn (tgt := 132) (off := 41) 91 2 dX6_shivers_91 e_6_ (by decide +kernel) (by decide) ?_
        refine J_iload 132 dX6_shivers_132 rfl ?_
        refine J_iconst (v := 2) 134 dX6_shivers_134 rfl ?_
        refine J_isub 135 dX6_shivers_135 ?_
        exact J_iret 136 dX6_shivers_136 (congrArg (fun x_ => some (Value.int x_)) (by simp [fShiv, fPlain, hasP, *] <;> grind)) rfl
      by_cases e_7_ : (ki h) = 3
      · skip
        refine J_tableIn (tgt := 127) (off := 36) 91 3 dX6_shivers_91 e_7_ (by decide +kernel) (by decide) ?_
        refine J_iconst (v := 2) 127 dX6_shivers_127 rfl ?_
        refine J_iload 128 dX6_shivers_128 rfl ?_
        refine J_imul 130 dX6_shivers_130 ?_
        exact J_iret 131 dX6_shivers_131 (congrArg (fun x_ => some (Value.int x_)) (by simp [fShiv, fPlain, hasP, *] <;> grind)) rfl
      by_cases e_8_ : (ki h) = 4
      · skip
        refine J_tableIn (tgt := 137) (off := 46) 91 4 dX6_shivers_91 e_8_ (by decide +kernel) (by decide) ?_
        refine J_iload 137 dX6_shivers_137 rfl ?_
        refine J_if_eq (tgt := 149) 139 dX6_shivers_139 (by decide) (fun _ => ?_) (fun c_9_ => absurd c_9_ (by decide))
        refine J_iload 149 dX6_shivers_149 rfl ?_
        refine J_bipush (v := 7) 151 dX6_shivers_151 rfl ?_
        refine J_iadd 153 dX6_shivers_153 ?_
        exact J_iret 154 dX6_shivers_154 (congrArg (fun x_ => some (Value.int x_)) (by simp [fShiv, fPlain, hasP, *] <;> grind)) rfl
      by_cases e_10_ : (ki h) = 5
      · skip
        refine J_tableIn (tgt := 155) (off := 64) 91 5 dX6_shivers_91 e_10_ (by decide +kernel) (by decide) ?_
        refine J_iload_n 155 2 dX6_shivers_155 rfl rfl ?_
        refine J_iconst (v := 2) 156 dX6_shivers_156 rfl ?_
        refine J_irem 157 dX6_shivers_157 (by decide) ?_
        refine J_if_ne (tgt := 166) 158 dX6_shivers_158 (by decide) (fun c_11_ => ?_) (fun c_11_ => ?_)
        · skip
          refine J_iconst (v := 0) 166 dX6_shivers_166 rfl ?_
          exact J_iret 167 dX6_shivers_167 (congrArg (fun x_ => some (Value.int x_)) (by simp [fShiv, fPlain, hasP, *] <;> grind)) rfl
        · skip
          refine J_iload 161 dX6_shivers_161 rfl ?_
          refine J_goto (tgt := 167) 163 dX6_shivers_163 (by decide) ?_
          exact J_iret 167 dX6_shivers_167 (congrArg (fun x_ => some (Value.int x_)) (by simp [fShiv, fPlain, hasP, *] <;> grind)) rfl
      refine J_tableOut (tgt := 168) 91 dX6_shivers_91 (by have q0_ := lv_neT (a := 1) e_5_ (by decide); have q1_ := lv_neT (a := 2) e_6_ (by decide); have q2_ := lv_neT (a := 3) e_7_ (by decide); have q3_ := lv_neT (a := 4) e_8_ (by decide); have q4_ := lv_neT (a := 5) e_10_ (by decide); omega) (by decide) ?_
      refine J_iload 168 dX6_shivers_168 rfl ?_
      exact J_iret 170 dX6_shivers_170 (congrArg (fun x_ => some (Value.int x_)) (by simp [fShiv, fPlain, hasP, *] <;> grind)) rfl
    · skip
      refine J_iconst (v := 1) 58 dX6_shivers_58 rfl ?_
      refine J_goto (tgt := 63) 59 dX6_shivers_59 (by decide) ?_
      refine J_istore (lv' := [some (.ref o), some (.int (nI h)), some (.int (nI i)), some (.int 0), some (.int ((he i) + 0)), some (.int 1), none]) 63 dX6_shivers_63 (by decide) rfl ?_
      refine J_iload 65 dX6_shivers_65 rfl ?_
      refine J_iload 67 dX6_shivers_67 rfl ?_
      refine J_if_eq (tgt := 81) 69 dX6_shivers_69 (by decide) (fun c_12_ => absurd c_12_ (by decide)) (fun _ => ?_)
      refine J_aload_n 72 0 dX6_shivers_72 rfl rfl ?_
      refine g_789 (v := .ref rw) 73 0 rfl rfl dX6_shivers_73 ?_
      refine J_iconst (v := 1) 76 dX6_shivers_76 rfl ?_
      refine J_iald 77 1 1 rfl rfl (by omega) (by decide) dX6_shivers_77 ?_
      refine J_topi (y := la 1) 78 (fR_la (j := 1) (by first | rfl | omega) (by omega)) ?_
      refine J_goto (tgt := 82) 78 dX6_shivers_78 (by decide) ?_
      refine J_iadd 82 dX6_shivers_82 ?_
      refine J_istore (lv' := [some (.ref o), some (.int (nI h)), some (.int (nI i)), some (.int 0), some (.int ((he i) + 0)), some (.int 1), some (.int (((he i) + 0) + (la 1)))]) 83 dX6_shivers_83 (by decide) rfl ?_
      refine J_aload_n 85 0 dX6_shivers_85 rfl rfl ?_
      refine J_iload_n 86 1 dX6_shivers_86 rfl rfl ?_
      refine J_iconst (v := 0) 87 dX6_shivers_87 rfl ?_
      refine kb_RX6_187 (bs' := [wMo o rw fr kp tr ik tp tm mso bg en wd va gd rs mu rm ss msz msh mho mhn mhz kd nb tn tc bo ip, wMr G rw la ns sd to he sw nh ki te mi ar z]) (rest := []) (st' := [.int (ki h)]) 88 (c_X6_its_0 l G h o rw fr kp tr ik tp tm mso bg en wd va gd rs mu rm ss msz msh mho mhn mhz kd nb tn tc bo ip la ns sd to he sw nh ki te mi ar z (by first | omega | assumption)) [0, 1] 0 rfl rfl rfl [[o], [rw]] rfl rfl rfl rfl rfl rfl (Nat.le_of_ble_eq_true rfl) rfl dX6_shivers_88 ?_
      by_cases e_13_ : (ki h) = 1
      · skip
        refine J_tableIn (tgt := 124) (off := 33) 91 1 dX6_shivers_91 e_13_ (by decide +kernel) (by decide) ?_
        refine J_iload 124 dX6_shivers_124 rfl ?_
        exact J_iret 126 dX6_shivers_126 (congrArg (fun x_ => some (Value.int x_)) (by simp [fShiv, fPlain, hasP, *] <;> grind)) rfl
      by_cases e_14_ : (ki h) = 2
      · skip
        refine J_tableIn (tgt := 132) (off := 41) 91 2 dX6_shivers_91 e_14_ (by decide +kernel) (by decide) ?_
        refine J_iload 132 dX6_shivers_132 rfl ?_
        refine J_iconst (v := 2) 134 dX6_shivers_134 rfl ?_
        refine J_isub 135 dX6_shivers_135 ?_
        exact J_iret 136 dX6_shivers_136 (congrArg (fun x_ => some (Value.int x_)) (by simp [fShiv, fPlain, hasP, *] <;> grind)) rfl
      by_cases e_15_ : (ki h) = 3
      · skip
        refine J_tableIn (tgt := 127) (off := 36) 91 3 dX6_shivers_91 e_15_ (by decide +kernel) (by decide) ?_
        refine J_iconst (v := 2) 127 dX6_shivers_127 rfl ?_
        refine J_iload 128 dX6_shivers_128 rfl ?_
        refine J_imul 130 dX6_shivers_130 ?_
        exact J_iret 131 dX6_shivers_131 (congrArg (fun x_ => some (Value.int x_)) (by simp [fShiv, fPlain, hasP, *] <;> grind)) rfl
      by_cases e_16_ : (ki h) = 4
      · skip
        refine J_tableIn (tgt := 137) (off := 46) 91 4 dX6_shivers_91 e_16_ (by decide +kernel) (by decide) ?_
        refine J_iload 137 dX6_shivers_137 rfl ?_
        refine J_if_eq (tgt := 149) 139 dX6_shivers_139 (by decide) (fun c_17_ => absurd c_17_ (by decide)) (fun _ => ?_)
        refine J_iload 142 dX6_shivers_142 rfl ?_
        refine J_iconst (v := 2) 144 dX6_shivers_144 rfl ?_
        refine J_isub 145 dX6_shivers_145 ?_
        refine J_goto (tgt := 154) 146 dX6_shivers_146 (by decide) ?_
        exact J_iret 154 dX6_shivers_154 (congrArg (fun x_ => some (Value.int x_)) (by simp [fShiv, fPlain, hasP, *] <;> grind)) rfl
      by_cases e_18_ : (ki h) = 5
      · skip
        refine J_tableIn (tgt := 155) (off := 64) 91 5 dX6_shivers_91 e_18_ (by decide +kernel) (by decide) ?_
        refine J_iload_n 155 2 dX6_shivers_155 rfl rfl ?_
        refine J_iconst (v := 2) 156 dX6_shivers_156 rfl ?_
        refine J_irem 157 dX6_shivers_157 (by decide) ?_
        refine J_if_ne (tgt := 166) 158 dX6_shivers_158 (by decide) (fun c_19_ => ?_) (fun c_19_ => ?_)
        · skip
          refine J_iconst (v := 0) 166 dX6_shivers_166 rfl ?_
          exact J_iret 167 dX6_shivers_167 (congrArg (fun x_ => some (Value.int x_)) (by simp [fShiv, fPlain, hasP, *] <;> grind)) rfl
        · skip
          refine J_iload 161 dX6_shivers_161 rfl ?_
          refine J_goto (tgt := 167) 163 dX6_shivers_163 (by decide) ?_
          exact J_iret 167 dX6_shivers_167 (congrArg (fun x_ => some (Value.int x_)) (by simp [fShiv, fPlain, hasP, *] <;> grind)) rfl
      refine J_tableOut (tgt := 168) 91 dX6_shivers_91 (by have q0_ := lv_neT (a := 1) e_13_ (by decide); have q1_ := lv_neT (a := 2) e_14_ (by decide); have q2_ := lv_neT (a := 3) e_15_ (by decide); have q3_ := lv_neT (a := 4) e_16_ (by decide); have q4_ := lv_neT (a := 5) e_18_ (by decide); omega) (by decide) ?_
      refine J_iload 168 dX6_shivers_168 rfl ?_
      exact J_iret 170 dX6_shivers_170 (congrArg (fun x_ => some (Value.int x_)) (by simp [fShiv, fPlain, hasP, *] <;> grind)) rfl
  · skip
    refine J_iconst (v := 1) 19 dX6_shivers_19 rfl ?_
    refine J_goto (tgt := 24) 20 dX6_shivers_20 (by decide) ?_
    refine J_istore_n (lv' := [some (.ref o), some (.int (nI h)), some (.int (nI i)), some (.int 1), none, none, none]) 24 3 dX6_shivers_24 rfl (by decide) rfl ?_
    refine J_aload_n 25 0 dX6_shivers_25 rfl rfl ?_
    refine J_iload_n 26 2 dX6_shivers_26 rfl rfl ?_
    refine J_iconst (v := 1) 27 dX6_shivers_27 rfl ?_
    refine kb_RX6_193 (bs' := [wMo o rw fr kp tr ik tp tm mso bg en wd va gd rs mu rm ss msz msh mho mhn mhz kd nb tn tc bo ip, wMr G rw la ns sd to he sw nh ki te mi ar z]) (rest := []) (st' := [.int (he i)]) 28 (c_X6_words_1 l G i o rw fr kp tr ik tp tm mso bg en wd va gd rs mu rm ss msz msh mho mhn mhz kd nb tn tc bo ip la ns sd to he sw nh ki te mi ar z (by first | omega | assumption)) [0, 1] 0 rfl rfl rfl [[o], [rw]] rfl rfl rfl rfl rfl rfl (Nat.le_of_ble_eq_true rfl) rfl dX6_shivers_28 ?_
    refine J_iload_n 31 3 dX6_shivers_31 rfl rfl ?_
    refine J_if_eq (tgt := 44) 32 dX6_shivers_32 (by decide) (fun c_20_ => absurd c_20_ (by decide)) (fun _ => ?_)
    refine J_aload_n 35 0 dX6_shivers_35 rfl rfl ?_
    refine J_iload_n 36 1 dX6_shivers_36 rfl rfl ?_
    refine J_iconst (v := 1) 37 dX6_shivers_37 rfl ?_
    refine kb_RX6_187 (bs' := [wMo o rw fr kp tr ik tp tm mso bg en wd va gd rs mu rm ss msz msh mho mhn mhz kd nb tn tc bo ip, wMr G rw la ns sd to he sw nh ki te mi ar z]) (rest := [.int (he i)]) (st' := [.int (te h), .int (he i)]) 38 (c_X6_its_1 l G h o rw fr kp tr ik tp tm mso bg en wd va gd rs mu rm ss msz msh mho mhn mhz kd nb tn tc bo ip la ns sd to he sw nh ki te mi ar z (by first | omega | assumption)) [0, 1] 0 rfl rfl rfl [[o], [rw]] rfl rfl rfl rfl rfl rfl (Nat.le_of_ble_eq_true rfl) rfl dX6_shivers_38 ?_
    refine J_goto (tgt := 45) 41 dX6_shivers_41 (by decide) ?_
    refine J_iadd 45 dX6_shivers_45 ?_
    refine J_istore (lv' := [some (.ref o), some (.int (nI h)), some (.int (nI i)), some (.int 1), some (.int ((he i) + (te h))), none, none]) 46 dX6_shivers_46 (by decide) rfl ?_
    refine J_aload_n 48 0 dX6_shivers_48 rfl rfl ?_
    refine J_iload_n 49 2 dX6_shivers_49 rfl rfl ?_
    refine J_iconst (v := 2) 50 dX6_shivers_50 rfl ?_
    refine kb_RX6_193 (bs' := [wMo o rw fr kp tr ik tp tm mso bg en wd va gd rs mu rm ss msz msh mho mhn mhz kd nb tn tc bo ip, wMr G rw la ns sd to he sw nh ki te mi ar z]) (rest := []) (st' := [.int (sw i)]) 51 (c_X6_words_2 l G i o rw fr kp tr ik tp tm mso bg en wd va gd rs mu rm ss msz msh mho mhn mhz kd nb tn tc bo ip la ns sd to he sw nh ki te mi ar z (by first | omega | assumption)) [0, 1] 0 rfl rfl rfl [[o], [rw]] rfl rfl rfl rfl rfl rfl (Nat.le_of_ble_eq_true rfl) rfl dX6_shivers_51 ?_
    refine J_iconst (v := 1) 54 dX6_shivers_54 rfl ?_
    refine J_icmp_ne (tgt := 62) 55 dX6_shivers_55 (by decide) (fun c_21_ => ?_) (fun c_21_ => ?_)
    · skip
      refine J_iconst (v := 0) 62 dX6_shivers_62 rfl ?_
      refine J_istore (lv' := [some (.ref o), some (.int (nI h)), some (.int (nI i)), some (.int 1), some (.int ((he i) + (te h))), some (.int 0), none]) 63 dX6_shivers_63 (by decide) rfl ?_
      refine J_iload 65 dX6_shivers_65 rfl ?_
      refine J_iload 67 dX6_shivers_67 rfl ?_
      refine J_if_eq (tgt := 81) 69 dX6_shivers_69 (by decide) (fun _ => ?_) (fun c_22_ => absurd c_22_ (by decide))
      refine J_iconst (v := 0) 81 dX6_shivers_81 rfl ?_
      refine J_iadd 82 dX6_shivers_82 ?_
      refine J_istore (lv' := [some (.ref o), some (.int (nI h)), some (.int (nI i)), some (.int 1), some (.int ((he i) + (te h))), some (.int 0), some (.int (((he i) + (te h)) + 0))]) 83 dX6_shivers_83 (by decide) rfl ?_
      refine J_aload_n 85 0 dX6_shivers_85 rfl rfl ?_
      refine J_iload_n 86 1 dX6_shivers_86 rfl rfl ?_
      refine J_iconst (v := 0) 87 dX6_shivers_87 rfl ?_
      refine kb_RX6_187 (bs' := [wMo o rw fr kp tr ik tp tm mso bg en wd va gd rs mu rm ss msz msh mho mhn mhz kd nb tn tc bo ip, wMr G rw la ns sd to he sw nh ki te mi ar z]) (rest := []) (st' := [.int (ki h)]) 88 (c_X6_its_0 l G h o rw fr kp tr ik tp tm mso bg en wd va gd rs mu rm ss msz msh mho mhn mhz kd nb tn tc bo ip la ns sd to he sw nh ki te mi ar z (by first | omega | assumption)) [0, 1] 0 rfl rfl rfl [[o], [rw]] rfl rfl rfl rfl rfl rfl (Nat.le_of_ble_eq_true rfl) rfl dX6_shivers_88 ?_
      by_cases e_23_ : (ki h) = 1
      · skip
        refine J_tableIn (tgt := 124) (off := 33) 91 1 dX6_shivers_91 e_23_ (by decide +kernel) (by decide) ?_
        refine J_iload 124 dX6_shivers_124 rfl ?_
        exact J_iret 126 dX6_shivers_126 (congrArg (fun x_ => some (Value.int x_)) (by simp [fShiv, fPlain, hasP, *] <;> grind)) rfl
      by_cases e_24_ : (ki h) = 2
      · skip
        refine J_tableIn (tgt := 132) (off := 41) 91 2 dX6_shivers_91 e_24_ (by decide +kernel) (by decide) ?_
        refine J_iload 132 dX6_shivers_132 rfl ?_
        refine J_iconst (v := 2) 134 dX6_shivers_134 rfl ?_
        refine J_isub 135 dX6_shivers_135 ?_
        exact J_iret 136 dX6_shivers_136 (congrArg (fun x_ => some (Value.int x_)) (by simp [fShiv, fPlain, hasP, *] <;> grind)) rfl
      by_cases e_25_ : (ki h) = 3
      · skip
        refine J_tableIn (tgt := 127) (off := 36) 91 3 dX6_shivers_91 e_25_ (by decide +kernel) (by decide) ?_
        refine J_iconst (v := 2) 127 dX6_shivers_127 rfl ?_
        refine J_iload 128 dX6_shivers_128 rfl ?_
        refine J_imul 130 dX6_shivers_130 ?_
        exact J_iret 131 dX6_shivers_131 (congrArg (fun x_ => some (Value.int x_)) (by simp [fShiv, fPlain, hasP, *] <;> grind)) rfl
      by_cases e_26_ : (ki h) = 4
      · skip
        refine J_tableIn (tgt := 137) (off := 46) 91 4 dX6_shivers_91 e_26_ (by decide +kernel) (by decide) ?_
        refine J_iload 137 dX6_shivers_137 rfl ?_
        refine J_if_eq (tgt := 149) 139 dX6_shivers_139 (by decide) (fun _ => ?_) (fun c_27_ => absurd c_27_ (by decide))
        refine J_iload 149 dX6_shivers_149 rfl ?_
        refine J_bipush (v := 7) 151 dX6_shivers_151 rfl ?_
        refine J_iadd 153 dX6_shivers_153 ?_
        exact J_iret 154 dX6_shivers_154 (congrArg (fun x_ => some (Value.int x_)) (by simp [fShiv, fPlain, hasP, *] <;> grind)) rfl
      by_cases e_28_ : (ki h) = 5
      · skip
        refine J_tableIn (tgt := 155) (off := 64) 91 5 dX6_shivers_91 e_28_ (by decide +kernel) (by decide) ?_
        refine J_iload_n 155 2 dX6_shivers_155 rfl rfl ?_
        refine J_iconst (v := 2) 156 dX6_shivers_156 rfl ?_
        refine J_irem 157 dX6_shivers_157 (by decide) ?_
        refine J_if_ne (tgt := 166) 158 dX6_shivers_158 (by decide) (fun c_29_ => ?_) (fun c_29_ => ?_)
        · skip
          refine J_iconst (v := 0) 166 dX6_shivers_166 rfl ?_
          exact J_iret 167 dX6_shivers_167 (congrArg (fun x_ => some (Value.int x_)) (by simp [fShiv, fPlain, hasP, *] <;> grind)) rfl
        · skip
          refine J_iload 161 dX6_shivers_161 rfl ?_
          refine J_goto (tgt := 167) 163 dX6_shivers_163 (by decide) ?_
          exact J_iret 167 dX6_shivers_167 (congrArg (fun x_ => some (Value.int x_)) (by simp [fShiv, fPlain, hasP, *] <;> grind)) rfl
      refine J_tableOut (tgt := 168) 91 dX6_shivers_91 (by have q0_ := lv_neT (a := 1) e_23_ (by decide); have q1_ := lv_neT (a := 2) e_24_ (by decide); have q2_ := lv_neT (a := 3) e_25_ (by decide); have q3_ := lv_neT (a := 4) e_26_ (by decide); have q4_ := lv_neT (a := 5) e_28_ (by decide); omega) (by decide) ?_
      refine J_iload 168 dX6_shivers_168 rfl ?_
      exact J_iret 170 dX6_shivers_170 (congrArg (fun x_ => some (Value.int x_)) (by simp [fShiv, fPlain, hasP, *] <;> grind)) rfl
    · skip
      refine J_iconst (v := 1) 58 dX6_shivers_58 rfl ?_
      refine J_goto (tgt := 63) 59 dX6_shivers_59 (by decide) ?_
      refine J_istore (lv' := [some (.ref o), some (.int (nI h)), some (.int (nI i)), some (.int 1), some (.int ((he i) + (te h))), some (.int 1), none]) 63 dX6_shivers_63 (by decide) rfl ?_
      refine J_iload 65 dX6_shivers_65 rfl ?_
      refine J_iload 67 dX6_shivers_67 rfl ?_
      refine J_if_eq (tgt := 81) 69 dX6_shivers_69 (by decide) (fun c_30_ => absurd c_30_ (by decide)) (fun _ => ?_)
      refine J_aload_n 72 0 dX6_shivers_72 rfl rfl ?_
      refine g_789 (v := .ref rw) 73 0 rfl rfl dX6_shivers_73 ?_
      refine J_iconst (v := 1) 76 dX6_shivers_76 rfl ?_
      refine J_iald 77 1 1 rfl rfl (by omega) (by decide) dX6_shivers_77 ?_
      refine J_topi (y := la 1) 78 (fR_la (j := 1) (by first | rfl | omega) (by omega)) ?_
      refine J_goto (tgt := 82) 78 dX6_shivers_78 (by decide) ?_
      refine J_iadd 82 dX6_shivers_82 ?_
      refine J_istore (lv' := [some (.ref o), some (.int (nI h)), some (.int (nI i)), some (.int 1), some (.int ((he i) + (te h))), some (.int 1), some (.int (((he i) + (te h)) + (la 1)))]) 83 dX6_shivers_83 (by decide) rfl ?_
      refine J_aload_n 85 0 dX6_shivers_85 rfl rfl ?_
      refine J_iload_n 86 1 dX6_shivers_86 rfl rfl ?_
      refine J_iconst (v := 0) 87 dX6_shivers_87 rfl ?_
      refine kb_RX6_187 (bs' := [wMo o rw fr kp tr ik tp tm mso bg en wd va gd rs mu rm ss msz msh mho mhn mhz kd nb tn tc bo ip, wMr G rw la ns sd to he sw nh ki te mi ar z]) (rest := []) (st' := [.int (ki h)]) 88 (c_X6_its_0 l G h o rw fr kp tr ik tp tm mso bg en wd va gd rs mu rm ss msz msh mho mhn mhz kd nb tn tc bo ip la ns sd to he sw nh ki te mi ar z (by first | omega | assumption)) [0, 1] 0 rfl rfl rfl [[o], [rw]] rfl rfl rfl rfl rfl rfl (Nat.le_of_ble_eq_true rfl) rfl dX6_shivers_88 ?_
      by_cases e_31_ : (ki h) = 1
      · skip
        refine J_tableIn (tgt := 124) (off := 33) 91 1 dX6_shivers_91 e_31_ (by decide +kernel) (by decide) ?_
        refine J_iload 124 dX6_shivers_124 rfl ?_
        exact J_iret 126 dX6_shivers_126 (congrArg (fun x_ => some (Value.int x_)) (by simp [fShiv, fPlain, hasP, *] <;> grind)) rfl
      by_cases e_32_ : (ki h) = 2
      · skip
        refine J_tableIn (tgt := 132) (off := 41) 91 2 dX6_shivers_91 e_32_ (by decide +kernel) (by decide) ?_
        refine J_iload 132 dX6_shivers_132 rfl ?_
        refine J_iconst (v := 2) 134 dX6_shivers_134 rfl ?_
        refine J_isub 135 dX6_shivers_135 ?_
        exact J_iret 136 dX6_shivers_136 (congrArg (fun x_ => some (Value.int x_)) (by simp [fShiv, fPlain, hasP, *] <;> grind)) rfl
      by_cases e_33_ : (ki h) = 3
      · skip
        refine J_tableIn (tgt := 127) (off := 36) 91 3 dX6_shivers_91 e_33_ (by decide +kernel) (by decide) ?_
        refine J_iconst (v := 2) 127 dX6_shivers_127 rfl ?_
        refine J_iload 128 dX6_shivers_128 rfl ?_
        refine J_imul 130 dX6_shivers_130 ?_
        exact J_iret 131 dX6_shivers_131 (congrArg (fun x_ => some (Value.int x_)) (by simp [fShiv, fPlain, hasP, *] <;> grind)) rfl
      by_cases e_34_ : (ki h) = 4
      · skip
        refine J_tableIn (tgt := 137) (off := 46) 91 4 dX6_shivers_91 e_34_ (by decide +kernel) (by decide) ?_
        refine J_iload 137 dX6_shivers_137 rfl ?_
        refine J_if_eq (tgt := 149) 139 dX6_shivers_139 (by decide) (fun c_35_ => absurd c_35_ (by decide)) (fun _ => ?_)
        refine J_iload 142 dX6_shivers_142 rfl ?_
        refine J_iconst (v := 2) 144 dX6_shivers_144 rfl ?_
        refine J_isub 145 dX6_shivers_145 ?_
        refine J_goto (tgt := 154) 146 dX6_shivers_146 (by decide) ?_
        exact J_iret 154 dX6_shivers_154 (congrArg (fun x_ => some (Value.int x_)) (by simp [fShiv, fPlain, hasP, *] <;> grind)) rfl
      by_cases e_36_ : (ki h) = 5
      · skip
        refine J_tableIn (tgt := 155) (off := 64) 91 5 dX6_shivers_91 e_36_ (by decide +kernel) (by decide) ?_
        refine J_iload_n 155 2 dX6_shivers_155 rfl rfl ?_
        refine J_iconst (v := 2) 156 dX6_shivers_156 rfl ?_
        refine J_irem 157 dX6_shivers_157 (by decide) ?_
        refine J_if_ne (tgt := 166) 158 dX6_shivers_158 (by decide) (fun c_37_ => ?_) (fun c_37_ => ?_)
        · skip
          refine J_iconst (v := 0) 166 dX6_shivers_166 rfl ?_
          exact J_iret 167 dX6_shivers_167 (congrArg (fun x_ => some (Value.int x_)) (by simp [fShiv, fPlain, hasP, *] <;> grind)) rfl
        · skip
          refine J_iload 161 dX6_shivers_161 rfl ?_
          refine J_goto (tgt := 167) 163 dX6_shivers_163 (by decide) ?_
          exact J_iret 167 dX6_shivers_167 (congrArg (fun x_ => some (Value.int x_)) (by simp [fShiv, fPlain, hasP, *] <;> grind)) rfl
      refine J_tableOut (tgt := 168) 91 dX6_shivers_91 (by have q0_ := lv_neT (a := 1) e_31_ (by decide); have q1_ := lv_neT (a := 2) e_32_ (by decide); have q2_ := lv_neT (a := 3) e_33_ (by decide); have q3_ := lv_neT (a := 4) e_34_ (by decide); have q4_ := lv_neT (a := 5) e_36_ (by decide); omega) (by decide) ?_
      refine J_iload 168 dX6_shivers_168 rfl ?_
      exact J_iret 170 dX6_shivers_170 (congrArg (fun x_ => some (Value.int x_)) (by simp [fShiv, fPlain, hasP, *] <;> grind)) rfl
set_option maxRecDepth 100000 in
set_option maxHeartbeats 4000000 in
theorem c_X6_needs (l : Launch) (G : Gd) (h : Nat) (o : Nat) (rw : Nat) (fr : Nat) (kp : Nat) (tr : Nat) (ik : Int32) (tp : Nat) (tm : Nat) (mso : Int32) (bg : Nat) (en : Nat) (wd : Int64) (va : Int32) (gd : Int32) (rs : Nat) (mu : Nat) (rm : Nat) (ss : Nat) (msz : Nat) (msh : Nat) (mho : Nat) (mhn : Nat) (mhz : Nat) (kd : Int32) (nb : Int32) (tn : Int32) (tc : Nat) (bo : Nat) (ip : Int32) (la : Nat → Int32) (ns : Nat) (sd : Nat) (to : Nat → Int32) (he : Nat → Int32) (sw : Nat → Int32) (nh : Nat) (ki : Nat → Int32) (te : Nat → Int32) (mi : Nat → Int32) (ar : Nat → Int32) (z : Int32) (hh : h < 8) : Ct l G yX6_needs cX6_needs 3 (some (FieldType.int)) 1 [.ref o, .int (nI h)] (wF [wMo o rw fr kp tr ik tp tm mso bg en wd va gd rs mu rm ss msz msh mho mhn mhz kd nb tn tc bo ip, wMr G rw la ns sd to he sw nh ki te mi ar z]) (some (.int (fNeeds (ki h) (te h) (la 0)))) (wF [wMo o rw fr kp tr ik tp tm mso bg en wd va gd rs mu rm ss msz msh mho mhn mhz kd nb tn tc bo ip, wMr G rw la ns sd to he sw nh ki te mi ar z]) := by
  refine Ct.of "GooseArmsModel" [some (.ref o), some (.int (nI h)), none] (by decide +kernel) rfl (Nat.le_of_ble_eq_true rfl) rfl ?_
  refine J_bipush (v := 6) 0 dX6_needs_0 rfl ?_
  refine J_aload_n 2 0 dX6_needs_2 rfl rfl ?_
  refine g_789 (v := .ref rw) 3 0 rfl rfl dX6_needs_3 ?_
  refine J_iconst (v := 0) 6 dX6_needs_6 rfl ?_
  refine J_iald 7 1 0 rfl rfl (by omega) (by decide) dX6_needs_7 ?_
  refine J_topi (y := la 0) 8 (fR_la (j := 0) (by first | rfl | omega) (by omega)) ?_
  refine J_iadd 8 dX6_needs_8 ?_
  refine J_istore_n (lv' := [some (.ref o), some (.int (nI h)), some (.int (6 + (la 0)))]) 9 2 dX6_needs_9 rfl (by decide) rfl ?_
  refine J_aload_n 10 0 dX6_needs_10 rfl rfl ?_
  refine J_iload_n 11 1 dX6_needs_11 rfl rfl ?_
  refine J_iconst (v := 0) 12 dX6_needs_12 rfl ?_
  refine kb_RX6_187 (bs' := [wMo o rw fr kp tr ik tp tm mso bg en wd va gd rs mu rm ss msz msh mho mhn mhz kd nb tn tc bo ip, wMr G rw la ns sd to he sw nh ki te mi ar z]) (rest := []) (st' := [.int (ki h)]) 13 (c_X6_its_0 l G h o rw fr kp tr ik tp tm mso bg en wd va gd rs mu rm ss msz msh mho mhn mhz kd nb tn tc bo ip la ns sd to he sw nh ki te mi ar z (by first | omega | assumption)) [0, 1] 0 rfl rfl rfl [[o], [rw]] rfl rfl rfl rfl rfl rfl (Nat.le_of_ble_eq_true rfl) rfl dX6_needs_13 ?_
  by_cases e_1_ : (ki h) = 1
  · skip
    refine J_tableIn (tgt := 52) (off := 36) 16 1 dX6_needs_16 e_1_ (by decide +kernel) (by decide) ?_
    refine J_iload_n 52 2 dX6_needs_52 rfl rfl ?_
    refine J_iconst (v := 2) 53 dX6_needs_53 rfl ?_
    refine J_iadd 54 dX6_needs_54 ?_
    exact J_iret 55 dX6_needs_55 (congrArg (fun x_ => some (Value.int x_)) (by simp [fNeeds, *] <;> grind)) rfl
  by_cases e_2_ : (ki h) = 2
  · skip
    refine J_tableIn (tgt := 70) (off := 54) 16 2 dX6_needs_16 e_2_ (by decide +kernel) (by decide) ?_
    refine J_iload_n 70 2 dX6_needs_70 rfl rfl ?_
    refine J_iconst (v := 3) 71 dX6_needs_71 rfl ?_
    refine J_isub 72 dX6_needs_72 ?_
    exact J_iret 73 dX6_needs_73 (congrArg (fun x_ => some (Value.int x_)) (by simp [fNeeds, *] <;> grind)) rfl
  by_cases e_3_ : (ki h) = 3
  · skip
    refine J_tableIn (tgt := 56) (off := 40) 16 3 dX6_needs_16 e_3_ (by decide +kernel) (by decide) ?_
    refine J_iload_n 56 2 dX6_needs_56 rfl rfl ?_
    refine J_iconst (v := 2) 57 dX6_needs_57 rfl ?_
    refine J_iadd 58 dX6_needs_58 ?_
    refine J_aload_n 59 0 dX6_needs_59 rfl rfl ?_
    refine J_iload_n 60 1 dX6_needs_60 rfl rfl ?_
    refine J_iconst (v := 1) 61 dX6_needs_61 rfl ?_
    refine kb_RX6_187 (bs' := [wMo o rw fr kp tr ik tp tm mso bg en wd va gd rs mu rm ss msz msh mho mhn mhz kd nb tn tc bo ip, wMr G rw la ns sd to he sw nh ki te mi ar z]) (rest := [.int ((6 + (la 0)) + 2)]) (st' := [.int (te h), .int ((6 + (la 0)) + 2)]) 62 (c_X6_its_1 l G h o rw fr kp tr ik tp tm mso bg en wd va gd rs mu rm ss msz msh mho mhn mhz kd nb tn tc bo ip la ns sd to he sw nh ki te mi ar z (by first | omega | assumption)) [0, 1] 0 rfl rfl rfl [[o], [rw]] rfl rfl rfl rfl rfl rfl (Nat.le_of_ble_eq_true rfl) rfl dX6_needs_62 ?_
    refine J_bipush (v := 10) 65 dX6_needs_65 rfl ?_
    refine J_idiv 67 dX6_needs_67 (by decide) ?_
    refine J_iadd 68 dX6_needs_68 ?_
    exact J_iret 69 dX6_needs_69 (congrArg (fun x_ => some (Value.int x_)) (by simp [fNeeds, *] <;> grind)) rfl
  by_cases e_4_ : (ki h) = 4
  · skip
    refine J_tableIn (tgt := 74) (off := 58) 16 4 dX6_needs_16 e_4_ (by decide +kernel) (by decide) ?_
    refine J_iconst (v := 3) 74 dX6_needs_74 rfl ?_
    exact J_iret 75 dX6_needs_75 (congrArg (fun x_ => some (Value.int x_)) (by simp [fNeeds, *] <;> grind)) rfl
  by_cases e_5_ : (ki h) = 5
  · skip
    refine J_tableIn (tgt := 76) (off := 60) 16 5 dX6_needs_16 e_5_ (by decide +kernel) (by decide) ?_
    refine J_iconst (v := 2) 76 dX6_needs_76 rfl ?_
    refine J_iload_n 77 2 dX6_needs_77 rfl rfl ?_
    refine J_imul 78 dX6_needs_78 ?_
    exact J_iret 79 dX6_needs_79 (congrArg (fun x_ => some (Value.int x_)) (by simp [fNeeds, *] <;> grind)) rfl
  refine J_tableOut (tgt := 80) 16 dX6_needs_16 (by have q0_ := lv_neT (a := 1) e_1_ (by decide); have q1_ := lv_neT (a := 2) e_2_ (by decide); have q2_ := lv_neT (a := 3) e_3_ (by decide); have q3_ := lv_neT (a := 4) e_4_ (by decide); have q4_ := lv_neT (a := 5) e_5_ (by decide); omega) (by decide) ?_
  refine J_iload_n 80 2 dX6_needs_80 rfl rfl ?_
  exact J_iret 81 dX6_needs_81 (congrArg (fun x_ => some (Value.int x_)) (by simp [fNeeds, *] <;> grind)) rfl
set_option maxRecDepth 100000 in
set_option maxHeartbeats 4000000 in
theorem c_X6_wears (l : Launch) (G : Gd) (h : Nat) (o : Nat) (rw : Nat) (fr : Nat) (kp : Nat) (tr : Nat) (ik : Int32) (tp : Nat) (tm : Nat) (mso : Int32) (bg : Nat) (en : Nat) (wd : Int64) (va : Int32) (gd : Int32) (rs : Nat) (mu : Nat) (rm : Nat) (ss : Nat) (msz : Nat) (msh : Nat) (mho : Nat) (mhn : Nat) (mhz : Nat) (kd : Int32) (nb : Int32) (tn : Int32) (tc : Nat) (bo : Nat) (ip : Int32) (la : Nat → Int32) (ns : Nat) (sd : Nat) (to : Nat → Int32) (he : Nat → Int32) (sw : Nat → Int32) (nh : Nat) (ki : Nat → Int32) (te : Nat → Int32) (mi : Nat → Int32) (ar : Nat → Int32) (z : Int32) (hh : h < 8) : Ct l G yX6_wears cX6_wears 2 (some (FieldType.int)) 1 [.ref o, .int (nI h)] (wF [wMo o rw fr kp tr ik tp tm mso bg en wd va gd rs mu rm ss msz msh mho mhn mhz kd nb tn tc bo ip, wMr G rw la ns sd to he sw nh ki te mi ar z]) (some (.int (fWears (ki h) (la 2)))) (wF [wMo o rw fr kp tr ik tp tm mso bg en wd va gd rs mu rm ss msz msh mho mhn mhz kd nb tn tc bo ip, wMr G rw la ns sd to he sw nh ki te mi ar z]) := by
  refine Ct.of "GooseArmsModel" [some (.ref o), some (.int (nI h))] (by decide +kernel) rfl (Nat.le_of_ble_eq_true rfl) rfl ?_
  refine J_aload_n 0 0 dX6_wears_0 rfl rfl ?_
  refine J_iload_n 1 1 dX6_wears_1 rfl rfl ?_
  refine J_iconst (v := 0) 2 dX6_wears_2 rfl ?_
  refine kb_RX6_187 (bs' := [wMo o rw fr kp tr ik tp tm mso bg en wd va gd rs mu rm ss msz msh mho mhn mhz kd nb tn tc bo ip, wMr G rw la ns sd to he sw nh ki te mi ar z]) (rest := []) (st' := [.int (ki h)]) 3 (c_X6_its_0 l G h o rw fr kp tr ik tp tm mso bg en wd va gd rs mu rm ss msz msh mho mhn mhz kd nb tn tc bo ip la ns sd to he sw nh ki te mi ar z (by first | omega | assumption)) [0, 1] 0 rfl rfl rfl [[o], [rw]] rfl rfl rfl rfl rfl rfl (Nat.le_of_ble_eq_true rfl) rfl dX6_wears_3 ?_
  by_cases e_1_ : (ki h) = 2
  · skip
    refine J_tableIn (tgt := 45) (off := 39) 6 2 dX6_wears_6 e_1_ (by decide +kernel) (by decide) ?_
    refine J_aload_n 45 0 dX6_wears_45 rfl rfl ?_
    refine g_789 (v := .ref rw) 46 0 rfl rfl dX6_wears_46 ?_
    refine J_iconst (v := 2) 49 dX6_wears_49 rfl ?_
    refine J_iald 50 1 2 rfl rfl (by omega) (by decide) dX6_wears_50 ?_
    refine J_topi (y := la 2) 51 (fR_la (j := 2) (by first | rfl | omega) (by omega)) ?_
    refine J_iconst (v := 2) 51 dX6_wears_51 rfl ?_
    refine J_isub 52 dX6_wears_52 ?_
    exact J_iret 53 dX6_wears_53 (congrArg (fun x_ => some (Value.int x_)) (by simp [fWears, *] <;> grind)) rfl
  by_cases e_2_ : (ki h) = 3
  · skip
    refine J_tableIn (tgt := 36) (off := 30) 6 3 dX6_wears_6 e_2_ (by decide +kernel) (by decide) ?_
    refine J_iconst (v := 2) 36 dX6_wears_36 rfl ?_
    refine J_aload_n 37 0 dX6_wears_37 rfl rfl ?_
    refine g_789 (v := .ref rw) 38 0 rfl rfl dX6_wears_38 ?_
    refine J_iconst (v := 2) 41 dX6_wears_41 rfl ?_
    refine J_iald 42 1 2 rfl rfl (by omega) (by decide) dX6_wears_42 ?_
    refine J_topi (y := la 2) 43 (fR_la (j := 2) (by first | rfl | omega) (by omega)) ?_
    refine J_imul 43 dX6_wears_43 ?_
    exact J_iret 44 dX6_wears_44 (congrArg (fun x_ => some (Value.int x_)) (by simp [fWears, *] <;> grind)) rfl
  by_cases e_3_ : (ki h) = 4
  · skip
    refine J_tableIn (tgt := 54) (off := 48) 6 4 dX6_wears_6 e_3_ (by decide +kernel) (by decide) ?_
    refine J_aload_n 54 0 dX6_wears_54 rfl rfl ?_
    refine g_789 (v := .ref rw) 55 0 rfl rfl dX6_wears_55 ?_
    refine J_iconst (v := 2) 58 dX6_wears_58 rfl ?_
    refine J_iald 59 1 2 rfl rfl (by omega) (by decide) dX6_wears_59 ?_
    refine J_topi (y := la 2) 60 (fR_la (j := 2) (by first | rfl | omega) (by omega)) ?_
    refine J_iconst (v := 3) 60 dX6_wears_60 rfl ?_
    refine J_isub 61 dX6_wears_61 ?_
    exact J_iret 62 dX6_wears_62 (congrArg (fun x_ => some (Value.int x_)) (by simp [fWears, *] <;> grind)) rfl
  by_cases e_4_ : (ki h) = 5
  · skip
    refine J_tableIn (tgt := 63) (off := 57) 6 5 dX6_wears_6 e_4_ (by decide +kernel) (by decide) ?_
    refine J_iconst (v := 0) 63 dX6_wears_63 rfl ?_
    exact J_iret 64 dX6_wears_64 (congrArg (fun x_ => some (Value.int x_)) (by simp [fWears, *] <;> grind)) rfl
  refine J_tableOut (tgt := 65) 6 dX6_wears_6 (by have q0_ := lv_neT (a := 2) e_1_ (by decide); have q1_ := lv_neT (a := 3) e_2_ (by decide); have q2_ := lv_neT (a := 4) e_3_ (by decide); have q3_ := lv_neT (a := 5) e_4_ (by decide); omega) (by decide) ?_
  refine J_aload_n 65 0 dX6_wears_65 rfl rfl ?_
  refine g_789 (v := .ref rw) 66 0 rfl rfl dX6_wears_66 ?_
  refine J_iconst (v := 2) 69 dX6_wears_69 rfl ?_
  refine J_iald 70 1 2 rfl rfl (by omega) (by decide) dX6_wears_70 ?_
  refine J_topi (y := la 2) 71 (fR_la (j := 2) (by first | rfl | omega) (by omega)) ?_
  exact J_iret 71 dX6_wears_71 (congrArg (fun x_ => some (Value.int x_)) (by simp [fWears, *] <;> grind)) rfl
set_option maxRecDepth 100000 in
set_option maxHeartbeats 4000000 in
theorem c_X6_isSaid (l : Launch) (G : Gd) (c : Int32) (o : Nat) (rw : Nat) (fr : Nat) (kp : Nat) (tr : Nat) (ik : Int32) (tp : Nat) (tm : Nat) (mso : Int32) (bg : Nat) (en : Nat) (wd : Int64) (va : Int32) (gd : Int32) (rs : Nat) (mu : Nat) (rm : Nat) (ss : Nat) (msz : Nat) (msh : Nat) (mho : Nat) (mhn : Nat) (mhz : Nat) (kd : Int32) (nb : Int32) (tn : Int32) (tc : Nat) (bo : Nat) (ip : Int32) (la : Nat → Int32) (ns : Nat) (sd : Nat) (to : Nat → Int32) (he : Nat → Int32) (sw : Nat → Int32) (nh : Nat) (ki : Nat → Int32) (te : Nat → Int32) (mi : Nat → Int32) (ar : Nat → Int32) (z : Int32) (hnh : nh ≤ 8) (hns : ns ≤ 12) (hsd : sd < ns) : Ct l G yX6_isSaid cX6_isSaid 4 (some (FieldType.int)) 2 [.ref o, .int c] (wF [wMo o rw fr kp tr ik tp tm mso bg en wd va gd rs mu rm ss msz msh mho mhn mhz kd nb tn tc bo ip, wMr G rw la ns sd to he sw nh ki te mi ar z]) (some (.int (fMask (fun h_ => nI h_ = c ∨ fUp la ki mi te to he sw sd h_) nh))) (wF [wMo o rw fr kp tr ik tp tm mso bg en wd va gd rs mu rm ss msz msh mho mhn mhz kd nb tn tc bo ip, wMr G rw la ns (sd + 1) to he sw nh ki (fSel (fun h_ => h_ < nh ∧ (fun h_ => nI h_ = c ∨ fUp la ki mi te to he sw sd h_) h_) (fun h_ => heldI (te h_ - fWears (ki h_) (la 2))) te) mi (fSel (fun h_ => h_ < nh ∧ (fun h_ => nI h_ = c ∨ fUp la ki mi te to he sw sd h_) h_) (fun h_ => ar h_ ||| onlyI (nI sd)) ar) z]) := by
  refine Ct.of "GooseArmsModel" [some (.ref o), some (.int c), none, none] (by decide +kernel) rfl (Nat.le_of_ble_eq_true rfl) rfl ?_
  have cut_4_ : ∀ (n_4_ : Nat) (k : Nat) (x : Int32) (te1 : Nat → Int32) (ar1 : Nat → Int32), (nh - k < n_4_) → (hk : k ≤ nh) → (hx : x = fMask (fun h_ => nI h_ = c ∨ fUp la ki mi te to he sw sd h_) k) → (hte : te1 = fSel (fun h_ => h_ < k ∧ (fun h_ => nI h_ = c ∨ fUp la ki mi te to he sw sd h_) h_) (fun h_ => heldI (te h_ - fWears (ki h_) (la 2))) te) → (har : ar1 = fSel (fun h_ => h_ < k ∧ (fun h_ => nI h_ = c ∨ fUp la ki mi te to he sw sd h_) h_) (fun h_ => ar h_ ||| onlyI (nI sd)) ar) → J l G (bd G 2 (some (FieldType.int)) (some (.int (fMask (fun h_ => nI h_ = c ∨ fUp la ki mi te to he sw sd h_) nh))) (wF [wMo o rw fr kp tr ik tp tm mso bg en wd va gd rs mu rm ss msz msh mho mhn mhz kd nb tn tc bo ip, wMr G rw la ns (sd + 1) to he sw nh ki (fSel (fun h_ => h_ < nh ∧ (fun h_ => nI h_ = c ∨ fUp la ki mi te to he sw sd h_) h_) (fun h_ => heldI (te h_ - fWears (ki h_) (la 2))) te) mi (fSel (fun h_ => h_ < nh ∧ (fun h_ => nI h_ = c ∨ fUp la ki mi te to he sw sd h_) h_) (fun h_ => ar h_ ||| onlyI (nI sd)) ar) z])) cX6_isSaid 4 "GooseArmsModel" 4 [some (.ref o), some (.int c), some (.int x), some (.int (nI k))] [] (wF [wMo o rw fr kp tr ik tp tm mso bg en wd va gd rs mu rm ss msz msh mho mhn mhz kd nb tn tc bo ip, wMr G rw la ns sd to he sw nh ki te1 mi ar1 z]) := by
    intro n_4_
    induction n_4_ with
    | zero => intro k x te1 ar1 m_4_; exact absurd m_4_ (Nat.not_lt_zero _)
    | succ n_4_ ih_4_ =>
      intro k x te1 ar1 m_4_ hk hx hte har
      refine J_iload_n 4 3 dX6_isSaid_4 rfl rfl ?_
      refine J_aload_n 5 0 dX6_isSaid_5 rfl rfl ?_
      refine g_789 (v := .ref rw) 6 0 rfl rfl dX6_isSaid_6 ?_
      refine J_bipush (v := 6) 9 dX6_isSaid_9 rfl ?_
      refine J_iald 11 1 6 rfl rfl (by omega) (by decide) dX6_isSaid_11 ?_
      refine J_topi (y := nI nh) 12 (fR_nh rfl) ?_
      refine J_icmp_ge (tgt := 96) 12 dX6_isSaid_12 (by decide) (fun c_1_ => ?_) (fun c_1_ => ?_)
      · skip
        have c_1_ : nh ≤ k := (nI_leI (a := nh) (b := k) (by omega) (by omega)).mp c_1_
        refine J_aload_n 96 0 dX6_isSaid_96 rfl rfl ?_
        refine g_789 (v := .ref rw) 97 0 rfl rfl dX6_isSaid_97 ?_
        refine J_iconst (v := 4) 100 dX6_isSaid_100 rfl ?_
        refine J_dup2 101 dX6_isSaid_101 rfl rfl ?_
        refine J_iald 102 1 4 rfl rfl (by omega) (by decide) dX6_isSaid_102 ?_
        refine J_topi (y := nI sd) 103 (fR_sd rfl) ?_
        refine J_iconst (v := 1) 103 dX6_isSaid_103 rfl ?_
        refine J_iadd 104 dX6_isSaid_104 ?_
        refine J_topi (y := nI (sd + 1)) 105 (nI_add sd 1) ?_
        refine J_iast (ws' := (wF [wMo o rw fr kp tr ik tp tm mso bg en wd va gd rs mu rm ss msz msh mho mhn mhz kd nb tn tc bo ip, wI G rw 76 (upd (fRow la ns sd to he sw nh ki te1 mi ar1 z) 4 (nI (sd + 1)))])) 105 1 4 rfl rfl (by omega) (by decide) rfl dX6_isSaid_105 ?_
        refine J_ws (ws' := (wF [wMo o rw fr kp tr ik tp tm mso bg en wd va gd rs mu rm ss msz msh mho mhn mhz kd nb tn tc bo ip, wMr G rw la ns (sd + 1) to he sw nh ki te1 mi ar1 z])) 106 (congrArg (fun x_ => (wF [wMo o rw fr kp tr ik tp tm mso bg en wd va gd rs mu rm ss msz msh mho mhn mhz kd nb tn tc bo ip, wI G rw 76 x_])) (fU_sd rfl)) ?_
        refine J_iload_n 106 2 dX6_isSaid_106 rfl rfl ?_
        exact J_iret 107 dX6_isSaid_107 (congrArg (fun x_ => some (Value.int x_)) (by rw [hx, show k = nh by omega])) (cg2 (fun (x0_ : Nat → Int32) (x1_ : Nat → Int32) => (wF [wMo o rw fr kp tr ik tp tm mso bg en wd va gd rs mu rm ss msz msh mho mhn mhz kd nb tn tc bo ip, wMr G rw la ns (sd + 1) to he sw nh ki x0_ mi x1_ z])) te1 (fSel (fun h_ => h_ < nh ∧ (fun h_ => nI h_ = c ∨ fUp la ki mi te to he sw sd h_) h_) (fun h_ => heldI (te h_ - fWears (ki h_) (la 2))) te) ar1 (fSel (fun h_ => h_ < nh ∧ (fun h_ => nI h_ = c ∨ fUp la ki mi te to he sw sd h_) h_) (fun h_ => ar h_ ||| onlyI (nI sd)) ar) (by rw [hte, show k = nh by omega]) (by rw [har, show k = nh by omega]))
      · skip
        have c_1_ : ¬ nh ≤ k := fun z_ => c_1_ ((nI_leI (a := nh) (b := k) (by omega) (by omega)).mpr z_)
        refine J_iload_n 15 3 dX6_isSaid_15 rfl rfl ?_
        refine J_iload_n 16 1 dX6_isSaid_16 rfl rfl ?_
        refine J_icmp_eq (tgt := 39) 17 dX6_isSaid_17 (by decide) (fun c_2_ => ?_) (fun c_2_ => ?_)
        · skip
          have hq_ : (fun h_ => nI h_ = c ∨ fUp la ki mi te to he sw sd h_) k := Or.inl c_2_
          refine J_iload_n 39 2 dX6_isSaid_39 rfl rfl ?_
          refine J_iconst (v := 1) 40 dX6_isSaid_40 rfl ?_
          refine J_iload_n 41 3 dX6_isSaid_41 rfl rfl ?_
          refine J_ishl 42 dX6_isSaid_42 ?_
          refine J_ior 43 dX6_isSaid_43 ?_
          refine J_istore_n (lv' := [some (.ref o), some (.int c), some (.int (x ||| (1 <<< ((nI k) &&& 31)))), some (.int (nI k))]) 44 2 dX6_isSaid_44 rfl (by decide) rfl ?_
          refine J_aload_n 45 0 dX6_isSaid_45 rfl rfl ?_
          refine J_iload_n 46 3 dX6_isSaid_46 rfl rfl ?_
          refine J_iconst (v := 3) 47 dX6_isSaid_47 rfl ?_
          refine J_aload_n 48 0 dX6_isSaid_48 rfl rfl ?_
          refine J_iload_n 49 3 dX6_isSaid_49 rfl rfl ?_
          refine J_iconst (v := 3) 50 dX6_isSaid_50 rfl ?_
          refine kb_RX6_187 (bs' := [wMo o rw fr kp tr ik tp tm mso bg en wd va gd rs mu rm ss msz msh mho mhn mhz kd nb tn tc bo ip, wMr G rw la ns sd to he sw nh ki te1 mi ar1 z]) (rest := [.int 3, .int (nI k), .ref o]) (st' := [.int (ar1 k), .int 3, .int (nI k), .ref o]) 51 (c_X6_its_3 l G k o rw fr kp tr ik tp tm mso bg en wd va gd rs mu rm ss msz msh mho mhn mhz kd nb tn tc bo ip la ns sd to he sw nh ki te1 mi ar1 z (by first | omega | assumption)) [0, 1] 0 rfl rfl rfl [[o], [rw]] rfl rfl rfl rfl rfl rfl (Nat.le_of_ble_eq_true rfl) rfl dX6_isSaid_51 ?_
          refine J_iconst (v := 1) 54 dX6_isSaid_54 rfl ?_
          refine J_aload_n 55 0 dX6_isSaid_55 rfl rfl ?_
          refine g_789 (v := .ref rw) 56 0 rfl rfl dX6_isSaid_56 ?_
          refine J_iconst (v := 4) 59 dX6_isSaid_59 rfl ?_
          refine J_iald 60 1 4 rfl rfl (by omega) (by decide) dX6_isSaid_60 ?_
          refine J_topi (y := nI sd) 61 (fR_sd rfl) ?_
          refine J_ishl 61 dX6_isSaid_61 ?_
          refine J_ior 62 dX6_isSaid_62 ?_
          refine kb_RX6_202 (bs' := [wMo o rw fr kp tr ik tp tm mso bg en wd va gd rs mu rm ss msz msh mho mhn mhz kd nb tn tc bo ip, wMr G rw la ns sd to he sw nh ki te1 mi (upd ar1 k ((ar1 k) ||| (1 <<< ((nI sd) &&& 31)))) z]) (rest := []) (st' := []) 63 (c_X6_sets_3 l G k ((ar1 k) ||| (1 <<< ((nI sd) &&& 31))) o rw fr kp tr ik tp tm mso bg en wd va gd rs mu rm ss msz msh mho mhn mhz kd nb tn tc bo ip la ns sd to he sw nh ki te1 mi ar1 z (by first | omega | assumption)) [0, 1] 0 rfl rfl rfl [[o], [rw]] rfl rfl rfl rfl rfl rfl (Nat.le_of_ble_eq_true rfl) rfl dX6_isSaid_63 ?_
          refine J_aload_n 66 0 dX6_isSaid_66 rfl rfl ?_
          refine J_iload_n 67 3 dX6_isSaid_67 rfl rfl ?_
          refine J_iconst (v := 1) 68 dX6_isSaid_68 rfl ?_
          refine J_aload_n 69 0 dX6_isSaid_69 rfl rfl ?_
          refine J_iload_n 70 3 dX6_isSaid_70 rfl rfl ?_
          refine J_iconst (v := 1) 71 dX6_isSaid_71 rfl ?_
          refine kb_RX6_187 (bs' := [wMo o rw fr kp tr ik tp tm mso bg en wd va gd rs mu rm ss msz msh mho mhn mhz kd nb tn tc bo ip, wMr G rw la ns sd to he sw nh ki te1 mi (upd ar1 k ((ar1 k) ||| (1 <<< ((nI sd) &&& 31)))) z]) (rest := [.int 1, .int (nI k), .ref o]) (st' := [.int (te1 k), .int 1, .int (nI k), .ref o]) 72 (c_X6_its_1 l G k o rw fr kp tr ik tp tm mso bg en wd va gd rs mu rm ss msz msh mho mhn mhz kd nb tn tc bo ip la ns sd to he sw nh ki te1 mi (upd ar1 k ((ar1 k) ||| (1 <<< ((nI sd) &&& 31)))) z (by first | omega | assumption)) [0, 1] 0 rfl rfl rfl [[o], [rw]] rfl rfl rfl rfl rfl rfl (Nat.le_of_ble_eq_true rfl) rfl dX6_isSaid_72 ?_
          refine J_aload_n 75 0 dX6_isSaid_75 rfl rfl ?_
          refine J_iload_n 76 3 dX6_isSaid_76 rfl rfl ?_
          refine kb_RX6_218 (bs' := [wMo o rw fr kp tr ik tp tm mso bg en wd va gd rs mu rm ss msz msh mho mhn mhz kd nb tn tc bo ip, wMr G rw la ns sd to he sw nh ki te1 mi (upd ar1 k ((ar1 k) ||| (1 <<< ((nI sd) &&& 31)))) z]) (rest := [.int (te1 k), .int 1, .int (nI k), .ref o]) (st' := [.int (fWears (ki k) (la 2)), .int (te1 k), .int 1, .int (nI k), .ref o]) 77 (c_X6_wears l G k o rw fr kp tr ik tp tm mso bg en wd va gd rs mu rm ss msz msh mho mhn mhz kd nb tn tc bo ip la ns sd to he sw nh ki te1 mi (upd ar1 k ((ar1 k) ||| (1 <<< ((nI sd) &&& 31)))) z (by first | omega | assumption)) [0, 1] 0 rfl rfl rfl [[o], [rw]] rfl rfl rfl rfl rfl rfl (Nat.le_of_ble_eq_true rfl) rfl dX6_isSaid_77 ?_
          refine J_isub 80 dX6_isSaid_80 ?_
          refine J_iconst (v := 0) 81 dX6_isSaid_81 rfl ?_
          refine J_bipush (v := 99) 82 dX6_isSaid_82 rfl ?_
          refine kb_RX6_221 (bs' := [wMo o rw fr kp tr ik tp tm mso bg en wd va gd rs mu rm ss msz msh mho mhn mhz kd nb tn tc bo ip, wMr G rw la ns sd to he sw nh ki te1 mi (upd ar1 k ((ar1 k) ||| (1 <<< ((nI sd) &&& 31)))) z]) (rest := [.int 1, .int (nI k), .ref o]) (st' := [.int (heldI ((te1 k) - (fWears (ki k) (la 2)))), .int 1, .int (nI k), .ref o]) 84 (c_X6_held_99 l G ((te1 k) - (fWears (ki k) (la 2))) ) [] rfl rfl [] rfl rfl rfl rfl rfl rfl (Nat.le_of_ble_eq_true rfl) rfl dX6_isSaid_84 ?_
          refine kb_RX6_202 (bs' := [wMo o rw fr kp tr ik tp tm mso bg en wd va gd rs mu rm ss msz msh mho mhn mhz kd nb tn tc bo ip, wMr G rw la ns sd to he sw nh ki (upd te1 k (heldI ((te1 k) - (fWears (ki k) (la 2))))) mi (upd ar1 k ((ar1 k) ||| (1 <<< ((nI sd) &&& 31)))) z]) (rest := []) (st' := []) 87 (c_X6_sets_1 l G k (heldI ((te1 k) - (fWears (ki k) (la 2)))) o rw fr kp tr ik tp tm mso bg en wd va gd rs mu rm ss msz msh mho mhn mhz kd nb tn tc bo ip la ns sd to he sw nh ki te1 mi (upd ar1 k ((ar1 k) ||| (1 <<< ((nI sd) &&& 31)))) z (by first | omega | assumption)) [0, 1] 0 rfl rfl rfl [[o], [rw]] rfl rfl rfl rfl rfl rfl (Nat.le_of_ble_eq_true rfl) rfl dX6_isSaid_87 ?_
          refine J_iinc (v := nI (k + 1)) (lv' := [some (.ref o), some (.int c), some (.int (x ||| (1 <<< ((nI k) &&& 31)))), some (.int (nI (k + 1)))]) 90 dX6_isSaid_90 rfl (nI_add _ 1) (by decide) rfl ?_
          refine J_goto (tgt := 4) 93 dX6_isSaid_93 (by decide) ?_
          exact ih_4_ (k + 1) (x ||| (1 <<< ((nI k) &&& 31))) (upd te1 k (heldI ((te1 k) - (fWears (ki k) (la 2))))) (upd ar1 k ((ar1 k) ||| (1 <<< ((nI sd) &&& 31)))) (by omega) (by first | assumption | omega | rfl) (by first | rfl | exact fMask_st hx hq_ | exact fMask_sf hx hn_) (by first | exact fSel_0 | exact fSel_st hte hq_ (congrArg (fun x_ => heldI (x_ - fWears (ki k) (la 2))) (fSel_at hte)) | exact fSel_sf hte hn_) (by first | exact fSel_0 | exact fSel_st har hq_ (congrArg (fun x_ => x_ ||| onlyI (nI sd)) (fSel_at har)) | exact fSel_sf har hn_)
        · skip
          refine J_aload_n 20 0 dX6_isSaid_20 rfl rfl ?_
          refine J_iload_n 21 3 dX6_isSaid_21 rfl rfl ?_
          refine J_aload_n 22 0 dX6_isSaid_22 rfl rfl ?_
          refine g_789 (v := .ref rw) 23 0 rfl rfl dX6_isSaid_23 ?_
          refine J_iconst (v := 4) 26 dX6_isSaid_26 rfl ?_
          refine J_iald 27 1 4 rfl rfl (by omega) (by decide) dX6_isSaid_27 ?_
          refine J_topi (y := nI sd) 28 (fR_sd rfl) ?_
          refine kb_RX6_212 (bs' := [wMo o rw fr kp tr ik tp tm mso bg en wd va gd rs mu rm ss msz msh mho mhn mhz kd nb tn tc bo ip, wMr G rw la ns sd to he sw nh ki te1 mi ar1 z]) (rest := []) (st' := [.int (fShiv (ki k) (mi k) (te1 k) (la 1) (to sd) (he sd) (sw sd) (nI sd))]) 28 (c_X6_shivers l G k sd o rw fr kp tr ik tp tm mso bg en wd va gd rs mu rm ss msz msh mho mhn mhz kd nb tn tc bo ip la ns sd to he sw nh ki te1 mi ar1 z (by first | omega | assumption) (by first | omega | assumption)) [0, 1] 0 rfl rfl rfl [[o], [rw]] rfl rfl rfl rfl rfl rfl (Nat.le_of_ble_eq_true rfl) rfl dX6_isSaid_28 ?_
          refine J_aload_n 31 0 dX6_isSaid_31 rfl rfl ?_
          refine J_iload_n 32 3 dX6_isSaid_32 rfl rfl ?_
          refine kb_RX6_215 (bs' := [wMo o rw fr kp tr ik tp tm mso bg en wd va gd rs mu rm ss msz msh mho mhn mhz kd nb tn tc bo ip, wMr G rw la ns sd to he sw nh ki te1 mi ar1 z]) (rest := [.int (fShiv (ki k) (mi k) (te1 k) (la 1) (to sd) (he sd) (sw sd) (nI sd))]) (st' := [.int (fNeeds (ki k) (te1 k) (la 0)), .int (fShiv (ki k) (mi k) (te1 k) (la 1) (to sd) (he sd) (sw sd) (nI sd))]) 33 (c_X6_needs l G k o rw fr kp tr ik tp tm mso bg en wd va gd rs mu rm ss msz msh mho mhn mhz kd nb tn tc bo ip la ns sd to he sw nh ki te1 mi ar1 z (by first | omega | assumption)) [0, 1] 0 rfl rfl rfl [[o], [rw]] rfl rfl rfl rfl rfl rfl (Nat.le_of_ble_eq_true rfl) rfl dX6_isSaid_33 ?_
          refine J_icmp_lt (tgt := 90) 36 dX6_isSaid_36 (by decide) (fun c_3_ => ?_) (fun c_3_ => ?_)
          · skip
            have hn_ : ¬ (fun h_ => nI h_ = c ∨ fUp la ki mi te to he sw sd h_) k := fun z_ => z_.elim (by assumption) (fun y_ => by unfold fUp at y_; rw [← fSel_at hte] at y_; exact Int32.not_lt.mpr y_ (by assumption))
            refine J_iinc (v := nI (k + 1)) (lv' := [some (.ref o), some (.int c), some (.int x), some (.int (nI (k + 1)))]) 90 dX6_isSaid_90 rfl (nI_add _ 1) (by decide) rfl ?_
            refine J_goto (tgt := 4) 93 dX6_isSaid_93 (by decide) ?_
            exact ih_4_ (k + 1) x te1 ar1 (by omega) (by first | assumption | omega | rfl) (by first | rfl | exact fMask_st hx hq_ | exact fMask_sf hx hn_) (by first | exact fSel_0 | exact fSel_st hte hq_ (congrArg (fun x_ => heldI (x_ - fWears (ki k) (la 2))) (fSel_at hte)) | exact fSel_sf hte hn_) (by first | exact fSel_0 | exact fSel_st har hq_ (congrArg (fun x_ => x_ ||| onlyI (nI sd)) (fSel_at har)) | exact fSel_sf har hn_)
          · skip
            have hq_ : (fun h_ => nI h_ = c ∨ fUp la ki mi te to he sw sd h_) k := Or.inr (by unfold fUp; rw [← fSel_at hte]; exact Int32.not_lt.mp (by assumption))
            refine J_iload_n 39 2 dX6_isSaid_39 rfl rfl ?_
            refine J_iconst (v := 1) 40 dX6_isSaid_40 rfl ?_
            refine J_iload_n 41 3 dX6_isSaid_41 rfl rfl ?_
            refine J_ishl 42 dX6_isSaid_42 ?_
            refine J_ior 43 dX6_isSaid_43 ?_
            refine J_istore_n (lv' := [some (.ref o), some (.int c), some (.int (x ||| (1 <<< ((nI k) &&& 31)))), some (.int (nI k))]) 44 2 dX6_isSaid_44 rfl (by decide) rfl ?_
            refine J_aload_n 45 0 dX6_isSaid_45 rfl rfl ?_
            refine J_iload_n 46 3 dX6_isSaid_46 rfl rfl ?_
            refine J_iconst (v := 3) 47 dX6_isSaid_47 rfl ?_
            refine J_aload_n 48 0 dX6_isSaid_48 rfl rfl ?_
            refine J_iload_n 49 3 dX6_isSaid_49 rfl rfl ?_
            refine J_iconst (v := 3) 50 dX6_isSaid_50 rfl ?_
            refine kb_RX6_187 (bs' := [wMo o rw fr kp tr ik tp tm mso bg en wd va gd rs mu rm ss msz msh mho mhn mhz kd nb tn tc bo ip, wMr G rw la ns sd to he sw nh ki te1 mi ar1 z]) (rest := [.int 3, .int (nI k), .ref o]) (st' := [.int (ar1 k), .int 3, .int (nI k), .ref o]) 51 (c_X6_its_3 l G k o rw fr kp tr ik tp tm mso bg en wd va gd rs mu rm ss msz msh mho mhn mhz kd nb tn tc bo ip la ns sd to he sw nh ki te1 mi ar1 z (by first | omega | assumption)) [0, 1] 0 rfl rfl rfl [[o], [rw]] rfl rfl rfl rfl rfl rfl (Nat.le_of_ble_eq_true rfl) rfl dX6_isSaid_51 ?_
            refine J_iconst (v := 1) 54 dX6_isSaid_54 rfl ?_
            refine J_aload_n 55 0 dX6_isSaid_55 rfl rfl ?_
            refine g_789 (v := .ref rw) 56 0 rfl rfl dX6_isSaid_56 ?_
            refine J_iconst (v := 4) 59 dX6_isSaid_59 rfl ?_
            refine J_iald 60 1 4 rfl rfl (by omega) (by decide) dX6_isSaid_60 ?_
            refine J_topi (y := nI sd) 61 (fR_sd rfl) ?_
            refine J_ishl 61 dX6_isSaid_61 ?_
            refine J_ior 62 dX6_isSaid_62 ?_
            refine kb_RX6_202 (bs' := [wMo o rw fr kp tr ik tp tm mso bg en wd va gd rs mu rm ss msz msh mho mhn mhz kd nb tn tc bo ip, wMr G rw la ns sd to he sw nh ki te1 mi (upd ar1 k ((ar1 k) ||| (1 <<< ((nI sd) &&& 31)))) z]) (rest := []) (st' := []) 63 (c_X6_sets_3 l G k ((ar1 k) ||| (1 <<< ((nI sd) &&& 31))) o rw fr kp tr ik tp tm mso bg en wd va gd rs mu rm ss msz msh mho mhn mhz kd nb tn tc bo ip la ns sd to he sw nh ki te1 mi ar1 z (by first | omega | assumption)) [0, 1] 0 rfl rfl rfl [[o], [rw]] rfl rfl rfl rfl rfl rfl (Nat.le_of_ble_eq_true rfl) rfl dX6_isSaid_63 ?_
            refine J_aload_n 66 0 dX6_isSaid_66 rfl rfl ?_
            refine J_iload_n 67 3 dX6_isSaid_67 rfl rfl ?_
            refine J_iconst (v := 1) 68 dX6_isSaid_68 rfl ?_
            refine J_aload_n 69 0 dX6_isSaid_69 rfl rfl ?_
            refine J_iload_n 70 3 dX6_isSaid_70 rfl rfl ?_
            refine J_iconst (v := 1) 71 dX6_isSaid_71 rfl ?_
            refine kb_RX6_187 (bs' := [wMo o rw fr kp tr ik tp tm mso bg en wd va gd rs mu rm ss msz msh mho mhn mhz kd nb tn tc bo ip, wMr G rw la ns sd to he sw nh ki te1 mi (upd ar1 k ((ar1 k) ||| (1 <<< ((nI sd) &&& 31)))) z]) (rest := [.int 1, .int (nI k), .ref o]) (st' := [.int (te1 k), .int 1, .int (nI k), .ref o]) 72 (c_X6_its_1 l G k o rw fr kp tr ik tp tm mso bg en wd va gd rs mu rm ss msz msh mho mhn mhz kd nb tn tc bo ip la ns sd to he sw nh ki te1 mi (upd ar1 k ((ar1 k) ||| (1 <<< ((nI sd) &&& 31)))) z (by first | omega | assumption)) [0, 1] 0 rfl rfl rfl [[o], [rw]] rfl rfl rfl rfl rfl rfl (Nat.le_of_ble_eq_true rfl) rfl dX6_isSaid_72 ?_
            refine J_aload_n 75 0 dX6_isSaid_75 rfl rfl ?_
            refine J_iload_n 76 3 dX6_isSaid_76 rfl rfl ?_
            refine kb_RX6_218 (bs' := [wMo o rw fr kp tr ik tp tm mso bg en wd va gd rs mu rm ss msz msh mho mhn mhz kd nb tn tc bo ip, wMr G rw la ns sd to he sw nh ki te1 mi (upd ar1 k ((ar1 k) ||| (1 <<< ((nI sd) &&& 31)))) z]) (rest := [.int (te1 k), .int 1, .int (nI k), .ref o]) (st' := [.int (fWears (ki k) (la 2)), .int (te1 k), .int 1, .int (nI k), .ref o]) 77 (c_X6_wears l G k o rw fr kp tr ik tp tm mso bg en wd va gd rs mu rm ss msz msh mho mhn mhz kd nb tn tc bo ip la ns sd to he sw nh ki te1 mi (upd ar1 k ((ar1 k) ||| (1 <<< ((nI sd) &&& 31)))) z (by first | omega | assumption)) [0, 1] 0 rfl rfl rfl [[o], [rw]] rfl rfl rfl rfl rfl rfl (Nat.le_of_ble_eq_true rfl) rfl dX6_isSaid_77 ?_
            refine J_isub 80 dX6_isSaid_80 ?_
            refine J_iconst (v := 0) 81 dX6_isSaid_81 rfl ?_
            refine J_bipush (v := 99) 82 dX6_isSaid_82 rfl ?_
            refine kb_RX6_221 (bs' := [wMo o rw fr kp tr ik tp tm mso bg en wd va gd rs mu rm ss msz msh mho mhn mhz kd nb tn tc bo ip, wMr G rw la ns sd to he sw nh ki te1 mi (upd ar1 k ((ar1 k) ||| (1 <<< ((nI sd) &&& 31)))) z]) (rest := [.int 1, .int (nI k), .ref o]) (st' := [.int (heldI ((te1 k) - (fWears (ki k) (la 2)))), .int 1, .int (nI k), .ref o]) 84 (c_X6_held_99 l G ((te1 k) - (fWears (ki k) (la 2))) ) [] rfl rfl [] rfl rfl rfl rfl rfl rfl (Nat.le_of_ble_eq_true rfl) rfl dX6_isSaid_84 ?_
            refine kb_RX6_202 (bs' := [wMo o rw fr kp tr ik tp tm mso bg en wd va gd rs mu rm ss msz msh mho mhn mhz kd nb tn tc bo ip, wMr G rw la ns sd to he sw nh ki (upd te1 k (heldI ((te1 k) - (fWears (ki k) (la 2))))) mi (upd ar1 k ((ar1 k) ||| (1 <<< ((nI sd) &&& 31)))) z]) (rest := []) (st' := []) 87 (c_X6_sets_1 l G k (heldI ((te1 k) - (fWears (ki k) (la 2)))) o rw fr kp tr ik tp tm mso bg en wd va gd rs mu rm ss msz msh mho mhn mhz kd nb tn tc bo ip la ns sd to he sw nh ki te1 mi (upd ar1 k ((ar1 k) ||| (1 <<< ((nI sd) &&& 31)))) z (by first | omega | assumption)) [0, 1] 0 rfl rfl rfl [[o], [rw]] rfl rfl rfl rfl rfl rfl (Nat.le_of_ble_eq_true rfl) rfl dX6_isSaid_87 ?_
            refine J_iinc (v := nI (k + 1)) (lv' := [some (.ref o), some (.int c), some (.int (x ||| (1 <<< ((nI k) &&& 31)))), some (.int (nI (k + 1)))]) 90 dX6_isSaid_90 rfl (nI_add _ 1) (by decide) rfl ?_
            refine J_goto (tgt := 4) 93 dX6_isSaid_93 (by decide) ?_
            exact ih_4_ (k + 1) (x ||| (1 <<< ((nI k) &&& 31))) (upd te1 k (heldI ((te1 k) - (fWears (ki k) (la 2))))) (upd ar1 k ((ar1 k) ||| (1 <<< ((nI sd) &&& 31)))) (by omega) (by first | assumption | omega | rfl) (by first | rfl | exact fMask_st hx hq_ | exact fMask_sf hx hn_) (by first | exact fSel_0 | exact fSel_st hte hq_ (congrArg (fun x_ => heldI (x_ - fWears (ki k) (la 2))) (fSel_at hte)) | exact fSel_sf hte hn_) (by first | exact fSel_0 | exact fSel_st har hq_ (congrArg (fun x_ => x_ ||| onlyI (nI sd)) (fSel_at har)) | exact fSel_sf har hn_)
  refine J_iconst (v := 0) 0 dX6_isSaid_0 rfl ?_
  refine J_istore_n (lv' := [some (.ref o), some (.int c), some (.int 0), none]) 1 2 dX6_isSaid_1 rfl (by decide) rfl ?_
  refine J_iconst (v := 0) 2 dX6_isSaid_2 rfl ?_
  refine J_istore_n (lv' := [some (.ref o), some (.int c), some (.int 0), some (.int 0)]) 3 3 dX6_isSaid_3 rfl (by decide) rfl ?_
  exact cut_4_ ((nh - 0) + 1) 0 0 te ar (Nat.lt_succ_self _) (by first | assumption | omega | rfl) (by first | rfl | exact fMask_st hx hq_ | exact fMask_sf hx hn_) (by first | exact fSel_0 | exact fSel_st hte hq_ (congrArg (fun x_ => heldI (x_ - fWears (ki k) (la 2))) (fSel_at hte)) | exact fSel_sf hte hn_) (by first | exact fSel_0 | exact fSel_st har hq_ (congrArg (fun x_ => x_ ||| onlyI (nI sd)) (fSel_at har)) | exact fSel_sf har hn_)
set_option maxRecDepth 100000 in
set_option maxHeartbeats 4000000 in
theorem c_X6_says (l : Launch) (G : Gd) (n : Nat) (o : Nat) (rw : Nat) (fr : Nat) (kp : Nat) (tr : Nat) (ik : Int32) (tp : Nat) (tm : Nat) (mso : Int32) (bg : Nat) (en : Nat) (wd : Int64) (va : Int32) (gd : Int32) (rs : Nat) (mu : Nat) (rm : Nat) (ss : Nat) (msz : Nat) (msh : Nat) (mho : Nat) (mhn : Nat) (mhz : Nat) (kd : Int32) (nb : Int32) (tn : Int32) (tc : Nat) (bo : Nat) (ip : Int32) (la : Nat → Int32) (ns : Nat) (sd : Nat) (to : Nat → Int32) (he : Nat → Int32) (sw : Nat → Int32) (nh : Nat) (ki : Nat → Int32) (te : Nat → Int32) (mi : Nat → Int32) (ar : Nat → Int32) (z : Int32) (hnh : nh ≤ 8) (hns : ns ≤ 12) (hsd : sd ≤ ns) (hn : n < 2147483648) : Ct l G yX6_says cX6_says 3 (some (FieldType.int)) 3 [.ref o, .int (nI n)] (wF [wMo o rw fr kp tr ik tp tm mso bg en wd va gd rs mu rm ss msz msh mho mhn mhz kd nb tn tc bo ip, wMr G rw la ns sd to he sw nh ki te mi ar z]) (some (.int (nI (min n (ns - sd))))) (wF [wMo o rw fr kp tr ik tp tm mso bg en wd va gd rs mu rm ss msz msh mho mhn mhz kd nb tn tc bo ip, wMr G rw la ns (sd + min n (ns - sd)) to he sw nh ki (fTe (fun h_ => h_ < nh) la ki mi te ar to he sw sd (min n (ns - sd))) mi (fAr (fun h_ => h_ < nh) la ki mi te ar to he sw sd (min n (ns - sd))) z]) := by
  refine Ct.of "GooseArmsModel" [some (.ref o), some (.int (nI n)), none] (by decide +kernel) rfl (Nat.le_of_ble_eq_true rfl) rfl ?_
  have cut_2_ : ∀ (n_2_ : Nat) (k : Nat) (te1 : Nat → Int32) (ar1 : Nat → Int32) (sd1 : Nat), (min n (ns - sd) - k < n_2_) → (hk : k ≤ min n (ns - sd)) → (hte : te1 = fTe (fun h_ => h_ < nh) la ki mi te ar to he sw sd k) → (har : ar1 = fAr (fun h_ => h_ < nh) la ki mi te ar to he sw sd k) → (hs1 : sd1 = sd + k) → J l G (bd G 3 (some (FieldType.int)) (some (.int (nI (min n (ns - sd))))) (wF [wMo o rw fr kp tr ik tp tm mso bg en wd va gd rs mu rm ss msz msh mho mhn mhz kd nb tn tc bo ip, wMr G rw la ns (sd + min n (ns - sd)) to he sw nh ki (fTe (fun h_ => h_ < nh) la ki mi te ar to he sw sd (min n (ns - sd))) mi (fAr (fun h_ => h_ < nh) la ki mi te ar to he sw sd (min n (ns - sd))) z])) cX6_says 3 "GooseArmsModel" 2 [some (.ref o), some (.int (nI n)), some (.int (nI k))] [] (wF [wMo o rw fr kp tr ik tp tm mso bg en wd va gd rs mu rm ss msz msh mho mhn mhz kd nb tn tc bo ip, wMr G rw la ns sd1 to he sw nh ki te1 mi ar1 z]) := by
    intro n_2_
    induction n_2_ with
    | zero => intro k te1 ar1 sd1 m_2_; exact absurd m_2_ (Nat.not_lt_zero _)
    | succ n_2_ ih_2_ =>
      intro k te1 ar1 sd1 m_2_ hk hte har hs1
      refine J_iload_n 2 2 dX6_says_2 rfl rfl ?_
      refine J_iload_n 3 1 dX6_says_3 rfl rfl ?_
      refine J_icmp_ge (tgt := 26) 4 dX6_says_4 (by decide) (fun c_1_ => ?_) (fun c_1_ => ?_)
      · skip
        have c_1_ : n ≤ k := (nI_leI (a := n) (b := k) (by omega) (by omega)).mp c_1_
        refine J_iload_n 26 2 dX6_says_26 rfl rfl ?_
        exact J_iret 27 dX6_says_27 (congrArg (fun x_ => some (Value.int x_)) (by first | rfl | omega | grind)) (cg3 (fun (x0_ : Nat) (x1_ : Nat → Int32) (x2_ : Nat → Int32) => (wF [wMo o rw fr kp tr ik tp tm mso bg en wd va gd rs mu rm ss msz msh mho mhn mhz kd nb tn tc bo ip, wMr G rw la ns x0_ to he sw nh ki x1_ mi x2_ z])) sd1 (sd + min n (ns - sd)) te1 (fTe (fun h_ => h_ < nh) la ki mi te ar to he sw sd (min n (ns - sd))) ar1 (fAr (fun h_ => h_ < nh) la ki mi te ar to he sw sd (min n (ns - sd))) (by omega) (by rw [hte, show k = min n (ns - sd) by omega]) (by rw [har, show k = min n (ns - sd) by omega]))
      · skip
        have c_1_ : ¬ n ≤ k := fun z_ => c_1_ ((nI_leI (a := n) (b := k) (by omega) (by omega)).mpr z_)
        refine J_aload_n 7 0 dX6_says_7 rfl rfl ?_
        refine kb_RX6_209 (bs' := [wMo o rw fr kp tr ik tp tm mso bg en wd va gd rs mu rm ss msz msh mho mhn mhz kd nb tn tc bo ip, wMr G rw la ns sd1 to he sw nh ki te1 mi ar1 z]) (rest := []) (st' := [.int (nI (ns - sd1))]) 8 (c_X6_leftMany l G o rw fr kp tr ik tp tm mso bg en wd va gd rs mu rm ss msz msh mho mhn mhz kd nb tn tc bo ip la ns sd1 to he sw nh ki te1 mi ar1 z (by omega)) [0, 1] 0 rfl rfl rfl [[o], [rw]] rfl rfl rfl rfl rfl rfl (Nat.le_of_ble_eq_true rfl) rfl dX6_says_8 ?_
        refine J_if_le (tgt := 26) 11 dX6_says_11 (by decide) (fun c_2_ => ?_) (fun c_2_ => ?_)
        · skip
          have c_2_ : (ns - sd1) ≤ 0 := (nI_leI (a := (ns - sd1)) (b := 0) (by omega) (by omega)).mp c_2_
          refine J_iload_n 26 2 dX6_says_26 rfl rfl ?_
          exact J_iret 27 dX6_says_27 (congrArg (fun x_ => some (Value.int x_)) (by first | rfl | omega | grind)) (cg3 (fun (x0_ : Nat) (x1_ : Nat → Int32) (x2_ : Nat → Int32) => (wF [wMo o rw fr kp tr ik tp tm mso bg en wd va gd rs mu rm ss msz msh mho mhn mhz kd nb tn tc bo ip, wMr G rw la ns x0_ to he sw nh ki x1_ mi x2_ z])) sd1 (sd + min n (ns - sd)) te1 (fTe (fun h_ => h_ < nh) la ki mi te ar to he sw sd (min n (ns - sd))) ar1 (fAr (fun h_ => h_ < nh) la ki mi te ar to he sw sd (min n (ns - sd))) (by omega) (by rw [hte, show k = min n (ns - sd) by omega]) (by rw [har, show k = min n (ns - sd) by omega]))
        · skip
          have c_2_ : ¬ (ns - sd1) ≤ 0 := fun z_ => c_2_ ((nI_leI (a := (ns - sd1)) (b := 0) (by omega) (by omega)).mpr z_)
          refine J_aload_n 14 0 dX6_says_14 rfl rfl ?_
          refine J_iconst (v := (-1)) 15 dX6_says_15 rfl ?_
          refine kb_RX6_225 (bs' := [wMo o rw fr kp tr ik tp tm mso bg en wd va gd rs mu rm ss msz msh mho mhn mhz kd nb tn tc bo ip, wMr G rw la ns (sd1 + 1) to he sw nh ki (fSel (fun h_ => h_ < nh ∧ (fun h_ => nI h_ = (-1) ∨ fUp la ki mi te1 to he sw sd1 h_) h_) (fun h_ => heldI (te1 h_ - fWears (ki h_) (la 2))) te1) mi (fSel (fun h_ => h_ < nh ∧ (fun h_ => nI h_ = (-1) ∨ fUp la ki mi te1 to he sw sd1 h_) h_) (fun h_ => ar1 h_ ||| onlyI (nI sd1)) ar1) z]) (rest := []) (st' := [.int (fMask (fun h_ => nI h_ = (-1) ∨ fUp la ki mi te1 to he sw sd1 h_) nh)]) 16 (c_X6_isSaid l G (-1) o rw fr kp tr ik tp tm mso bg en wd va gd rs mu rm ss msz msh mho mhn mhz kd nb tn tc bo ip la ns sd1 to he sw nh ki te1 mi ar1 z (by first | omega | assumption) (by first | omega | assumption) (by omega)) [0, 1] 0 rfl rfl rfl [[o], [rw]] rfl rfl rfl rfl rfl rfl (Nat.le_of_ble_eq_true rfl) rfl dX6_says_16 ?_
          refine J_pop 19 dX6_says_19 rfl ?_
          refine J_iinc (v := nI (k + 1)) (lv' := [some (.ref o), some (.int (nI n)), some (.int (nI (k + 1)))]) 20 dX6_says_20 rfl (nI_add _ 1) (by decide) rfl ?_
          refine J_goto (tgt := 2) 23 dX6_says_23 (by decide) ?_
          exact ih_2_ (k + 1) (fSel (fun h_ => h_ < nh ∧ (fun h_ => nI h_ = (-1) ∨ fUp la ki mi te1 to he sw sd1 h_) h_) (fun h_ => heldI (te1 h_ - fWears (ki h_) (la 2))) te1) (fSel (fun h_ => h_ < nh ∧ (fun h_ => nI h_ = (-1) ∨ fUp la ki mi te1 to he sw sd1 h_) h_) (fun h_ => ar1 h_ ||| onlyI (nI sd1)) ar1) (sd1 + 1) (by omega) (by first | assumption | omega | rfl) (by first | exact fTe_0 | exact (fTA_s hte har hs1 (mQ_iff hnh)).1) (by first | exact fAr_0 | exact (fTA_s hte har hs1 (mQ_iff hnh)).2) (by first | assumption | omega | rfl)
  refine J_iconst (v := 0) 0 dX6_says_0 rfl ?_
  refine J_istore_n (lv' := [some (.ref o), some (.int (nI n)), some (.int 0)]) 1 2 dX6_says_1 rfl (by decide) rfl ?_
  exact cut_2_ ((min n (ns - sd) - 0) + 1) 0 te ar sd (Nat.lt_succ_self _) (by first | assumption | omega | rfl) (by first | exact fTe_0 | exact (fTA_s hte har hs1 (mQ_iff hnh)).1) (by first | exact fAr_0 | exact (fTA_s hte har hs1 (mQ_iff hnh)).2) (by first | assumption | omega | rfl)
set_option maxRecDepth 100000 in
set_option maxHeartbeats 4000000 in
theorem c_X6_drawn (l : Launch) (G : Gd) (o : Nat) (rw : Nat) (fr : Nat) (kp : Nat) (tr : Nat) (ik : Int32) (tp : Nat) (tm : Nat) (mso : Int32) (bg : Nat) (en : Nat) (wd : Int64) (va : Int32) (gd : Int32) (rs : Nat) (mu : Nat) (rm : Nat) (ss : Nat) (msz : Nat) (msh : Nat) (mho : Nat) (mhn : Nat) (mhz : Nat) (kd : Int32) (nb : Int32) (tn : Int32) (tc : Nat) (bo : Nat) (ip : Int32) (la : Nat → Int32) (ns : Nat) (sd : Nat) (to : Nat → Int32) (he : Nat → Int32) (sw : Nat → Int32) (nh : Nat) (ki : Nat → Int32) (te : Nat → Int32) (mi : Nat → Int32) (ar : Nat → Int32) (z : Int32)  : Ct l G yX6_drawn cX6_drawn 1 (some (FieldType.int)) 0 [.ref o] (wF [wMo o rw fr kp tr ik tp tm mso bg en wd va gd rs mu rm ss msz msh mho mhn mhz kd nb tn tc bo ip, wMr G rw la ns sd to he sw nh ki te mi ar z]) (some (.int (fDr z))) (wF [wMo o rw fr kp tr ik tp tm mso bg en wd va gd rs mu rm ss msz msh mho mhn mhz kd nb tn tc bo ip, wMr G rw la ns sd to he sw nh ki te mi ar (fZ z)]) := by
  refine Ct.of "GooseArmsModel" [some (.ref o)] (by decide +kernel) rfl (Nat.le_of_ble_eq_true rfl) rfl ?_
  refine J_aload_n 0 0 dX6_drawn_0 rfl rfl ?_
  refine g_789 (v := .ref rw) 1 0 rfl rfl dX6_drawn_1 ?_
  refine J_bipush (v := 7) 4 dX6_drawn_4 rfl ?_
  refine J_aload_n 6 0 dX6_drawn_6 rfl rfl ?_
  refine g_789 (v := .ref rw) 7 0 rfl rfl dX6_drawn_7 ?_
  refine J_bipush (v := 7) 10 dX6_drawn_10 rfl ?_
  refine J_iald 12 1 7 rfl rfl (by omega) (by decide) dX6_drawn_12 ?_
  refine J_topi (y := z) 13 (fR_z rfl) ?_
  refine J_ldc (v := 1103515245) 13 w_1089 dX6_drawn_13 ?_
  refine J_imul 15 dX6_drawn_15 ?_
  refine J_sipush (v := 12345) 16 dX6_drawn_16 rfl ?_
  refine J_iadd 19 dX6_drawn_19 ?_
  refine J_iast (ws' := (wF [wMo o rw fr kp tr ik tp tm mso bg en wd va gd rs mu rm ss msz msh mho mhn mhz kd nb tn tc bo ip, wI G rw 76 (upd (fRow la ns sd to he sw nh ki te mi ar z) 7 ((z * 1103515245) + 12345))])) 20 1 7 rfl rfl (by omega) (by decide) rfl dX6_drawn_20 ?_
  refine J_ws (ws' := (wF [wMo o rw fr kp tr ik tp tm mso bg en wd va gd rs mu rm ss msz msh mho mhn mhz kd nb tn tc bo ip, wMr G rw la ns sd to he sw nh ki te mi ar ((z * 1103515245) + 12345)])) 21 (congrArg (fun x_ => (wF [wMo o rw fr kp tr ik tp tm mso bg en wd va gd rs mu rm ss msz msh mho mhn mhz kd nb tn tc bo ip, wI G rw 76 x_])) (fU_z rfl)) ?_
  refine J_aload_n 21 0 dX6_drawn_21 rfl rfl ?_
  refine g_789 (v := .ref rw) 22 0 rfl rfl dX6_drawn_22 ?_
  refine J_bipush (v := 7) 25 dX6_drawn_25 rfl ?_
  refine J_iald 27 1 7 rfl rfl (by omega) (by decide) dX6_drawn_27 ?_
  refine J_topi (y := (z * 1103515245) + 12345) 28 (fR_z rfl) ?_
  refine J_bipush (v := 16) 28 dX6_drawn_28 rfl ?_
  refine J_iushr 30 dX6_drawn_30 ?_
  exact J_iret 31 dX6_drawn_31 (congrArg (fun x_ => some (Value.int x_)) (by first | rfl | omega | grind)) (cg1 (fun (x0_ : Int32) => (wF [wMo o rw fr kp tr ik tp tm mso bg en wd va gd rs mu rm ss msz msh mho mhn mhz kd nb tn tc bo ip, wMr G rw la ns sd to he sw nh ki te mi ar x0_])) ((z * 1103515245) + 12345) (fZ z) (by first | rfl | omega | grind))
set_option maxRecDepth 100000 in
set_option maxHeartbeats 4000000 in
theorem c_X6_saidByDraws (l : Launch) (G : Gd) (o : Nat) (rw : Nat) (fr : Nat) (kp : Nat) (tr : Nat) (ik : Int32) (tp : Nat) (tm : Nat) (mso : Int32) (bg : Nat) (en : Nat) (wd : Int64) (va : Int32) (gd : Int32) (rs : Nat) (mu : Nat) (rm : Nat) (ss : Nat) (msz : Nat) (msh : Nat) (mho : Nat) (mhn : Nat) (mhz : Nat) (kd : Int32) (nb : Int32) (tn : Int32) (tc : Nat) (bo : Nat) (ip : Int32) (la : Nat → Int32) (ns : Nat) (sd : Nat) (to : Nat → Int32) (he : Nat → Int32) (sw : Nat → Int32) (nh : Nat) (ki : Nat → Int32) (te : Nat → Int32) (mi : Nat → Int32) (ar : Nat → Int32) (z : Int32) (hnh : nh ≤ 8) (hns : ns ≤ 12) (hsd : sd < ns) : Ct l G yX6_saidByDraws cX6_saidByDraws 3 (some (FieldType.int)) 3 [.ref o] (wF [wMo o rw fr kp tr ik tp tm mso bg en wd va gd rs mu rm ss msz msh mho mhn mhz kd nb tn tc bo ip, wMr G rw la ns sd to he sw nh ki te mi ar z]) (some (.int (fMask (fun h_ => nI h_ = fChi z (la 3) nh ∨ fUp la ki mi te to he sw sd h_) nh))) (wF [wMo o rw fr kp tr ik tp tm mso bg en wd va gd rs mu rm ss msz msh mho mhn mhz kd nb tn tc bo ip, wMr G rw la ns (sd + 1) to he sw nh ki (fSel (fun h_ => h_ < nh ∧ (fun h_ => nI h_ = fChi z (la 3) nh ∨ fUp la ki mi te to he sw sd h_) h_) (fun h_ => heldI (te h_ - fWears (ki h_) (la 2))) te) mi (fSel (fun h_ => h_ < nh ∧ (fun h_ => nI h_ = fChi z (la 3) nh ∨ fUp la ki mi te to he sw sd h_) h_) (fun h_ => ar h_ ||| onlyI (nI sd)) ar) (fZz z nh)]) := by
  refine Ct.of "GooseArmsModel" [some (.ref o), none, none] (by decide +kernel) rfl (Nat.le_of_ble_eq_true rfl) rfl ?_
  refine J_iconst (v := (-1)) 0 dX6_saidByDraws_0 rfl ?_
  refine J_istore_n (lv' := [some (.ref o), some (.int (-1)), none]) 1 1 dX6_saidByDraws_1 rfl (by decide) rfl ?_
  refine J_aload_n 2 0 dX6_saidByDraws_2 rfl rfl ?_
  refine g_789 (v := .ref rw) 3 0 rfl rfl dX6_saidByDraws_3 ?_
  refine J_bipush (v := 6) 6 dX6_saidByDraws_6 rfl ?_
  refine J_iald 8 1 6 rfl rfl (by omega) (by decide) dX6_saidByDraws_8 ?_
  refine J_topi (y := nI nh) 9 (fR_nh rfl) ?_
  refine J_if_le (tgt := 47) 9 dX6_saidByDraws_9 (by decide) (fun c_1_ => ?_) (fun c_1_ => ?_)
  · skip
    have c_1_ : nh ≤ 0 := (nI_leI (a := nh) (b := 0) (by omega) (by omega)).mp c_1_
    have hc_ : fChi z (la 3) nh = -1 := if_pos (by omega)
    have hz_ : fZz z nh = z := if_pos (by omega)
    refine J_aload_n 47 0 dX6_saidByDraws_47 rfl rfl ?_
    refine J_iload_n 48 1 dX6_saidByDraws_48 rfl rfl ?_
    refine kb_RX6_225 (bs' := [wMo o rw fr kp tr ik tp tm mso bg en wd va gd rs mu rm ss msz msh mho mhn mhz kd nb tn tc bo ip, wMr G rw la ns (sd + 1) to he sw nh ki (fSel (fun h_ => h_ < nh ∧ (fun h_ => nI h_ = (-1) ∨ fUp la ki mi te to he sw sd h_) h_) (fun h_ => heldI (te h_ - fWears (ki h_) (la 2))) te) mi (fSel (fun h_ => h_ < nh ∧ (fun h_ => nI h_ = (-1) ∨ fUp la ki mi te to he sw sd h_) h_) (fun h_ => ar h_ ||| onlyI (nI sd)) ar) z]) (rest := []) (st' := [.int (fMask (fun h_ => nI h_ = (-1) ∨ fUp la ki mi te to he sw sd h_) nh)]) 49 (c_X6_isSaid l G (-1) o rw fr kp tr ik tp tm mso bg en wd va gd rs mu rm ss msz msh mho mhn mhz kd nb tn tc bo ip la ns sd to he sw nh ki te mi ar z (by first | omega | assumption) (by first | omega | assumption) (by first | omega | assumption)) [0, 1] 0 rfl rfl rfl [[o], [rw]] rfl rfl rfl rfl rfl rfl (Nat.le_of_ble_eq_true rfl) rfl dX6_saidByDraws_49 ?_
    exact J_iret 52 dX6_saidByDraws_52 (congrArg (fun x_ => some (Value.int x_)) (by rw [hc_])) (cg3 (fun (x0_ : Nat → Int32) (x1_ : Nat → Int32) (x2_ : Int32) => (wF [wMo o rw fr kp tr ik tp tm mso bg en wd va gd rs mu rm ss msz msh mho mhn mhz kd nb tn tc bo ip, wMr G rw la ns (sd + 1) to he sw nh ki x0_ mi x1_ x2_])) (fSel (fun h_ => h_ < nh ∧ (fun h_ => nI h_ = (-1) ∨ fUp la ki mi te to he sw sd h_) h_) (fun h_ => heldI (te h_ - fWears (ki h_) (la 2))) te) (fSel (fun h_ => h_ < nh ∧ (fun h_ => nI h_ = fChi z (la 3) nh ∨ fUp la ki mi te to he sw sd h_) h_) (fun h_ => heldI (te h_ - fWears (ki h_) (la 2))) te) (fSel (fun h_ => h_ < nh ∧ (fun h_ => nI h_ = (-1) ∨ fUp la ki mi te to he sw sd h_) h_) (fun h_ => ar h_ ||| onlyI (nI sd)) ar) (fSel (fun h_ => h_ < nh ∧ (fun h_ => nI h_ = fChi z (la 3) nh ∨ fUp la ki mi te to he sw sd h_) h_) (fun h_ => ar h_ ||| onlyI (nI sd)) ar) z (fZz z nh) (by rw [hc_]) (by rw [hc_]) hz_.symm)
  · skip
    have c_1_ : ¬ nh ≤ 0 := fun z_ => c_1_ ((nI_leI (a := nh) (b := 0) (by omega) (by omega)).mpr z_)
    refine J_aload_n 12 0 dX6_saidByDraws_12 rfl rfl ?_
    refine kb_RX6_232 (bs' := [wMo o rw fr kp tr ik tp tm mso bg en wd va gd rs mu rm ss msz msh mho mhn mhz kd nb tn tc bo ip, wMr G rw la ns sd to he sw nh ki te mi ar (fZ z)]) (rest := []) (st' := [.int (fDr z)]) 13 (c_X6_drawn l G o rw fr kp tr ik tp tm mso bg en wd va gd rs mu rm ss msz msh mho mhn mhz kd nb tn tc bo ip la ns sd to he sw nh ki te mi ar z ) [0, 1] 0 rfl rfl rfl [[o], [rw]] rfl rfl rfl rfl rfl rfl (Nat.le_of_ble_eq_true rfl) rfl dX6_saidByDraws_13 ?_
    refine J_aload_n 16 0 dX6_saidByDraws_16 rfl rfl ?_
    refine g_789 (v := .ref rw) 17 0 rfl rfl dX6_saidByDraws_17 ?_
    refine J_bipush (v := 6) 20 dX6_saidByDraws_20 rfl ?_
    refine J_iald 22 1 6 rfl rfl (by omega) (by decide) dX6_saidByDraws_22 ?_
    refine J_topi (y := nI nh) 23 (fR_nh rfl) ?_
    refine J_irem 23 dX6_saidByDraws_23 (nI_ne0 (by omega) (by omega)) ?_
    refine J_istore_n (lv' := [some (.ref o), some (.int (-1)), some (.int ((fDr z) - (fDr z) / (nI nh) * (nI nh)))]) 24 2 dX6_saidByDraws_24 rfl (by decide) rfl ?_
    refine J_aload_n 25 0 dX6_saidByDraws_25 rfl rfl ?_
    refine kb_RX6_232 (bs' := [wMo o rw fr kp tr ik tp tm mso bg en wd va gd rs mu rm ss msz msh mho mhn mhz kd nb tn tc bo ip, wMr G rw la ns sd to he sw nh ki te mi ar (fZ (fZ z))]) (rest := []) (st' := [.int (fDr (fZ z))]) 26 (c_X6_drawn l G o rw fr kp tr ik tp tm mso bg en wd va gd rs mu rm ss msz msh mho mhn mhz kd nb tn tc bo ip la ns sd to he sw nh ki te mi ar (fZ z) ) [0, 1] 0 rfl rfl rfl [[o], [rw]] rfl rfl rfl rfl rfl rfl (Nat.le_of_ble_eq_true rfl) rfl dX6_saidByDraws_26 ?_
    refine J_bipush (v := 100) 29 dX6_saidByDraws_29 rfl ?_
    refine J_irem 31 dX6_saidByDraws_31 (by decide) ?_
    refine J_aload_n 32 0 dX6_saidByDraws_32 rfl rfl ?_
    refine g_789 (v := .ref rw) 33 0 rfl rfl dX6_saidByDraws_33 ?_
    refine J_iconst (v := 3) 36 dX6_saidByDraws_36 rfl ?_
    refine J_iald 37 1 3 rfl rfl (by omega) (by decide) dX6_saidByDraws_37 ?_
    refine J_topi (y := la 3) 38 (fR_la (j := 3) (by first | rfl | omega) (by omega)) ?_
    refine J_icmp_ge (tgt := 45) 38 dX6_saidByDraws_38 (by decide) (fun c_2_ => ?_) (fun c_2_ => ?_)
    · skip
      have hc_ : fChi z (la 3) nh = -1 := (if_neg (by omega)).trans (if_neg (Int32.not_lt.mpr c_2_))
      have hz_ : fZz z nh = fZ (fZ z) := if_neg (by omega)
      refine J_iconst (v := (-1)) 45 dX6_saidByDraws_45 rfl ?_
      refine J_istore_n (lv' := [some (.ref o), some (.int (-1)), some (.int ((fDr z) - (fDr z) / (nI nh) * (nI nh)))]) 46 1 dX6_saidByDraws_46 rfl (by decide) rfl ?_
      refine J_aload_n 47 0 dX6_saidByDraws_47 rfl rfl ?_
      refine J_iload_n 48 1 dX6_saidByDraws_48 rfl rfl ?_
      refine kb_RX6_225 (bs' := [wMo o rw fr kp tr ik tp tm mso bg en wd va gd rs mu rm ss msz msh mho mhn mhz kd nb tn tc bo ip, wMr G rw la ns (sd + 1) to he sw nh ki (fSel (fun h_ => h_ < nh ∧ (fun h_ => nI h_ = (-1) ∨ fUp la ki mi te to he sw sd h_) h_) (fun h_ => heldI (te h_ - fWears (ki h_) (la 2))) te) mi (fSel (fun h_ => h_ < nh ∧ (fun h_ => nI h_ = (-1) ∨ fUp la ki mi te to he sw sd h_) h_) (fun h_ => ar h_ ||| onlyI (nI sd)) ar) (fZ (fZ z))]) (rest := []) (st' := [.int (fMask (fun h_ => nI h_ = (-1) ∨ fUp la ki mi te to he sw sd h_) nh)]) 49 (c_X6_isSaid l G (-1) o rw fr kp tr ik tp tm mso bg en wd va gd rs mu rm ss msz msh mho mhn mhz kd nb tn tc bo ip la ns sd to he sw nh ki te mi ar (fZ (fZ z)) (by first | omega | assumption) (by first | omega | assumption) (by first | omega | assumption)) [0, 1] 0 rfl rfl rfl [[o], [rw]] rfl rfl rfl rfl rfl rfl (Nat.le_of_ble_eq_true rfl) rfl dX6_saidByDraws_49 ?_
      exact J_iret 52 dX6_saidByDraws_52 (congrArg (fun x_ => some (Value.int x_)) (by rw [hc_])) (cg3 (fun (x0_ : Nat → Int32) (x1_ : Nat → Int32) (x2_ : Int32) => (wF [wMo o rw fr kp tr ik tp tm mso bg en wd va gd rs mu rm ss msz msh mho mhn mhz kd nb tn tc bo ip, wMr G rw la ns (sd + 1) to he sw nh ki x0_ mi x1_ x2_])) (fSel (fun h_ => h_ < nh ∧ (fun h_ => nI h_ = (-1) ∨ fUp la ki mi te to he sw sd h_) h_) (fun h_ => heldI (te h_ - fWears (ki h_) (la 2))) te) (fSel (fun h_ => h_ < nh ∧ (fun h_ => nI h_ = fChi z (la 3) nh ∨ fUp la ki mi te to he sw sd h_) h_) (fun h_ => heldI (te h_ - fWears (ki h_) (la 2))) te) (fSel (fun h_ => h_ < nh ∧ (fun h_ => nI h_ = (-1) ∨ fUp la ki mi te to he sw sd h_) h_) (fun h_ => ar h_ ||| onlyI (nI sd)) ar) (fSel (fun h_ => h_ < nh ∧ (fun h_ => nI h_ = fChi z (la 3) nh ∨ fUp la ki mi te to he sw sd h_) h_) (fun h_ => ar h_ ||| onlyI (nI sd)) ar) (fZ (fZ z)) (fZz z nh) (by rw [hc_]) (by rw [hc_]) hz_.symm)
    · skip
      have hc_ : fChi z (la 3) nh = fDr z - fDr z / nI nh * nI nh := (if_neg (by omega)).trans (if_pos (Int32.not_le.mp c_2_))
      have hz_ : fZz z nh = fZ (fZ z) := if_neg (by omega)
      refine J_iload_n 41 2 dX6_saidByDraws_41 rfl rfl ?_
      refine J_goto (tgt := 46) 42 dX6_saidByDraws_42 (by decide) ?_
      refine J_istore_n (lv' := [some (.ref o), some (.int ((fDr z) - (fDr z) / (nI nh) * (nI nh))), some (.int ((fDr z) - (fDr z) / (nI nh) * (nI nh)))]) 46 1 dX6_saidByDraws_46 rfl (by decide) rfl ?_
      refine J_aload_n 47 0 dX6_saidByDraws_47 rfl rfl ?_
      refine J_iload_n 48 1 dX6_saidByDraws_48 rfl rfl ?_
      refine kb_RX6_225 (bs' := [wMo o rw fr kp tr ik tp tm mso bg en wd va gd rs mu rm ss msz msh mho mhn mhz kd nb tn tc bo ip, wMr G rw la ns (sd + 1) to he sw nh ki (fSel (fun h_ => h_ < nh ∧ (fun h_ => nI h_ = ((fDr z) - (fDr z) / (nI nh) * (nI nh)) ∨ fUp la ki mi te to he sw sd h_) h_) (fun h_ => heldI (te h_ - fWears (ki h_) (la 2))) te) mi (fSel (fun h_ => h_ < nh ∧ (fun h_ => nI h_ = ((fDr z) - (fDr z) / (nI nh) * (nI nh)) ∨ fUp la ki mi te to he sw sd h_) h_) (fun h_ => ar h_ ||| onlyI (nI sd)) ar) (fZ (fZ z))]) (rest := []) (st' := [.int (fMask (fun h_ => nI h_ = ((fDr z) - (fDr z) / (nI nh) * (nI nh)) ∨ fUp la ki mi te to he sw sd h_) nh)]) 49 (c_X6_isSaid l G ((fDr z) - (fDr z) / (nI nh) * (nI nh)) o rw fr kp tr ik tp tm mso bg en wd va gd rs mu rm ss msz msh mho mhn mhz kd nb tn tc bo ip la ns sd to he sw nh ki te mi ar (fZ (fZ z)) (by first | omega | assumption) (by first | omega | assumption) (by first | omega | assumption)) [0, 1] 0 rfl rfl rfl [[o], [rw]] rfl rfl rfl rfl rfl rfl (Nat.le_of_ble_eq_true rfl) rfl dX6_saidByDraws_49 ?_
      exact J_iret 52 dX6_saidByDraws_52 (congrArg (fun x_ => some (Value.int x_)) (by rw [hc_])) (cg3 (fun (x0_ : Nat → Int32) (x1_ : Nat → Int32) (x2_ : Int32) => (wF [wMo o rw fr kp tr ik tp tm mso bg en wd va gd rs mu rm ss msz msh mho mhn mhz kd nb tn tc bo ip, wMr G rw la ns (sd + 1) to he sw nh ki x0_ mi x1_ x2_])) (fSel (fun h_ => h_ < nh ∧ (fun h_ => nI h_ = ((fDr z) - (fDr z) / (nI nh) * (nI nh)) ∨ fUp la ki mi te to he sw sd h_) h_) (fun h_ => heldI (te h_ - fWears (ki h_) (la 2))) te) (fSel (fun h_ => h_ < nh ∧ (fun h_ => nI h_ = fChi z (la 3) nh ∨ fUp la ki mi te to he sw sd h_) h_) (fun h_ => heldI (te h_ - fWears (ki h_) (la 2))) te) (fSel (fun h_ => h_ < nh ∧ (fun h_ => nI h_ = ((fDr z) - (fDr z) / (nI nh) * (nI nh)) ∨ fUp la ki mi te to he sw sd h_) h_) (fun h_ => ar h_ ||| onlyI (nI sd)) ar) (fSel (fun h_ => h_ < nh ∧ (fun h_ => nI h_ = fChi z (la 3) nh ∨ fUp la ki mi te to he sw sd h_) h_) (fun h_ => ar h_ ||| onlyI (nI sd)) ar) (fZ (fZ z)) (fZz z nh) (by rw [hc_]) (by rw [hc_]) hz_.symm)
set_option maxRecDepth 100000 in
set_option maxHeartbeats 4000000 in
theorem c_X6_soSet (l : Launch) (G : Gd) (o : Nat) (rw : Nat) (fr : Nat) (kp : Nat) (tr : Nat) (ik : Int32) (tp : Nat) (tm : Nat) (mso : Int32) (bg : Nat) (en : Nat) (wd : Int64) (va : Int32) (gd : Int32) (rs : Nat) (mu : Nat) (rm : Nat) (ss : Nat) (msz : Nat) (msh : Nat) (mho : Nat) (mhn : Nat) (mhz : Nat) (kd : Int32) (nb : Int32) (tn : Int32) (tc : Nat) (bo : Nat) (ip : Int32) (la : Nat → Int32) (ns : Nat) (sd : Nat) (to : Nat → Int32) (he : Nat → Int32) (sw : Nat → Int32) (nh : Nat) (ki : Nat → Int32) (te : Nat → Int32) (mi : Nat → Int32) (ar : Nat → Int32) (z : Int32) (hns : ns ≤ 12) (hb : ∀ s_, s_ < ns → (sw s_ = 0 ∨ sw s_ = 1)) : Ct l G yX6_soSet cX6_soSet 3 (some (FieldType.int)) 1 [.ref o] (wF [wMo o rw fr kp tr ik tp tm mso bg en wd va gd rs mu rm ss msz msh mho mhn mhz kd nb tn tc bo ip, wMr G rw la ns sd to he sw nh ki te mi ar z]) (some (.int (fMask (fun s_ => sw s_ = 1) ns))) (wF [wMo o rw fr kp tr ik tp tm mso bg en wd va gd rs mu rm ss msz msh mho mhn mhz kd nb tn tc bo ip, wMr G rw la ns sd to he sw nh ki te mi ar z]) := by
  refine Ct.of "GooseArmsModel" [some (.ref o), none, none] (by decide +kernel) rfl (Nat.le_of_ble_eq_true rfl) rfl ?_
  have cut_4_ : ∀ (n_4_ : Nat) (k : Nat) (x : Int32), (ns - k < n_4_) → (hk : k ≤ ns) → (hx : x = fMask (fun s_ => sw s_ = 1) k) → J l G (bd G 1 (some (FieldType.int)) (some (.int (fMask (fun s_ => sw s_ = 1) ns))) (wF [wMo o rw fr kp tr ik tp tm mso bg en wd va gd rs mu rm ss msz msh mho mhn mhz kd nb tn tc bo ip, wMr G rw la ns sd to he sw nh ki te mi ar z])) cX6_soSet 3 "GooseArmsModel" 4 [some (.ref o), some (.int x), some (.int (nI k))] [] (wF [wMo o rw fr kp tr ik tp tm mso bg en wd va gd rs mu rm ss msz msh mho mhn mhz kd nb tn tc bo ip, wMr G rw la ns sd to he sw nh ki te mi ar z]) := by
    intro n_4_
    induction n_4_ with
    | zero => intro k x m_4_; exact absurd m_4_ (Nat.not_lt_zero _)
    | succ n_4_ ih_4_ =>
      intro k x m_4_ hk hx
      refine J_iload_n 4 2 dX6_soSet_4 rfl rfl ?_
      refine J_aload_n 5 0 dX6_soSet_5 rfl rfl ?_
      refine g_789 (v := .ref rw) 6 0 rfl rfl dX6_soSet_6 ?_
      refine J_iconst (v := 5) 9 dX6_soSet_9 rfl ?_
      refine J_iald 10 1 5 rfl rfl (by omega) (by decide) dX6_soSet_10 ?_
      refine J_topi (y := nI ns) 11 (fR_ns rfl) ?_
      refine J_icmp_ge (tgt := 31) 11 dX6_soSet_11 (by decide) (fun c_1_ => ?_) (fun c_1_ => ?_)
      · skip
        have c_1_ : ns ≤ k := (nI_leI (a := ns) (b := k) (by omega) (by omega)).mp c_1_
        refine J_iload_n 31 1 dX6_soSet_31 rfl rfl ?_
        exact J_iret 32 dX6_soSet_32 (congrArg (fun x_ => some (Value.int x_)) (by rw [hx, show k = ns by omega])) rfl
      · skip
        have c_1_ : ¬ ns ≤ k := fun z_ => c_1_ ((nI_leI (a := ns) (b := k) (by omega) (by omega)).mpr z_)
        refine J_iload_n 14 1 dX6_soSet_14 rfl rfl ?_
        refine J_aload_n 15 0 dX6_soSet_15 rfl rfl ?_
        refine J_iload_n 16 2 dX6_soSet_16 rfl rfl ?_
        refine J_iconst (v := 2) 17 dX6_soSet_17 rfl ?_
        refine kb_RX6_193 (bs' := [wMo o rw fr kp tr ik tp tm mso bg en wd va gd rs mu rm ss msz msh mho mhn mhz kd nb tn tc bo ip, wMr G rw la ns sd to he sw nh ki te mi ar z]) (rest := [.int x]) (st' := [.int (sw k), .int x]) 18 (c_X6_words_2 l G k o rw fr kp tr ik tp tm mso bg en wd va gd rs mu rm ss msz msh mho mhn mhz kd nb tn tc bo ip la ns sd to he sw nh ki te mi ar z (by first | omega | assumption)) [0, 1] 0 rfl rfl rfl [[o], [rw]] rfl rfl rfl rfl rfl rfl (Nat.le_of_ble_eq_true rfl) rfl dX6_soSet_18 ?_
        refine J_iload_n 21 2 dX6_soSet_21 rfl rfl ?_
        refine J_ishl 22 dX6_soSet_22 ?_
        refine J_ior 23 dX6_soSet_23 ?_
        refine J_istore_n (lv' := [some (.ref o), some (.int (x ||| ((sw k) <<< ((nI k) &&& 31)))), some (.int (nI k))]) 24 1 dX6_soSet_24 rfl (by decide) rfl ?_
        refine J_iinc (v := nI (k + 1)) (lv' := [some (.ref o), some (.int (x ||| ((sw k) <<< ((nI k) &&& 31)))), some (.int (nI (k + 1)))]) 25 dX6_soSet_25 rfl (nI_add _ 1) (by decide) rfl ?_
        refine J_goto (tgt := 4) 28 dX6_soSet_28 (by decide) ?_
        exact ih_4_ (k + 1) (x ||| ((sw k) <<< ((nI k) &&& 31))) (by omega) (by first | assumption | omega | rfl) (by first | rfl | exact so_st hx (hb _ (by omega)))
  refine J_iconst (v := 0) 0 dX6_soSet_0 rfl ?_
  refine J_istore_n (lv' := [some (.ref o), some (.int 0), none]) 1 1 dX6_soSet_1 rfl (by decide) rfl ?_
  refine J_iconst (v := 0) 2 dX6_soSet_2 rfl ?_
  refine J_istore_n (lv' := [some (.ref o), some (.int 0), some (.int 0)]) 3 2 dX6_soSet_3 rfl (by decide) rfl ?_
  exact cut_4_ ((ns - 0) + 1) 0 0 (Nat.lt_succ_self _) (by first | assumption | omega | rfl) (by first | rfl | exact so_st hx (hb _ (by omega)))
set_option maxRecDepth 100000 in
set_option maxHeartbeats 4000000 in
theorem c_X6_tenderness (l : Launch) (G : Gd) (o : Nat) (rw : Nat) (fr : Nat) (kp : Nat) (tr : Nat) (ik : Int32) (tp : Nat) (tm : Nat) (mso : Int32) (bg : Nat) (en : Nat) (wd : Int64) (va : Int32) (gd : Int32) (rs : Nat) (mu : Nat) (rm : Nat) (ss : Nat) (msz : Nat) (msh : Nat) (mho : Nat) (mhn : Nat) (mhz : Nat) (kd : Int32) (nb : Int32) (tn : Int32) (tc : Nat) (bo : Nat) (ip : Int32) (la : Nat → Int32) (ns : Nat) (sd : Nat) (to : Nat → Int32) (he : Nat → Int32) (sw : Nat → Int32) (nh : Nat) (ki : Nat → Int32) (te : Nat → Int32) (mi : Nat → Int32) (ar : Nat → Int32) (z : Int32) (hnh : nh ≤ 8) : Ct l G yX6_tenderness cX6_tenderness 3 (some (FieldType.int)) 1 [.ref o] (wF [wMo o rw fr kp tr ik tp tm mso bg en wd va gd rs mu rm ss msz msh mho mhn mhz kd nb tn tc bo ip, wMr G rw la ns sd to he sw nh ki te mi ar z]) (some (.int (fSum te nh))) (wF [wMo o rw fr kp tr ik tp tm mso bg en wd va gd rs mu rm ss msz msh mho mhn mhz kd nb tn tc bo ip, wMr G rw la ns sd to he sw nh ki te mi ar z]) := by
  refine Ct.of "GooseArmsModel" [some (.ref o), none, none] (by decide +kernel) rfl (Nat.le_of_ble_eq_true rfl) rfl ?_
  have cut_4_ : ∀ (n_4_ : Nat) (k : Nat) (x : Int32), (nh - k < n_4_) → (hk : k ≤ nh) → (hx : x = fSum te k) → J l G (bd G 1 (some (FieldType.int)) (some (.int (fSum te nh))) (wF [wMo o rw fr kp tr ik tp tm mso bg en wd va gd rs mu rm ss msz msh mho mhn mhz kd nb tn tc bo ip, wMr G rw la ns sd to he sw nh ki te mi ar z])) cX6_tenderness 3 "GooseArmsModel" 4 [some (.ref o), some (.int x), some (.int (nI k))] [] (wF [wMo o rw fr kp tr ik tp tm mso bg en wd va gd rs mu rm ss msz msh mho mhn mhz kd nb tn tc bo ip, wMr G rw la ns sd to he sw nh ki te mi ar z]) := by
    intro n_4_
    induction n_4_ with
    | zero => intro k x m_4_; exact absurd m_4_ (Nat.not_lt_zero _)
    | succ n_4_ ih_4_ =>
      intro k x m_4_ hk hx
      refine J_iload_n 4 2 dX6_tenderness_4 rfl rfl ?_
      refine J_aload_n 5 0 dX6_tenderness_5 rfl rfl ?_
      refine g_789 (v := .ref rw) 6 0 rfl rfl dX6_tenderness_6 ?_
      refine J_bipush (v := 6) 9 dX6_tenderness_9 rfl ?_
      refine J_iald 11 1 6 rfl rfl (by omega) (by decide) dX6_tenderness_11 ?_
      refine J_topi (y := nI nh) 12 (fR_nh rfl) ?_
      refine J_icmp_ge (tgt := 30) 12 dX6_tenderness_12 (by decide) (fun c_1_ => ?_) (fun c_1_ => ?_)
      · skip
        have c_1_ : nh ≤ k := (nI_leI (a := nh) (b := k) (by omega) (by omega)).mp c_1_
        refine J_iload_n 30 1 dX6_tenderness_30 rfl rfl ?_
        exact J_iret 31 dX6_tenderness_31 (congrArg (fun x_ => some (Value.int x_)) (by rw [hx, show k = nh by omega])) rfl
      · skip
        have c_1_ : ¬ nh ≤ k := fun z_ => c_1_ ((nI_leI (a := nh) (b := k) (by omega) (by omega)).mpr z_)
        refine J_iload_n 15 1 dX6_tenderness_15 rfl rfl ?_
        refine J_aload_n 16 0 dX6_tenderness_16 rfl rfl ?_
        refine J_iload_n 17 2 dX6_tenderness_17 rfl rfl ?_
        refine J_iconst (v := 1) 18 dX6_tenderness_18 rfl ?_
        refine kb_RX6_187 (bs' := [wMo o rw fr kp tr ik tp tm mso bg en wd va gd rs mu rm ss msz msh mho mhn mhz kd nb tn tc bo ip, wMr G rw la ns sd to he sw nh ki te mi ar z]) (rest := [.int x]) (st' := [.int (te k), .int x]) 19 (c_X6_its_1 l G k o rw fr kp tr ik tp tm mso bg en wd va gd rs mu rm ss msz msh mho mhn mhz kd nb tn tc bo ip la ns sd to he sw nh ki te mi ar z (by first | omega | assumption)) [0, 1] 0 rfl rfl rfl [[o], [rw]] rfl rfl rfl rfl rfl rfl (Nat.le_of_ble_eq_true rfl) rfl dX6_tenderness_19 ?_
        refine J_iadd 22 dX6_tenderness_22 ?_
        refine J_istore_n (lv' := [some (.ref o), some (.int (x + (te k))), some (.int (nI k))]) 23 1 dX6_tenderness_23 rfl (by decide) rfl ?_
        refine J_iinc (v := nI (k + 1)) (lv' := [some (.ref o), some (.int (x + (te k))), some (.int (nI (k + 1)))]) 24 dX6_tenderness_24 rfl (nI_add _ 1) (by decide) rfl ?_
        refine J_goto (tgt := 4) 27 dX6_tenderness_27 (by decide) ?_
        exact ih_4_ (k + 1) (x + (te k)) (by omega) (by first | assumption | omega | rfl) (by first | rfl | exact hx ▸ rfl)
  refine J_iconst (v := 0) 0 dX6_tenderness_0 rfl ?_
  refine J_istore_n (lv' := [some (.ref o), some (.int 0), none]) 1 1 dX6_tenderness_1 rfl (by decide) rfl ?_
  refine J_iconst (v := 0) 2 dX6_tenderness_2 rfl ?_
  refine J_istore_n (lv' := [some (.ref o), some (.int 0), some (.int 0)]) 3 2 dX6_tenderness_3 rfl (by decide) rfl ?_
  exact cut_4_ ((nh - 0) + 1) 0 0 (Nat.lt_succ_self _) (by first | assumption | omega | rfl) (by first | rfl | exact hx ▸ rfl)
set_option maxRecDepth 100000 in
set_option maxHeartbeats 4000000 in
theorem c_X6_roughSet (l : Launch) (G : Gd) (o : Nat) (rw : Nat) (fr : Nat) (kp : Nat) (tr : Nat) (ik : Int32) (tp : Nat) (tm : Nat) (mso : Int32) (bg : Nat) (en : Nat) (wd : Int64) (va : Int32) (gd : Int32) (rs : Nat) (mu : Nat) (rm : Nat) (ss : Nat) (msz : Nat) (msh : Nat) (mho : Nat) (mhn : Nat) (mhz : Nat) (kd : Int32) (nb : Int32) (tn : Int32) (tc : Nat) (bo : Nat) (ip : Int32) (la : Nat → Int32) (ns : Nat) (sd : Nat) (to : Nat → Int32) (he : Nat → Int32) (sw : Nat → Int32) (nh : Nat) (ki : Nat → Int32) (te : Nat → Int32) (mi : Nat → Int32) (ar : Nat → Int32) (z : Int32) (hnh : nh ≤ 8) : Ct l G yX6_roughSet cX6_roughSet 3 (some (FieldType.int)) 1 [.ref o] (wF [wMo o rw fr kp tr ik tp tm mso bg en wd va gd rs mu rm ss msz msh mho mhn mhz kd nb tn tc bo ip, wMr G rw la ns sd to he sw nh ki te mi ar z]) (some (.int (fMask (fun h_ => ¬ ar h_ = 0) nh))) (wF [wMo o rw fr kp tr ik tp tm mso bg en wd va gd rs mu rm ss msz msh mho mhn mhz kd nb tn tc bo ip, wMr G rw la ns sd to he sw nh ki te mi ar z]) := by
  refine Ct.of "GooseArmsModel" [some (.ref o), none, none] (by decide +kernel) rfl (Nat.le_of_ble_eq_true rfl) rfl ?_
  have cut_4_ : ∀ (n_4_ : Nat) (k : Nat) (x : Int32), (nh - k < n_4_) → (hk : k ≤ nh) → (hx : x = fMask (fun h_ => ¬ ar h_ = 0) k) → J l G (bd G 1 (some (FieldType.int)) (some (.int (fMask (fun h_ => ¬ ar h_ = 0) nh))) (wF [wMo o rw fr kp tr ik tp tm mso bg en wd va gd rs mu rm ss msz msh mho mhn mhz kd nb tn tc bo ip, wMr G rw la ns sd to he sw nh ki te mi ar z])) cX6_roughSet 3 "GooseArmsModel" 4 [some (.ref o), some (.int x), some (.int (nI k))] [] (wF [wMo o rw fr kp tr ik tp tm mso bg en wd va gd rs mu rm ss msz msh mho mhn mhz kd nb tn tc bo ip, wMr G rw la ns sd to he sw nh ki te mi ar z]) := by
    intro n_4_
    induction n_4_ with
    | zero => intro k x m_4_; exact absurd m_4_ (Nat.not_lt_zero _)
    | succ n_4_ ih_4_ =>
      intro k x m_4_ hk hx
      refine J_iload_n 4 2 dX6_roughSet_4 rfl rfl ?_
      refine J_aload_n 5 0 dX6_roughSet_5 rfl rfl ?_
      refine g_789 (v := .ref rw) 6 0 rfl rfl dX6_roughSet_6 ?_
      refine J_bipush (v := 6) 9 dX6_roughSet_9 rfl ?_
      refine J_iald 11 1 6 rfl rfl (by omega) (by decide) dX6_roughSet_11 ?_
      refine J_topi (y := nI nh) 12 (fR_nh rfl) ?_
      refine J_icmp_ge (tgt := 40) 12 dX6_roughSet_12 (by decide) (fun c_1_ => ?_) (fun c_1_ => ?_)
      · skip
        have c_1_ : nh ≤ k := (nI_leI (a := nh) (b := k) (by omega) (by omega)).mp c_1_
        refine J_iload_n 40 1 dX6_roughSet_40 rfl rfl ?_
        exact J_iret 41 dX6_roughSet_41 (congrArg (fun x_ => some (Value.int x_)) (by rw [hx, show k = nh by omega])) rfl
      · skip
        have c_1_ : ¬ nh ≤ k := fun z_ => c_1_ ((nI_leI (a := nh) (b := k) (by omega) (by omega)).mpr z_)
        refine J_iload_n 15 1 dX6_roughSet_15 rfl rfl ?_
        refine J_aload_n 16 0 dX6_roughSet_16 rfl rfl ?_
        refine J_iload_n 17 2 dX6_roughSet_17 rfl rfl ?_
        refine J_iconst (v := 3) 18 dX6_roughSet_18 rfl ?_
        refine kb_RX6_187 (bs' := [wMo o rw fr kp tr ik tp tm mso bg en wd va gd rs mu rm ss msz msh mho mhn mhz kd nb tn tc bo ip, wMr G rw la ns sd to he sw nh ki te mi ar z]) (rest := [.int x]) (st' := [.int (ar k), .int x]) 19 (c_X6_its_3 l G k o rw fr kp tr ik tp tm mso bg en wd va gd rs mu rm ss msz msh mho mhn mhz kd nb tn tc bo ip la ns sd to he sw nh ki te mi ar z (by first | omega | assumption)) [0, 1] 0 rfl rfl rfl [[o], [rw]] rfl rfl rfl rfl rfl rfl (Nat.le_of_ble_eq_true rfl) rfl dX6_roughSet_19 ?_
        refine J_if_ne (tgt := 29) 22 dX6_roughSet_22 (by decide) (fun c_2_ => ?_) (fun c_2_ => ?_)
        · skip
          refine J_iconst (v := 1) 29 dX6_roughSet_29 rfl ?_
          refine J_iload_n 30 2 dX6_roughSet_30 rfl rfl ?_
          refine J_ishl 31 dX6_roughSet_31 ?_
          refine J_ior 32 dX6_roughSet_32 ?_
          refine J_istore_n (lv' := [some (.ref o), some (.int (x ||| (1 <<< ((nI k) &&& 31)))), some (.int (nI k))]) 33 1 dX6_roughSet_33 rfl (by decide) rfl ?_
          refine J_iinc (v := nI (k + 1)) (lv' := [some (.ref o), some (.int (x ||| (1 <<< ((nI k) &&& 31)))), some (.int (nI (k + 1)))]) 34 dX6_roughSet_34 rfl (nI_add _ 1) (by decide) rfl ?_
          refine J_goto (tgt := 4) 37 dX6_roughSet_37 (by decide) ?_
          exact ih_4_ (k + 1) (x ||| (1 <<< ((nI k) &&& 31))) (by omega) (by first | assumption | omega | rfl) (by first | rfl | exact fMask_st hx (by assumption) | (rw [Int32.or_zero]; exact fMask_sf hx (fun z_ => z_ (by assumption))))
        · skip
          refine J_iconst (v := 0) 25 dX6_roughSet_25 rfl ?_
          refine J_goto (tgt := 32) 26 dX6_roughSet_26 (by decide) ?_
          refine J_ior 32 dX6_roughSet_32 ?_
          refine J_istore_n (lv' := [some (.ref o), some (.int (x ||| 0)), some (.int (nI k))]) 33 1 dX6_roughSet_33 rfl (by decide) rfl ?_
          refine J_iinc (v := nI (k + 1)) (lv' := [some (.ref o), some (.int (x ||| 0)), some (.int (nI (k + 1)))]) 34 dX6_roughSet_34 rfl (nI_add _ 1) (by decide) rfl ?_
          refine J_goto (tgt := 4) 37 dX6_roughSet_37 (by decide) ?_
          exact ih_4_ (k + 1) (x ||| 0) (by omega) (by first | assumption | omega | rfl) (by first | rfl | exact fMask_st hx (by assumption) | (rw [Int32.or_zero]; exact fMask_sf hx (fun z_ => z_ (by assumption))))
  refine J_iconst (v := 0) 0 dX6_roughSet_0 rfl ?_
  refine J_istore_n (lv' := [some (.ref o), some (.int 0), none]) 1 1 dX6_roughSet_1 rfl (by decide) rfl ?_
  refine J_iconst (v := 0) 2 dX6_roughSet_2 rfl ?_
  refine J_istore_n (lv' := [some (.ref o), some (.int 0), some (.int 0)]) 3 2 dX6_roughSet_3 rfl (by decide) rfl ?_
  exact cut_4_ ((nh - 0) + 1) 0 0 (Nat.lt_succ_self _) (by first | assumption | omega | rfl) (by first | rfl | exact fMask_st hx (by assumption) | (rw [Int32.or_zero]; exact fMask_sf hx (fun z_ => z_ (by assumption))))
set_option maxRecDepth 100000 in
set_option maxHeartbeats 4000000 in
theorem c_X6_raisedBy (l : Launch) (G : Gd) (i : Nat) (o : Nat) (rw : Nat) (fr : Nat) (kp : Nat) (tr : Nat) (ik : Int32) (tp : Nat) (tm : Nat) (mso : Int32) (bg : Nat) (en : Nat) (wd : Int64) (va : Int32) (gd : Int32) (rs : Nat) (mu : Nat) (rm : Nat) (ss : Nat) (msz : Nat) (msh : Nat) (mho : Nat) (mhn : Nat) (mhz : Nat) (kd : Int32) (nb : Int32) (tn : Int32) (tc : Nat) (bo : Nat) (ip : Int32) (la : Nat → Int32) (ns : Nat) (sd : Nat) (to : Nat → Int32) (he : Nat → Int32) (sw : Nat → Int32) (nh : Nat) (ki : Nat → Int32) (te : Nat → Int32) (mi : Nat → Int32) (ar : Nat → Int32) (z : Int32) (hnh : nh ≤ 8) : Ct l G yX6_raisedBy cX6_raisedBy 4 (some (FieldType.int)) 1 [.ref o, .int (nI i)] (wF [wMo o rw fr kp tr ik tp tm mso bg en wd va gd rs mu rm ss msz msh mho mhn mhz kd nb tn tc bo ip, wMr G rw la ns sd to he sw nh ki te mi ar z]) (some (.int (fMask (fun h_ => hasP (ar h_) (nI i)) nh))) (wF [wMo o rw fr kp tr ik tp tm mso bg en wd va gd rs mu rm ss msz msh mho mhn mhz kd nb tn tc bo ip, wMr G rw la ns sd to he sw nh ki te mi ar z]) := by
  refine Ct.of "GooseArmsModel" [some (.ref o), some (.int (nI i)), none, none] (by decide +kernel) rfl (Nat.le_of_ble_eq_true rfl) rfl ?_
  have cut_4_ : ∀ (n_4_ : Nat) (k : Nat) (x : Int32), (nh - k < n_4_) → (hk : k ≤ nh) → (hx : x = fMask (fun h_ => hasP (ar h_) (nI i)) k) → J l G (bd G 1 (some (FieldType.int)) (some (.int (fMask (fun h_ => hasP (ar h_) (nI i)) nh))) (wF [wMo o rw fr kp tr ik tp tm mso bg en wd va gd rs mu rm ss msz msh mho mhn mhz kd nb tn tc bo ip, wMr G rw la ns sd to he sw nh ki te mi ar z])) cX6_raisedBy 4 "GooseArmsModel" 4 [some (.ref o), some (.int (nI i)), some (.int x), some (.int (nI k))] [] (wF [wMo o rw fr kp tr ik tp tm mso bg en wd va gd rs mu rm ss msz msh mho mhn mhz kd nb tn tc bo ip, wMr G rw la ns sd to he sw nh ki te mi ar z]) := by
    intro n_4_
    induction n_4_ with
    | zero => intro k x m_4_; exact absurd m_4_ (Nat.not_lt_zero _)
    | succ n_4_ ih_4_ =>
      intro k x m_4_ hk hx
      refine J_iload_n 4 3 dX6_raisedBy_4 rfl rfl ?_
      refine J_aload_n 5 0 dX6_raisedBy_5 rfl rfl ?_
      refine g_789 (v := .ref rw) 6 0 rfl rfl dX6_raisedBy_6 ?_
      refine J_bipush (v := 6) 9 dX6_raisedBy_9 rfl ?_
      refine J_iald 11 1 6 rfl rfl (by omega) (by decide) dX6_raisedBy_11 ?_
      refine J_topi (y := nI nh) 12 (fR_nh rfl) ?_
      refine J_icmp_ge (tgt := 36) 12 dX6_raisedBy_12 (by decide) (fun c_1_ => ?_) (fun c_1_ => ?_)
      · skip
        have c_1_ : nh ≤ k := (nI_leI (a := nh) (b := k) (by omega) (by omega)).mp c_1_
        refine J_iload_n 36 2 dX6_raisedBy_36 rfl rfl ?_
        exact J_iret 37 dX6_raisedBy_37 (congrArg (fun x_ => some (Value.int x_)) (by rw [hx, show k = nh by omega])) rfl
      · skip
        have c_1_ : ¬ nh ≤ k := fun z_ => c_1_ ((nI_leI (a := nh) (b := k) (by omega) (by omega)).mpr z_)
        refine J_iload_n 15 2 dX6_raisedBy_15 rfl rfl ?_
        refine J_aload_n 16 0 dX6_raisedBy_16 rfl rfl ?_
        refine J_iload_n 17 3 dX6_raisedBy_17 rfl rfl ?_
        refine J_iconst (v := 3) 18 dX6_raisedBy_18 rfl ?_
        refine kb_RX6_187 (bs' := [wMo o rw fr kp tr ik tp tm mso bg en wd va gd rs mu rm ss msz msh mho mhn mhz kd nb tn tc bo ip, wMr G rw la ns sd to he sw nh ki te mi ar z]) (rest := [.int x]) (st' := [.int (ar k), .int x]) 19 (c_X6_its_3 l G k o rw fr kp tr ik tp tm mso bg en wd va gd rs mu rm ss msz msh mho mhn mhz kd nb tn tc bo ip la ns sd to he sw nh ki te mi ar z (by first | omega | assumption)) [0, 1] 0 rfl rfl rfl [[o], [rw]] rfl rfl rfl rfl rfl rfl (Nat.le_of_ble_eq_true rfl) rfl dX6_raisedBy_19 ?_
        refine J_iload_n 22 1 dX6_raisedBy_22 rfl rfl ?_
        refine J_ishr 23 dX6_raisedBy_23 ?_
        refine J_iconst (v := 1) 24 dX6_raisedBy_24 rfl ?_
        refine J_iand 25 dX6_raisedBy_25 ?_
        refine J_iload_n 26 3 dX6_raisedBy_26 rfl rfl ?_
        refine J_ishl 27 dX6_raisedBy_27 ?_
        refine J_ior 28 dX6_raisedBy_28 ?_
        refine J_istore_n (lv' := [some (.ref o), some (.int (nI i)), some (.int (x ||| ((((ar k) >>> ((nI i) &&& 31)) &&& 1) <<< ((nI k) &&& 31)))), some (.int (nI k))]) 29 2 dX6_raisedBy_29 rfl (by decide) rfl ?_
        refine J_iinc (v := nI (k + 1)) (lv' := [some (.ref o), some (.int (nI i)), some (.int (x ||| ((((ar k) >>> ((nI i) &&& 31)) &&& 1) <<< ((nI k) &&& 31)))), some (.int (nI (k + 1)))]) 30 dX6_raisedBy_30 rfl (nI_add _ 1) (by decide) rfl ?_
        refine J_goto (tgt := 4) 33 dX6_raisedBy_33 (by decide) ?_
        exact ih_4_ (k + 1) (x ||| ((((ar k) >>> ((nI i) &&& 31)) &&& 1) <<< ((nI k) &&& 31))) (by omega) (by first | assumption | omega | rfl) (by first | rfl | exact ra_st hx)
  refine J_iconst (v := 0) 0 dX6_raisedBy_0 rfl ?_
  refine J_istore_n (lv' := [some (.ref o), some (.int (nI i)), some (.int 0), none]) 1 2 dX6_raisedBy_1 rfl (by decide) rfl ?_
  refine J_iconst (v := 0) 2 dX6_raisedBy_2 rfl ?_
  refine J_istore_n (lv' := [some (.ref o), some (.int (nI i)), some (.int 0), some (.int 0)]) 3 3 dX6_raisedBy_3 rfl (by decide) rfl ?_
  exact cut_4_ ((nh - 0) + 1) 0 0 (Nat.lt_succ_self _) (by first | assumption | omega | rfl) (by first | rfl | exact ra_st hx)
