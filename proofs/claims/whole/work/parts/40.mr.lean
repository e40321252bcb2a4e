/-! the model's row -/
def fRow (la : Nat → Int32) (ns sd : Nat) (to he sw : Nat → Int32) (nh : Nat) (ki te mi ar : Nat → Int32) (z : Int32) : Nat → Int32 := fun k_ =>
  if k_ < 4 then la k_ else if k_ = 4 then nI sd else if k_ = 5 then nI ns else if k_ = 6 then nI nh else if k_ = 7 then z
  else if k_ < 44 then (if (k_ - 8) % 3 = 0 then to ((k_ - 8) / 3) else if (k_ - 8) % 3 = 1 then he ((k_ - 8) / 3) else sw ((k_ - 8) / 3))
  else (if (k_ - 44) % 4 = 0 then ki ((k_ - 44) / 4) else if (k_ - 44) % 4 = 1 then te ((k_ - 44) / 4) else if (k_ - 44) % 4 = 2 then mi ((k_ - 44) / 4) else ar ((k_ - 44) / 4))
abbrev wMr (G : Gd) (a : Nat) (la : Nat → Int32) (ns sd : Nat) (to he sw : Nat → Int32) (nh : Nat) (ki te mi ar : Nat → Int32) (z : Int32) : va_W := wI G a 76 (fRow la ns sd to he sw nh ki te mi ar z)
section MR
variable {la : Nat → Int32} {ns sd : Nat} {to he sw : Nat → Int32} {nh : Nat} {ki te mi ar : Nat → Int32} {z : Int32}
theorem fR_la {j k : Nat} (hk_ : k = j) (hj_ : j < 4) : (fRow la ns sd to he sw nh ki te mi ar z) k = la j := by subst hk_; unfold fRow; exact if_pos hj_
theorem fR_sd {k : Nat} (hk_ : k = 4) : (fRow la ns sd to he sw nh ki te mi ar z) k = nI sd := by subst hk_; rfl
theorem fR_ns {k : Nat} (hk_ : k = 5) : (fRow la ns sd to he sw nh ki te mi ar z) k = nI ns := by subst hk_; rfl
theorem fR_nh {k : Nat} (hk_ : k = 6) : (fRow la ns sd to he sw nh ki te mi ar z) k = nI nh := by subst hk_; rfl
theorem fR_z {k : Nat} (hk_ : k = 7) : (fRow la ns sd to he sw nh ki te mi ar z) k = z := by subst hk_; rfl
theorem fR_to {i k : Nat} (hk_ : k = 8 + 3 * i + 0) (hi_ : i < 12) : (fRow la ns sd to he sw nh ki te mi ar z) k = to i := by unfold fRow; rw [if_neg (by omega), if_neg (by omega), if_neg (by omega), if_neg (by omega), if_neg (by omega), if_pos (by omega)]; rw [if_pos (by omega)]; rw [show (k - 8) / 3 = i by omega]
theorem fR_he {i k : Nat} (hk_ : k = 8 + 3 * i + 1) (hi_ : i < 12) : (fRow la ns sd to he sw nh ki te mi ar z) k = he i := by unfold fRow; rw [if_neg (by omega), if_neg (by omega), if_neg (by omega), if_neg (by omega), if_neg (by omega), if_pos (by omega)]; rw [if_neg (by omega), if_pos (by omega)]; rw [show (k - 8) / 3 = i by omega]
theorem fR_sw {i k : Nat} (hk_ : k = 8 + 3 * i + 2) (hi_ : i < 12) : (fRow la ns sd to he sw nh ki te mi ar z) k = sw i := by unfold fRow; rw [if_neg (by omega), if_neg (by omega), if_neg (by omega), if_neg (by omega), if_neg (by omega), if_pos (by omega)]; rw [if_neg (by omega), if_neg (by omega)]; rw [show (k - 8) / 3 = i by omega]
theorem fR_ki {i k : Nat} (hk_ : k = 44 + 4 * i + 0) : (fRow la ns sd to he sw nh ki te mi ar z) k = ki i := by unfold fRow; rw [if_neg (by omega), if_neg (by omega), if_neg (by omega), if_neg (by omega), if_neg (by omega), if_neg (by omega), if_pos (by omega)]; rw [show (k - 44) / 4 = i by omega]
theorem fR_te {i k : Nat} (hk_ : k = 44 + 4 * i + 1) : (fRow la ns sd to he sw nh ki te mi ar z) k = te i := by unfold fRow; rw [if_neg (by omega), if_neg (by omega), if_neg (by omega), if_neg (by omega), if_neg (by omega), if_neg (by omega), if_neg (by omega), if_pos (by omega)]; rw [show (k - 44) / 4 = i by omega]
theorem fR_mi {i k : Nat} (hk_ : k = 44 + 4 * i + 2) : (fRow la ns sd to he sw nh ki te mi ar z) k = mi i := by unfold fRow; rw [if_neg (by omega), if_neg (by omega), if_neg (by omega), if_neg (by omega), if_neg (by omega), if_neg (by omega), if_neg (by omega), if_neg (by omega), if_pos (by omega)]; rw [show (k - 44) / 4 = i by omega]
theorem fR_ar {i k : Nat} (hk_ : k = 44 + 4 * i + 3) : (fRow la ns sd to he sw nh ki te mi ar z) k = ar i := by unfold fRow; rw [if_neg (by omega), if_neg (by omega), if_neg (by omega), if_neg (by omega), if_neg (by omega), if_neg (by omega), if_neg (by omega), if_neg (by omega), if_neg (by omega)]; rw [show (k - 44) / 4 = i by omega]
theorem fU_la {k : Nat} {v : Int32} (hi_ : k < 4) : upd (fRow la ns sd to he sw nh ki te mi ar z) k v = (fRow (upd la k v) ns sd to he sw nh ki te mi ar z) := by
  funext j_
  by_cases e_ : j_ = k
  · subst e_; rw [pk_us, fR_la rfl hi_, pk_us]
  · rw [pk_un e_]; unfold fRow; repeat' split
    all_goals first | rfl | (rw [pk_un (by omega)]) | omega
theorem fU_to {i : Nat} {k : Nat} {v : Int32} (hk_ : k = 8 + 3 * i + 0) (hi_ : i < 12) : upd (fRow la ns sd to he sw nh ki te mi ar z) k v = (fRow la ns sd (upd to i v) he sw nh ki te mi ar z) := by
  subst hk_; funext j_
  by_cases e_ : j_ = 8 + 3 * i + 0
  · subst e_; rw [pk_us, fR_to rfl hi_, pk_us]
  · rw [pk_un e_]; unfold fRow; repeat' split
    all_goals first | rfl | (rw [pk_un (by omega)]) | omega
theorem fU_he {i : Nat} {k : Nat} {v : Int32} (hk_ : k = 8 + 3 * i + 1) (hi_ : i < 12) : upd (fRow la ns sd to he sw nh ki te mi ar z) k v = (fRow la ns sd to (upd he i v) sw nh ki te mi ar z) := by
  subst hk_; funext j_
  by_cases e_ : j_ = 8 + 3 * i + 1
  · subst e_; rw [pk_us, fR_he rfl hi_, pk_us]
  · rw [pk_un e_]; unfold fRow; repeat' split
    all_goals first | rfl | (rw [pk_un (by omega)]) | omega
theorem fU_sw {i : Nat} {k : Nat} {v : Int32} (hk_ : k = 8 + 3 * i + 2) (hi_ : i < 12) : upd (fRow la ns sd to he sw nh ki te mi ar z) k v = (fRow la ns sd to he (upd sw i v) nh ki te mi ar z) := by
  subst hk_; funext j_
  by_cases e_ : j_ = 8 + 3 * i + 2
  · subst e_; rw [pk_us, fR_sw rfl hi_, pk_us]
  · rw [pk_un e_]; unfold fRow; repeat' split
    all_goals first | rfl | (rw [pk_un (by omega)]) | omega
theorem fU_ki {i : Nat} {k : Nat} {v : Int32} (hk_ : k = 44 + 4 * i + 0) : upd (fRow la ns sd to he sw nh ki te mi ar z) k v = (fRow la ns sd to he sw nh (upd ki i v) te mi ar z) := by
  subst hk_; funext j_
  by_cases e_ : j_ = 44 + 4 * i + 0
  · subst e_; rw [pk_us, fR_ki rfl, pk_us]
  · rw [pk_un e_]; unfold fRow; repeat' split
    all_goals first | rfl | (rw [pk_un (by omega)]) | omega
theorem fU_te {i : Nat} {k : Nat} {v : Int32} (hk_ : k = 44 + 4 * i + 1) : upd (fRow la ns sd to he sw nh ki te mi ar z) k v = (fRow la ns sd to he sw nh ki (upd te i v) mi ar z) := by
  subst hk_; funext j_
  by_cases e_ : j_ = 44 + 4 * i + 1
  · subst e_; rw [pk_us, fR_te rfl, pk_us]
  · rw [pk_un e_]; unfold fRow; repeat' split
    all_goals first | rfl | (rw [pk_un (by omega)]) | omega
theorem fU_mi {i : Nat} {k : Nat} {v : Int32} (hk_ : k = 44 + 4 * i + 2) : upd (fRow la ns sd to he sw nh ki te mi ar z) k v = (fRow la ns sd to he sw nh ki te (upd mi i v) ar z) := by
  subst hk_; funext j_
  by_cases e_ : j_ = 44 + 4 * i + 2
  · subst e_; rw [pk_us, fR_mi rfl, pk_us]
  · rw [pk_un e_]; unfold fRow; repeat' split
    all_goals first | rfl | (rw [pk_un (by omega)]) | omega
theorem fU_ar {i : Nat} {k : Nat} {v : Int32} (hk_ : k = 44 + 4 * i + 3) : upd (fRow la ns sd to he sw nh ki te mi ar z) k v = (fRow la ns sd to he sw nh ki te mi (upd ar i v) z) := by
  subst hk_; funext j_
  by_cases e_ : j_ = 44 + 4 * i + 3
  · subst e_; rw [pk_us, fR_ar rfl, pk_us]
  · rw [pk_un e_]; unfold fRow; repeat' split
    all_goals first | rfl | (rw [pk_un (by omega)]) | omega
theorem fU_sd {k : Nat} {v : Nat} (hk_ : k = 4) : upd (fRow la ns sd to he sw nh ki te mi ar z) k (nI v) = (fRow la ns (v) to he sw nh ki te mi ar z) := by
  subst hk_; funext j_
  by_cases e_ : j_ = 4
  · subst e_; rw [pk_us]; rfl
  · rw [pk_un e_]; unfold fRow; repeat' split
    all_goals first | rfl | omega
theorem fU_ns {k : Nat} {v : Nat} (hk_ : k = 5) : upd (fRow la ns sd to he sw nh ki te mi ar z) k (nI v) = (fRow la (v) sd to he sw nh ki te mi ar z) := by
  subst hk_; funext j_
  by_cases e_ : j_ = 5
  · subst e_; rw [pk_us]; rfl
  · rw [pk_un e_]; unfold fRow; repeat' split
    all_goals first | rfl | omega
theorem fU_nh {k : Nat} {v : Nat} (hk_ : k = 6) : upd (fRow la ns sd to he sw nh ki te mi ar z) k (nI v) = (fRow la ns sd to he sw (v) ki te mi ar z) := by
  subst hk_; funext j_
  by_cases e_ : j_ = 6
  · subst e_; rw [pk_us]; rfl
  · rw [pk_un e_]; unfold fRow; repeat' split
    all_goals first | rfl | omega
theorem fU_z {k : Nat} {v : Int32} (hk_ : k = 7) : upd (fRow la ns sd to he sw nh ki te mi ar z) k v = (fRow la ns sd to he sw nh ki te mi ar (v)) := by
  subst hk_; funext j_
  by_cases e_ : j_ = 7
  · subst e_; rw [pk_us]; rfl
  · rw [pk_un e_]; unfold fRow; repeat' split
    all_goals first | rfl | omega
end MR
