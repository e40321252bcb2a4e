/-! the way in -/
section LWI
variable {l : Launch} {G : Gd} {B : Bd} {cc : ByteArray} {nL : Nat} {own : String} {lv : List (Option Value)} {st : List Value} {ws ws' : va_W}
theorem J_perm (pc : Nat) (is : List Nat) (hn : va_nd is = true) (hs : is.map (fun i => ws[i]?) = ws'.map some) (k : J l G B cc nL own pc lv st ws') : J l G B cc nL own pc lv st ws := by
  intro p e s m args below meth c A H locs ls C hP hD hS hl
  refine k p e s m args below meth c A H locs ls C (fun j_ q_ hq_ => ?_) (hD.sub is hn hs) hS hl
  obtain ⟨i_, g1_, g2_⟩ := pick_at hs hq_
  exact hP i_ q_ g2_
end LWI
theorem fRow_1 : ∀ j, j < 76 → (upd fRow0 7 1) j = (fRow (svI [2, 3, 1, 20]) 0 0 zF zF zF 0 zF zF zF zF 1) j := by decide +kernel
theorem fRow_z : ∀ j, j < 76 → zF j = (fRow zF 0 0 zF zF zF 0 zF zF zF zF 0) j := by decide +kernel
abbrev mOnes : Nat → Int32 := upd (upd (upd (upd zF 0 (-1)) 1 (-1)) 2 (-1)) 3 (-1)
abbrev kZ : Kc := (zF, 0, 0, zF, zF, zF, 0, zF, zF, zF, zF, 0)
abbrev kC : Kc := (svI [2, 3, 1, 20], 0, 0, zF, zF, zF, 0, zF, zF, zF, zF, 1)
abbrev CW0 (G : Gd) (o : Nat) (D : Nat → Nat) : List va_W := CW G o D (svI [2, 3, 1, 20]) 0 0 zF zF zF 0 zF zF zF zF 1 kC kC kC 0 0 0 0 0 0 (-3) zF 0 zF (fun _ => -1) (fun _ => 0) (fun _ => zJ) zF zF zF zF 0 0 0 0 0 zF
abbrev MW0 (G : Gd) (q : Nat) (E : Nat → Nat) : List va_W := MW G q E (svI [2, 3, 1, 20]) 0 0 zF zF zF 0 zF zF zF zF 1 kZ kZ kZ 0 0 0 0 0 0 0 0 zF 0 zF zF mOnes zF zJ mOnes zF zF 0 0 0 0 0 zF
theorem inv0 {G : Gd} {o q : Nat} {D E : Nat → Nat} : Inv G o D q E (wF (CW0 G o D)) (wF (MW0 G q E)) :=
  Inv.mk rfl rfl ⟨fun _ _ => rfl, fun _ h => absurd h (Nat.not_lt_zero _), fun _ h => absurd h (Nat.not_lt_zero _), by decide, by decide, by decide, ⟨20, by decide, rfl⟩, fun _ h => absurd h (Nat.not_lt_zero _), fun _ h => absurd h (Nat.not_lt_zero _)⟩ (Or.inl rfl) rt_0 rw_0
    (fun s hs => by rcases s4 hs with rfl | rfl | rfl | rfl <;> exact ⟨rfl, rfl, by decide, by decide +kernel, fun i hi => rfl⟩) (fun s hs => by rcases s4 hs with rfl | rfl | rfl | rfl <;> exact Or.inl ⟨rfl, rfl⟩) rb_0
set_option maxRecDepth 100000 in
set_option maxHeartbeats 8000000 in
theorem lw_way (l : Launch) (G : Gd) (b L : Nat) (xs : Nat → Int32) (hL : L ≤ 2560) : JI l G (bdL G b L xs 0 0) (fun _ => True) code 4 "GooseArmsLaw" 0 [some (.ref b), none, none, none] [] [] := by
  refine JI_new (fs := [.null, .null, .null, .null, .int 0, .null, .null, .int 0, .null, .null, .null]) 0 FT5 tyX5 tyX5_ok w_15 w_16 w_1 (fun j_ hj_ => by rcases (show j_ = 0 ∨ j_ = 1 ∨ j_ = 2 ∨ j_ = 3 ∨ j_ = 4 ∨ j_ = 5 ∨ j_ = 6 ∨ j_ = 7 ∨ j_ = 8 ∨ j_ = 9 ∨ j_ = 10 by omega) with rfl | rfl | rfl | rfl | rfl | rfl | rfl | rfl | rfl | rfl | rfl <;> rfl) rfl rfl dL_law_0 (fun q_0 => ?_)
  refine JI_dup 3 dL_law_3 rfl ?_
  refine JI_callI 4 (c_X5_init l G q_0) (fun _ _ h_ => h_.1) w_17 w_18 w_1 w_19 okI_X5_init rfl 0 rfl rfl rfl rfl rfl (leb rfl) dL_law_4 (fun fs_ ex_ hx_ => ?_)
  obtain ⟨x0_4, rfl, rfl⟩ := hx_
  refine JI_astore_n (lv' := [some (.ref b), some (.ref q_0), none, none]) 7 1 dL_law_7 rfl (by decide) rfl ?_
  refine JI_new (fs := [.null, .null, .null, .null, .int 0, .null, .int 0, .int 0, .int 0, .int 0, .long 0, .int 0, .int 0, .null, .null, .int 0, .null, .null, .null, .null, .null, .null, .int 0, .int 0, .int 0, .null, .int 0, .int 0]) 8 FT6 tyX6 tyX6_ok w_780 w_781 w_7 (fun j_ hj_ => by rcases (show j_ = 0 ∨ j_ = 1 ∨ j_ = 2 ∨ j_ = 3 ∨ j_ = 4 ∨ j_ = 5 ∨ j_ = 6 ∨ j_ = 7 ∨ j_ = 8 ∨ j_ = 9 ∨ j_ = 10 ∨ j_ = 11 ∨ j_ = 12 ∨ j_ = 13 ∨ j_ = 14 ∨ j_ = 15 ∨ j_ = 16 ∨ j_ = 17 ∨ j_ = 18 ∨ j_ = 19 ∨ j_ = 20 ∨ j_ = 21 ∨ j_ = 22 ∨ j_ = 23 ∨ j_ = 24 ∨ j_ = 25 ∨ j_ = 26 ∨ j_ = 27 by omega) with rfl | rfl | rfl | rfl | rfl | rfl | rfl | rfl | rfl | rfl | rfl | rfl | rfl | rfl | rfl | rfl | rfl | rfl | rfl | rfl | rfl | rfl | rfl | rfl | rfl | rfl | rfl | rfl <;> rfl) rfl rfl dL_law_8 (fun q_8 => ?_)
  refine JI_dup 11 dL_law_11 rfl ?_
  refine JI_callI 12 (c_X6_init l G q_8) (fun _ _ h_ => h_.1) w_782 w_783 w_7 w_784 okI_X6_init rfl 56 rfl rfl rfl rfl rfl (leb rfl) dL_law_12 (fun fs_ ex_ hx_ => ?_)
  obtain ⟨x0_12, rfl, rfl⟩ := hx_
  refine JI_astore_n (lv' := [some (.ref b), some (.ref q_0), some (.ref q_8), none]) 15 2 dL_law_15 rfl (by decide) rfl ?_
  refine JI_iconst (v := 0) 16 dL_law_16 rfl ?_
  refine JI_istore_n (lv' := [some (.ref b), some (.ref q_0), some (.ref q_8), some (.int 0)]) 17 3 dL_law_17 rfl (by decide) rfl ?_
  refine JI.of (B := bdF G b L xs) ?_
  refine J_arrI (g := fRow (svI [2, 3, 1, 20]) 0 0 zF zF zF 0 zF zF zF zF 1) 18 57 rfl fRow_1 rfl ?_
  refine J_arrI (g := fRow zF 0 0 zF zF zF 0 zF zF zF zF 0) 18 58 rfl fRow_z rfl ?_
  refine J_arrI (g := fRow zF 0 0 zF zF zF 0 zF zF zF zF 0) 18 59 rfl fRow_z rfl ?_
  refine J_arrI (g := fRow zF 0 0 zF zF zF 0 zF zF zF zF 0) 18 60 rfl fRow_z rfl ?_
  refine J_perm (ws' := wF [wF (CW0 G q_0 x0_4), wF (MW0 G q_8 x0_12)]) 18 [0, 1, 2, 3, 4, 5, 6, 7, 8, 9, 10, 11, 12, 13, 14, 15, 16, 17, 18, 19, 20, 21, 22, 23, 24, 25, 26, 27, 28, 29, 30, 31, 32, 33, 34, 35, 36, 37, 38, 39, 40, 41, 43, 45, 47, 42, 44, 46, 48, 49, 50, 51, 52, 53, 54, 55, 56, 57, 58, 59, 60, 61, 62, 63, 64, 65, 66, 67, 68, 69, 70] (by decide +kernel) rfl ?_
  exact lw_loop hL L 0 _ _ (by omega) (by omega) inv0
