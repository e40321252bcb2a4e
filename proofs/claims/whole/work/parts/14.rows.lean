/-! more rows: a cell told by another function; copies of whole arrays -/
theorem cellI_eq {cA : ClassId} {n : Nat} {f g : Nat → Int32} (h_ : ∀ j : Nat, j < n → f j = g j) : vp_cell cA (n, .inl f) = vp_cell cA (n, .inl g) := by
  rw [vp_cell_i, vp_cell_i]
  unfold arrV
  have e_ : (fun j_ : Fin n => Value.int (f j_.val)) = fun j_ : Fin n => Value.int (g j_.val) := funext fun j_ => by rw [h_ j_.val j_.isLt]
  rw [e_]
theorem cellJ_eq {cA : ClassId} {n : Nat} {f g : Nat → Int64} (h_ : ∀ j : Nat, j < n → f j = g j) : vp_cell cA (n, .inr (.inl f)) = vp_cell cA (n, .inr (.inl g)) := by
  rw [vp_cell_l, vp_cell_l]
  unfold arrV
  have e_ : (fun j_ : Fin n => Value.long (f j_.val)) = fun j_ : Fin n => Value.long (g j_.val) := funext fun j_ => by rw [h_ j_.val j_.isLt]
  rw [e_]
section JX
variable {l : Launch} {G : Gd} {B : Bd} {cc : ByteArray} {nL : Nat} {own : String} {lv : List (Option Value)} {st : List Value} {ws : va_W}
theorem J_arrI (pc q0 : Nat) {a n : Nat} {cA : ClassId} {f g : Nat → Int32} (ha : ws[q0]? = some (a, .inl (cA, n, .inl f))) (h_ : ∀ j : Nat, j < n → f j = g j) {ws' : va_W} (hws : ws.set q0 (a, .inl (cA, n, .inl g)) = ws') (k : J l G B cc nL own pc lv st ws') : J l G B cc nL own pc lv st ws := by
  intro p e s m args below meth c A H locs ls C hP hD hS hl
  subst hws
  refine k p e s m args below meth c A H locs ls C (hP.set hD ha ?_ (fun _ _ => rfl)) (hD.set ha) hS hl
  show H[a]? = some (vp_cell cA (n, .inl g))
  rw [← cellI_eq h_]
  exact hP q0 _ ha
theorem J_arrJ (pc q0 : Nat) {a n : Nat} {cA : ClassId} {f g : Nat → Int64} (ha : ws[q0]? = some (a, .inl (cA, n, .inr (.inl f)))) (h_ : ∀ j : Nat, j < n → f j = g j) {ws' : va_W} (hws : ws.set q0 (a, .inl (cA, n, .inr (.inl g))) = ws') (k : J l G B cc nL own pc lv st ws') : J l G B cc nL own pc lv st ws := by
  intro p e s m args below meth c A H locs ls C hP hD hS hl
  subst hws
  refine k p e s m args below meth c A H locs ls C (hP.set hD ha ?_ (fun _ _ => rfl)) (hD.set ha) hS hl
  show H[a]? = some (vp_cell cA (n, .inr (.inl g)))
  rw [← cellJ_eq h_]
  exact hP q0 _ ha
/-- a whole array of ints copied onto one as long -/
theorem J_copyi (pc q0 q1 n : Nat) {a0 a : Nat} {f g : Nat → Int32} {x y z : Int32} {index : Nat} (hw : Cond.methodLink own index arraycopyName ∈ TB) (hnat : Cond.native arraycopyName ∈ TB) (hstat : Cond.static arraycopyName ∈ TB) (hini : Cond.initialized "java/lang/System" ∈ TB) (ha0 : ws[q0]? = some (a0, .inl (G.2.1 0, n, .inl f))) (ha1 : ws[q1]? = some (a, .inl (G.2.1 0, n, .inl g))) (hx : x = 0) (hy : y = 0) (hz : z = nI n) (hn : n < 2 ^ 31) (hfit : fitR B 0 21 = true) (hst : (st.map fun v => v.category).sum ≤ 8) {ws' : va_W} (hws : ws.set q1 (a, .inl (G.2.1 0, n, .inl f)) = ws') (hdg : decode cc pc = .ok (.invokestatic index, 3)) (k : J l G B cc nL own (pc + 3) lv st ws') : J l G B cc nL own pc lv (.int z :: .int y :: .ref a :: .int x :: .ref a0 :: st) ws := by
  intro p e s m args below meth c A H locs ls C hP hD hS hl
  subst hx; subst hy; subst hz; subst hws
  have z0_ : (0 : Int32).toNatClampNeg = 0 := by decide
  have zn_ : (nI n).toNatClampNeg = n := nI_clamp hn
  simp only [fitR, Bool.and_eq_true, Nat.ble_eq] at hfit
  have hw_ : nativeFrameWords "java/lang/System" "arraycopy" 5 = 7 := by decide +kernel
  refine va_copyi C.1 C.2.1 (C.2.2.1.trans hl.1.symm) C.2.2.2.2.1 (C.2.2.2.1 _ hw) (C.2.2.2.1 _ hnat) (C.2.2.2.1 _ hstat) (C.2.2.2.1 _ hini) C.2.2.2.2.2.2.2.1 hP hD hS q0 q1 0 0 ha0 ha1 rfl rfl rfl (by decide) (by decide) (nI_pos hn) (by rw [z0_, zn_]; omega) (by rw [z0_, zn_]; omega) (fun _ _ => rfl) (by omega) (by rw [hw_]; omega) hdg (fun H1 locs1 hP1 hD1 hS1 => ?_)
  rw [z0_, zn_] at hP1 hD1
  refine k p e s m args below meth c A H1 locs1 ls C ?_ (va_D.same ?_ hD1) hS1 hl
  · have e_ : ((ws.set q1 (a, .inl (G.2.1 0, n, .inl (va_cpy f g 0 0 n)))).set q1 (a, .inl (G.2.1 0, n, .inl f))) = ws.set q1 (a, .inl (G.2.1 0, n, .inl f)) := List.set_set ..
    have hq_ : q1 < ws.length := (List.getElem?_eq_some_iff.mp ha1).1
    have h1_ : (ws.set q1 (a, .inl (G.2.1 0, n, .inl (va_cpy f g 0 0 n))))[q1]? = some (a, .inl (G.2.1 0, n, .inl (va_cpy f g 0 0 n))) := List.getElem?_set_self hq_
    rw [← e_]
    refine hP1.set hD1 h1_ ?_ (fun _ _ => rfl)
    show H1[a]? = some (vp_cell (G.2.1 0) (n, .inl f))
    rw [← cellI_eq (f := va_cpy f g 0 0 n) (fun j_ hj_ => by rw [pk_cpy_in (Nat.zero_le _) (by omega)]; congr 1; omega)]
    exact hP1 q1 _ h1_
  · rw [List.map_set, List.map_set]
end JX
