/-! the start: what stands fast -/
theorem len_lt {args : Array Value} {first : State} {o : Option Outcome} {idx : List Nat} {s : State} {t : Term} {v : Value} (h : (Term.length t).eval args first o idx s = some v) : ∃ a cell, t.eval args first o idx s = some (.ref a) ∧ s.arrayAt? a = some cell ∧ v = .int cell.slots.size.toInt32 ∧ cell.slots.size < 2147483648 := by
  simp only [Term.eval, Option.bind_eq_bind] at h
  cases ht : t.eval args first o idx s with
  | none => simp [ht] at h
  | some x =>
    cases x <;> simp [ht] at h
    case ref a =>
      obtain ⟨cell, hcell, h⟩ := Option.bind_eq_some_iff.mp h
      by_cases hn : cell.slots.size < 2147483648
      · rw [if_pos hn] at h; cases h; exact ⟨a, cell, rfl, hcell, rfl, hn⟩
      · rw [if_neg hn] at h; cases h
theorem ws_K {args : Array Value} {s : State} (hts : ∀ w ∈ lw_tbl, w.before args s = true) : ∃ (C : va_G) (T : Nat → ClassId), va_K C vwCl [(T 0, .int), (T 1, .byte), (T 2, .long), (T 3, .object "GooseArms$Sheet"), (T 4, .object "GooseArms$Shelf")] s := by
  obtain ⟨c0, i0, k0⟩ := u_known hts FT0.1 (hts (.instantiable RX0 12) (by decide +kernel))
  obtain ⟨c1, i1, k1⟩ := u_known hts FT1.1 (hts (.instantiable RX1 6) (by decide +kernel))
  obtain ⟨c2, i2, k2⟩ := u_known hts FT2.1 (hts (.instantiable RX2 3) (by decide +kernel))
  obtain ⟨c3, i3, k3⟩ := u_known hts FT3.1 (hts (.instantiable RX3 4) (by decide +kernel))
  obtain ⟨c4, i4, k4⟩ := u_known hts FT4.1 (hts (.instantiable RX4 7) (by decide +kernel))
  obtain ⟨c5, i5, k5⟩ := u_known hts FT5.1 (hts (.instantiable RX5 11) (by decide +kernel))
  obtain ⟨c6, i6, k6⟩ := u_known hts FT6.1 (hts (.instantiable RX6 28) (by decide +kernel))
  obtain ⟨a0, q0, p0, f0, g0, h0⟩ := Cond.arrayClass_spec (hts (.arrayClass .int) (by decide +kernel))
  obtain ⟨a1, q1, p1, f1, g1, h1⟩ := Cond.arrayClass_spec (hts (.arrayClass .byte) (by decide +kernel))
  obtain ⟨a2, q2, p2, f2, g2, h2⟩ := Cond.arrayClass_spec (hts (.arrayClass .long) (by decide +kernel))
  obtain ⟨p3, a3, q3, e3, -, g3, h3, f3⟩ := Cond.arrayOver_spec (hts (.arrayOver (.object "GooseArms$Sheet")) (by decide +kernel))
  obtain ⟨p4, a4, q4, e4, -, g4, h4, f4⟩ := Cond.arrayOver_spec (hts (.arrayOver (.object "GooseArms$Shelf")) (by decide +kernel))
  refine ⟨(fun c => [c0, c1, c2, c3, c4, c5, c6].getD c 0, fun c => [i0, i1, i2, i3, i4, i5, i6].getD c (fun _ => 0)), fun t => [a0, a1, a2, a3, a4].getD t 0, fun c q hq => ?_, fun k q hq => ?_⟩
  · rcases c with _ | _ | _ | _ | _ | _ | _ | c
    · cases hq; exact k0
    · cases hq; exact k1
    · cases hq; exact k2
    · cases hq; exact k3
    · cases hq; exact k4
    · cases hq; exact k5
    · cases hq; exact k6
    · cases hq
  · rcases k with _ | _ | _ | _ | _ | k
    · cases hq; exact ⟨fun n z => ⟨fun k h => (by cases h), q0, g0, p0, h0⟩, f0⟩
    · cases hq; exact ⟨fun n z => ⟨fun k h => (by cases h), q1, g1, p1, h1⟩, f1⟩
    · cases hq; exact ⟨fun n z => ⟨fun k h => (by cases h), q2, g2, p2, h2⟩, f2⟩
    · cases hq; exact ⟨fun n z => ⟨fun k h => (by cases h), q3, g3, p3, h3⟩, ⟨q3, p3, g3, h3, e3, f3⟩⟩
    · cases hq; exact ⟨fun n z => ⟨fun k h => (by cases h), q4, g4, p4, h4⟩, ⟨q4, p4, g4, h4, e4, f4⟩⟩
    · cases hq
section WST
variable {args : Array Value} {s : State} {A : Nat → Prop}
theorem ws_s0 (hts : ∀ w ∈ lw_tbl, w.before args s = true) (hs : ∀ w ∈ flatC (Jvm.Cond.and given_1 narrow_1), w.before args s = true) (hA : ∀ a : Nat, a < s.heap.size → ¬ A a) : ∃ t : Nat, (Term.static "GooseArms" "LAWS_AT_FIRST" "[I").eval args s none [] s = some (.ref t) ∧ va_Z "GooseArms" "LAWS_AT_FIRST" "[I" (.ref t) A s s.heap ∧ va_T .int t 4 (sv [2, 3, 1, 20]) A s s.heap := by
  have hle := va_eqt (hs (.eq (.length (.static "GooseArms" "LAWS_AT_FIRST" "[I")) (.int 4)) (by decide +kernel))
  have e0 := va_eqt (hs (.eq (.elem (.static "GooseArms" "LAWS_AT_FIRST" "[I") (.int 0)) (.int 2)) (by decide +kernel))
  have e1 := va_eqt (hs (.eq (.elem (.static "GooseArms" "LAWS_AT_FIRST" "[I") (.int 1)) (.int 3)) (by decide +kernel))
  have e2 := va_eqt (hs (.eq (.elem (.static "GooseArms" "LAWS_AT_FIRST" "[I") (.int 2)) (.int 1)) (by decide +kernel))
  have e3 := va_eqt (hs (.eq (.elem (.static "GooseArms" "LAWS_AT_FIRST" "[I") (.int 3)) (.int 20)) (by decide +kernel))
  obtain ⟨t, ht, hT⟩ := va_Tof (tm := (.static "GooseArms" "LAWS_AT_FIRST" "[I")) (ty := .int) (N := 4) (f := sv [2, 3, 1, 20]) (A := A) (by decide) (hs (.arrayOf (.static "GooseArms" "LAWS_AT_FIRST" "[I") .int) (by decide +kernel)) hle (fun j hj => by
    rcases (show j = 0 ∨ j = 1 ∨ j = 2 ∨ j = 3 by omega) with rfl | rfl | rfl | rfl
    · exact e0
    · exact e1
    · exact e2
    · exact e3) hA
  exact ⟨t, ht, va_Zof (hts (.laysStatic "GooseArms" "LAWS_AT_FIRST" "[I") (by decide +kernel)) (hts (.initialized "GooseArms") (by decide +kernel)) ht hA, hT⟩
theorem ws_s1 (hts : ∀ w ∈ lw_tbl, w.before args s = true) (hs : ∀ w ∈ flatC (Jvm.Cond.and given_1 narrow_1), w.before args s = true) (hA : ∀ a : Nat, a < s.heap.size → ¬ A a) : ∃ t : Nat, (Term.static "GooseArms" "MOST_OF_LAW" "[I").eval args s none [] s = some (.ref t) ∧ va_Z "GooseArms" "MOST_OF_LAW" "[I" (.ref t) A s s.heap ∧ va_T .int t 4 (sv [9, 9, 9, 99]) A s s.heap := by
  have hle := va_eqt (hs (.eq (.length (.static "GooseArms" "MOST_OF_LAW" "[I")) (.int 4)) (by decide +kernel))
  have e0 := va_eqt (hs (.eq (.elem (.static "GooseArms" "MOST_OF_LAW" "[I") (.int 0)) (.int 9)) (by decide +kernel))
  have e1 := va_eqt (hs (.eq (.elem (.static "GooseArms" "MOST_OF_LAW" "[I") (.int 1)) (.int 9)) (by decide +kernel))
  have e2 := va_eqt (hs (.eq (.elem (.static "GooseArms" "MOST_OF_LAW" "[I") (.int 2)) (.int 9)) (by decide +kernel))
  have e3 := va_eqt (hs (.eq (.elem (.static "GooseArms" "MOST_OF_LAW" "[I") (.int 3)) (.int 99)) (by decide +kernel))
  obtain ⟨t, ht, hT⟩ := va_Tof (tm := (.static "GooseArms" "MOST_OF_LAW" "[I")) (ty := .int) (N := 4) (f := sv [9, 9, 9, 99]) (A := A) (by decide) (hs (.arrayOf (.static "GooseArms" "MOST_OF_LAW" "[I") .int) (by decide +kernel)) hle (fun j hj => by
    rcases (show j = 0 ∨ j = 1 ∨ j = 2 ∨ j = 3 by omega) with rfl | rfl | rfl | rfl
    · exact e0
    · exact e1
    · exact e2
    · exact e3) hA
  exact ⟨t, ht, va_Zof (hts (.laysStatic "GooseArms" "MOST_OF_LAW" "[I") (by decide +kernel)) (hts (.initialized "GooseArms") (by decide +kernel)) ht hA, hT⟩
theorem ws_s2 (hts : ∀ w ∈ lw_tbl, w.before args s = true) (hs : ∀ w ∈ flatC (Jvm.Cond.and given_1 narrow_1), w.before args s = true) (hA : ∀ a : Nat, a < s.heap.size → ¬ A a) : ∃ t : Nat, (Term.static "GooseArms$Deed" "SHAKING" "[I").eval args s none [] s = some (.ref t) ∧ va_Z "GooseArms$Deed" "SHAKING" "[I" (.ref t) A s s.heap ∧ va_T .int t 6 (sv [10, 10, 30, 51, 40, 10]) A s s.heap := by
  have hle := va_eqt (hs (.eq (.length (.static "GooseArms$Deed" "SHAKING" "[I")) (.int 6)) (by decide +kernel))
  have e0 := va_eqt (hs (.eq (.elem (.static "GooseArms$Deed" "SHAKING" "[I") (.int 0)) (.int 10)) (by decide +kernel))
  have e1 := va_eqt (hs (.eq (.elem (.static "GooseArms$Deed" "SHAKING" "[I") (.int 1)) (.int 10)) (by decide +kernel))
  have e2 := va_eqt (hs (.eq (.elem (.static "GooseArms$Deed" "SHAKING" "[I") (.int 2)) (.int 30)) (by decide +kernel))
  have e3 := va_eqt (hs (.eq (.elem (.static "GooseArms$Deed" "SHAKING" "[I") (.int 3)) (.int 51)) (by decide +kernel))
  have e4 := va_eqt (hs (.eq (.elem (.static "GooseArms$Deed" "SHAKING" "[I") (.int 4)) (.int 40)) (by decide +kernel))
  have e5 := va_eqt (hs (.eq (.elem (.static "GooseArms$Deed" "SHAKING" "[I") (.int 5)) (.int 10)) (by decide +kernel))
  obtain ⟨t, ht, hT⟩ := va_Tof (tm := (.static "GooseArms$Deed" "SHAKING" "[I")) (ty := .int) (N := 6) (f := sv [10, 10, 30, 51, 40, 10]) (A := A) (by decide) (hs (.arrayOf (.static "GooseArms$Deed" "SHAKING" "[I") .int) (by decide +kernel)) hle (fun j hj => by
    rcases (show j = 0 ∨ j = 1 ∨ j = 2 ∨ j = 3 ∨ j = 4 ∨ j = 5 by omega) with rfl | rfl | rfl | rfl | rfl | rfl
    · exact e0
    · exact e1
    · exact e2
    · exact e3
    · exact e4
    · exact e5) hA
  exact ⟨t, ht, va_Zof (hts (.laysStatic "GooseArms$Deed" "SHAKING" "[I") (by decide +kernel)) (hts (.initialized "GooseArms$Deed") (by decide +kernel)) ht hA, hT⟩
theorem ws_s3 (hts : ∀ w ∈ lw_tbl, w.before args s = true) (hs : ∀ w ∈ flatC (Jvm.Cond.and given_1 narrow_1), w.before args s = true) (hA : ∀ a : Nat, a < s.heap.size → ¬ A a) : ∃ t : Nat, (Term.static "GooseArms$Deed" "READING" "[I").eval args s none [] s = some (.ref t) ∧ va_Z "GooseArms$Deed" "READING" "[I" (.ref t) A s s.heap ∧ va_T .int t 6 (sv [11, 20, 11, 20, 41, 11]) A s s.heap := by
  have hle := va_eqt (hs (.eq (.length (.static "GooseArms$Deed" "READING" "[I")) (.int 6)) (by decide +kernel))
  have e0 := va_eqt (hs (.eq (.elem (.static "GooseArms$Deed" "READING" "[I") (.int 0)) (.int 11)) (by decide +kernel))
  have e1 := va_eqt (hs (.eq (.elem (.static "GooseArms$Deed" "READING" "[I") (.int 1)) (.int 20)) (by decide +kernel))
  have e2 := va_eqt (hs (.eq (.elem (.static "GooseArms$Deed" "READING" "[I") (.int 2)) (.int 11)) (by decide +kernel))
  have e3 := va_eqt (hs (.eq (.elem (.static "GooseArms$Deed" "READING" "[I") (.int 3)) (.int 20)) (by decide +kernel))
  have e4 := va_eqt (hs (.eq (.elem (.static "GooseArms$Deed" "READING" "[I") (.int 4)) (.int 41)) (by decide +kernel))
  have e5 := va_eqt (hs (.eq (.elem (.static "GooseArms$Deed" "READING" "[I") (.int 5)) (.int 11)) (by decide +kernel))
  obtain ⟨t, ht, hT⟩ := va_Tof (tm := (.static "GooseArms$Deed" "READING" "[I")) (ty := .int) (N := 6) (f := sv [11, 20, 11, 20, 41, 11]) (A := A) (by decide) (hs (.arrayOf (.static "GooseArms$Deed" "READING" "[I") .int) (by decide +kernel)) hle (fun j hj => by
    rcases (show j = 0 ∨ j = 1 ∨ j = 2 ∨ j = 3 ∨ j = 4 ∨ j = 5 by omega) with rfl | rfl | rfl | rfl | rfl | rfl
    · exact e0
    · exact e1
    · exact e2
    · exact e3
    · exact e4
    · exact e5) hA
  exact ⟨t, ht, va_Zof (hts (.laysStatic "GooseArms$Deed" "READING" "[I") (by decide +kernel)) (hts (.initialized "GooseArms$Deed") (by decide +kernel)) ht hA, hT⟩
theorem ws_s4 (hts : ∀ w ∈ lw_tbl, w.before args s = true) (hs : ∀ w ∈ flatC (Jvm.Cond.and given_1 narrow_1), w.before args s = true) (hA : ∀ a : Nat, a < s.heap.size → ¬ A a) : ∃ t : Nat, (Term.static "GooseArms$Deed" "PARTING" "[I").eval args s none [] s = some (.ref t) ∧ va_Z "GooseArms$Deed" "PARTING" "[I" (.ref t) A s s.heap ∧ va_T .int t 6 (sv [12, 12, 12, 50, 12, 61]) A s s.heap := by
  have hle := va_eqt (hs (.eq (.length (.static "GooseArms$Deed" "PARTING" "[I")) (.int 6)) (by decide +kernel))
  have e0 := va_eqt (hs (.eq (.elem (.static "GooseArms$Deed" "PARTING" "[I") (.int 0)) (.int 12)) (by decide +kernel))
  have e1 := va_eqt (hs (.eq (.elem (.static "GooseArms$Deed" "PARTING" "[I") (.int 1)) (.int 12)) (by decide +kernel))
  have e2 := va_eqt (hs (.eq (.elem (.static "GooseArms$Deed" "PARTING" "[I") (.int 2)) (.int 12)) (by decide +kernel))
  have e3 := va_eqt (hs (.eq (.elem (.static "GooseArms$Deed" "PARTING" "[I") (.int 3)) (.int 50)) (by decide +kernel))
  have e4 := va_eqt (hs (.eq (.elem (.static "GooseArms$Deed" "PARTING" "[I") (.int 4)) (.int 12)) (by decide +kernel))
  have e5 := va_eqt (hs (.eq (.elem (.static "GooseArms$Deed" "PARTING" "[I") (.int 5)) (.int 61)) (by decide +kernel))
  obtain ⟨t, ht, hT⟩ := va_Tof (tm := (.static "GooseArms$Deed" "PARTING" "[I")) (ty := .int) (N := 6) (f := sv [12, 12, 12, 50, 12, 61]) (A := A) (by decide) (hs (.arrayOf (.static "GooseArms$Deed" "PARTING" "[I") .int) (by decide +kernel)) hle (fun j hj => by
    rcases (show j = 0 ∨ j = 1 ∨ j = 2 ∨ j = 3 ∨ j = 4 ∨ j = 5 by omega) with rfl | rfl | rfl | rfl | rfl | rfl
    · exact e0
    · exact e1
    · exact e2
    · exact e3
    · exact e4
    · exact e5) hA
  exact ⟨t, ht, va_Zof (hts (.laysStatic "GooseArms$Deed" "PARTING" "[I") (by decide +kernel)) (hts (.initialized "GooseArms$Deed") (by decide +kernel)) ht hA, hT⟩
theorem ws_s5 (hts : ∀ w ∈ lw_tbl, w.before args s = true) (hs : ∀ w ∈ flatC (Jvm.Cond.and given_1 narrow_1), w.before args s = true) (hA : ∀ a : Nat, a < s.heap.size → ¬ A a) : ∃ t : Nat, (Term.static "GooseArms$Deed" "SWEARING" "[I").eval args s none [] s = some (.ref t) ∧ va_Z "GooseArms$Deed" "SWEARING" "[I" (.ref t) A s s.heap ∧ va_T .int t 6 (sv [13, 13, 31, 13, 31, 60]) A s s.heap := by
  have hle := va_eqt (hs (.eq (.length (.static "GooseArms$Deed" "SWEARING" "[I")) (.int 6)) (by decide +kernel))
  have e0 := va_eqt (hs (.eq (.elem (.static "GooseArms$Deed" "SWEARING" "[I") (.int 0)) (.int 13)) (by decide +kernel))
  have e1 := va_eqt (hs (.eq (.elem (.static "GooseArms$Deed" "SWEARING" "[I") (.int 1)) (.int 13)) (by decide +kernel))
  have e2 := va_eqt (hs (.eq (.elem (.static "GooseArms$Deed" "SWEARING" "[I") (.int 2)) (.int 31)) (by decide +kernel))
  have e3 := va_eqt (hs (.eq (.elem (.static "GooseArms$Deed" "SWEARING" "[I") (.int 3)) (.int 13)) (by decide +kernel))
  have e4 := va_eqt (hs (.eq (.elem (.static "GooseArms$Deed" "SWEARING" "[I") (.int 4)) (.int 31)) (by decide +kernel))
  have e5 := va_eqt (hs (.eq (.elem (.static "GooseArms$Deed" "SWEARING" "[I") (.int 5)) (.int 60)) (by decide +kernel))
  obtain ⟨t, ht, hT⟩ := va_Tof (tm := (.static "GooseArms$Deed" "SWEARING" "[I")) (ty := .int) (N := 6) (f := sv [13, 13, 31, 13, 31, 60]) (A := A) (by decide) (hs (.arrayOf (.static "GooseArms$Deed" "SWEARING" "[I") .int) (by decide +kernel)) hle (fun j hj => by
    rcases (show j = 0 ∨ j = 1 ∨ j = 2 ∨ j = 3 ∨ j = 4 ∨ j = 5 by omega) with rfl | rfl | rfl | rfl | rfl | rfl
    · exact e0
    · exact e1
    · exact e2
    · exact e3
    · exact e4
    · exact e5) hA
  exact ⟨t, ht, va_Zof (hts (.laysStatic "GooseArms$Deed" "SWEARING" "[I") (by decide +kernel)) (hts (.initialized "GooseArms$Deed") (by decide +kernel)) ht hA, hT⟩
set_option maxRecDepth 100000 in
set_option maxHeartbeats 8000000 in
theorem ws_m1 : ∀ i, i < 15 → (Cond.exactly (Term.string "GooseArms$Tape" (kSi.getD i 0)) "java/lang/String") ∈ flatC (Jvm.Cond.and given_1 narrow_1) := by decide +kernel
theorem ws_m2 : ∀ i, i < 15 → (Cond.eq (.field (Term.string "GooseArms$Tape" (kSi.getD i 0)) "java/lang/String" "coder" "B") (.int 0)) ∈ flatC (Jvm.Cond.and given_1 narrow_1) := by decide +kernel
theorem ws_m3 : ∀ i, i < 15 → (Cond.arrayOf (.field (Term.string "GooseArms$Tape" (kSi.getD i 0)) "java/lang/String" "value" "[B") .byte) ∈ flatC (Jvm.Cond.and given_1 narrow_1) := by decide +kernel
theorem ws_m4 : ∀ i, i < 15 → (Cond.eq (.length (.field (Term.string "GooseArms$Tape" (kSi.getD i 0)) "java/lang/String" "value" "[B")) (.int (Int32.ofNat (kSl.getD i 0)))) ∈ flatC (Jvm.Cond.and given_1 narrow_1) := by decide +kernel
theorem ws_m5 : ∀ i, i < 15 → ∀ j, j < kSl.getD i 0 → (Cond.eq (.elem (.field (Term.string "GooseArms$Tape" (kSi.getD i 0)) "java/lang/String" "value" "[B") (.int (Int32.ofNat j))) (.int ((kSb.getD i []).getD j 0))) ∈ flatC (Jvm.Cond.and given_1 narrow_1) := by decide +kernel
theorem ws_m6_1 : ∀ j, j < 1 → (Cond.not (Cond.eq (Term.string "GooseArms$Tape" (kSi.getD j 0)) (Term.string "GooseArms$Tape" 122))) ∈ flatC (Jvm.Cond.and given_1 narrow_1) := by decide +kernel
theorem ws_m6_2 : ∀ j, j < 2 → (Cond.not (Cond.eq (Term.string "GooseArms$Tape" (kSi.getD j 0)) (Term.string "GooseArms$Tape" 124))) ∈ flatC (Jvm.Cond.and given_1 narrow_1) := by decide +kernel
theorem ws_m6_3 : ∀ j, j < 3 → (Cond.not (Cond.eq (Term.string "GooseArms$Tape" (kSi.getD j 0)) (Term.string "GooseArms$Tape" 126))) ∈ flatC (Jvm.Cond.and given_1 narrow_1) := by decide +kernel
theorem ws_m6_4 : ∀ j, j < 4 → (Cond.not (Cond.eq (Term.string "GooseArms$Tape" (kSi.getD j 0)) (Term.string "GooseArms$Tape" 128))) ∈ flatC (Jvm.Cond.and given_1 narrow_1) := by decide +kernel
theorem ws_m6_5 : ∀ j, j < 5 → (Cond.not (Cond.eq (Term.string "GooseArms$Tape" (kSi.getD j 0)) (Term.string "GooseArms$Tape" 130))) ∈ flatC (Jvm.Cond.and given_1 narrow_1) := by decide +kernel
theorem ws_m6_6 : ∀ j, j < 6 → (Cond.not (Cond.eq (Term.string "GooseArms$Tape" (kSi.getD j 0)) (Term.string "GooseArms$Tape" 132))) ∈ flatC (Jvm.Cond.and given_1 narrow_1) := by decide +kernel
theorem ws_m6_7 : ∀ j, j < 7 → (Cond.not (Cond.eq (Term.string "GooseArms$Tape" (kSi.getD j 0)) (Term.string "GooseArms$Tape" 134))) ∈ flatC (Jvm.Cond.and given_1 narrow_1) := by decide +kernel
theorem ws_m6_8 : ∀ j, j < 8 → (Cond.not (Cond.eq (Term.string "GooseArms$Tape" (kSi.getD j 0)) (Term.string "GooseArms$Tape" 136))) ∈ flatC (Jvm.Cond.and given_1 narrow_1) := by decide +kernel
theorem ws_m6_9 : ∀ j, j < 9 → (Cond.not (Cond.eq (Term.string "GooseArms$Tape" (kSi.getD j 0)) (Term.string "GooseArms$Tape" 138))) ∈ flatC (Jvm.Cond.and given_1 narrow_1) := by decide +kernel
theorem ws_m6_10 : ∀ j, j < 10 → (Cond.not (Cond.eq (Term.string "GooseArms$Tape" (kSi.getD j 0)) (Term.string "GooseArms$Tape" 48))) ∈ flatC (Jvm.Cond.and given_1 narrow_1) := by decide +kernel
theorem ws_m6_11 : ∀ j, j < 11 → (Cond.not (Cond.eq (Term.string "GooseArms$Tape" (kSi.getD j 0)) (Term.string "GooseArms$Tape" 83))) ∈ flatC (Jvm.Cond.and given_1 narrow_1) := by decide +kernel
theorem ws_m6_12 : ∀ j, j < 12 → (Cond.not (Cond.eq (Term.string "GooseArms$Tape" (kSi.getD j 0)) (Term.string "GooseArms$Tape" 89))) ∈ flatC (Jvm.Cond.and given_1 narrow_1) := by decide +kernel
theorem ws_m6_13 : ∀ j, j < 13 → (Cond.not (Cond.eq (Term.string "GooseArms$Tape" (kSi.getD j 0)) (Term.string "GooseArms$Tape" 98))) ∈ flatC (Jvm.Cond.and given_1 narrow_1) := by decide +kernel
theorem ws_m6_14 : ∀ j, j < 14 → (Cond.not (Cond.eq (Term.string "GooseArms$Tape" (kSi.getD j 0)) (Term.string "GooseArms$Tape" 100))) ∈ flatC (Jvm.Cond.and given_1 narrow_1) := by decide +kernel
theorem ws_m6 : ∀ i, i < 15 → ∀ j, j < i → (Cond.not (Cond.eq (Term.string "GooseArms$Tape" (kSi.getD j 0)) (Term.string "GooseArms$Tape" (kSi.getD i 0)))) ∈ flatC (Jvm.Cond.and given_1 narrow_1) := by
  intro i hi
  rcases (show i = 0 ∨ i = 1 ∨ i = 2 ∨ i = 3 ∨ i = 4 ∨ i = 5 ∨ i = 6 ∨ i = 7 ∨ i = 8 ∨ i = 9 ∨ i = 10 ∨ i = 11 ∨ i = 12 ∨ i = 13 ∨ i = 14 by omega) with rfl | rfl | rfl | rfl | rfl | rfl | rfl | rfl | rfl | rfl | rfl | rfl | rfl | rfl | rfl
  · intro j hj; omega
  · exact ws_m6_1
  · exact ws_m6_2
  · exact ws_m6_3
  · exact ws_m6_4
  · exact ws_m6_5
  · exact ws_m6_6
  · exact ws_m6_7
  · exact ws_m6_8
  · exact ws_m6_9
  · exact ws_m6_10
  · exact ws_m6_11
  · exact ws_m6_12
  · exact ws_m6_13
  · exact ws_m6_14
theorem ws_m7 : ∀ i, i < 15 → (Cond.stringRef "GooseArms$Tape" (kSi.getD i 0) (kSt.getD i "")) ∈ lw_tbl := by decide +kernel
theorem ws_S (hs : ∀ w ∈ flatC (Jvm.Cond.and given_1 narrow_1), w.before args s = true) (hA : ∀ a : Nat, a < s.heap.size → ¬ A a) : ∃ adK adV : Nat → Nat, vk_S 15 kSl kSb adK adV A s s.heap ∧ ∀ i : Nat, i < 15 → (Term.string "GooseArms$Tape" (kSi.getD i 0)).eval args s none [] s = some (.ref (adK i)) :=
  vk_Sof (tm := fun i => Term.string "GooseArms$Tape" (kSi.getD i 0)) (by decide) (fun i hi => hs _ (ws_m1 i hi)) (fun i hi => hs _ (ws_m2 i hi)) (fun i hi => hs _ (ws_m3 i hi)) (fun i hi => hs _ (ws_m4 i hi)) (fun i hi j hj => hs _ (ws_m5 i hi j hj)) (fun i j hi hj hn => (Nat.lt_or_gt_of_ne hn).elim (fun z => Or.inl (hs _ (ws_m6 j hj i z))) (fun z => Or.inr (hs _ (ws_m6 i hi j z)))) hA
set_option maxRecDepth 100000 in
set_option maxHeartbeats 8000000 in
theorem ws_all (hts : ∀ w ∈ lw_tbl, w.before args s = true) (hs : ∀ w ∈ flatC (Jvm.Cond.and given_1 narrow_1), w.before args s = true) (hA : ∀ a : Nat, a < s.heap.size → ¬ A a) : ∃ G : Gd, va_K G.1 vwCl (gT G) s ∧ gG G A s s.heap ∧ gEX G A s := by
  obtain ⟨C, T, hK⟩ := ws_K hts
  obtain ⟨t0, u0, z0, y0⟩ := ws_s0 (A := A) hts hs hA
  obtain ⟨t1, u1, z1, y1⟩ := ws_s1 (A := A) hts hs hA
  obtain ⟨t2, u2, z2, y2⟩ := ws_s2 (A := A) hts hs hA
  obtain ⟨t3, u3, z3, y3⟩ := ws_s3 (A := A) hts hs hA
  obtain ⟨t4, u4, z4, y4⟩ := ws_s4 (A := A) hts hs hA
  obtain ⟨t5, u5, z5, y5⟩ := ws_s5 (A := A) hts hs hA
  obtain ⟨adK, adV, hS, hE⟩ := ws_S (A := A) hs hA
  let g : Nat → Nat := fun k => if k < 10 then [t0, t1, t2, t3, t4, t5].getD k 0 else if k < 30 then adK (k - 10) else adV (k - 30)
  have e1 : ∀ i, i < 15 → g (10 + i) = adK i := fun i hi => by show (if _ then _ else if _ then _ else _) = _; rw [if_neg (by omega), if_pos (by omega), Nat.add_sub_cancel_left]
  have e2 : ∀ i, i < 15 → g (30 + i) = adV i := fun i hi => by show (if _ then _ else if _ then _ else _) = _; rw [if_neg (by omega), if_neg (by omega), Nat.add_sub_cancel_left]
  refine ⟨(C, T, g), hK, ⟨⟨z0, y0⟩, ⟨z1, y1⟩, ⟨z2, y2⟩, ⟨z3, y3⟩, ⟨z4, y4⟩, ⟨z5, y5⟩, ⟨va_Zof (hts (.laysStatic "java/lang/String" "COMPACT_STRINGS" "Z") (by decide +kernel)) (hts (.initialized "java/lang/String") (by decide +kernel)) (va_eqt (hs (.eq (.static "java/lang/String" "COMPACT_STRINGS" "Z") (.int 1)) (by decide +kernel))) hA, va_Zqof (hts (.laysStatic "jdk/internal/util/Preconditions" "SIOOBE_FORMATTER" "Ljava/util/function/BiFunction;") (by decide +kernel)) (hts (.initialized "jdk/internal/util/Preconditions") (by decide +kernel)) (hs (.isRef (.static "jdk/internal/util/Preconditions" "SIOOBE_FORMATTER" "Ljava/util/function/BiFunction;")) (by decide +kernel)) hA⟩, ⟨fun i hi => ?_, fun i j hi hj e => hS.2 i j hi hj (by have e_ : g (10 + i) = g (10 + j) := e; rw [e1 i hi, e1 j hj] at e_; exact e_)⟩, fun i hi => ?_, va_Nw.of rfl (hts (.methodLinkNest "GooseArms$Court" 63 ⟨"GooseArms", "has", "(II)Z"⟩ "GooseArms") (by decide +kernel)), va_Nw.of rfl (hts (.methodLinkNest "GooseArms$Court" 75 ⟨"GooseArms", "only", "(I)I"⟩ "GooseArms") (by decide +kernel)), va_Nw.of rfl (hts (.methodLinkNest "GooseArms$Court" 81 ⟨"GooseArms", "heldTender", "(I)I"⟩ "GooseArms") (by decide +kernel)), va_Nw.of rfl (hts (.methodLinkNest "GooseArms$Deed" 32 ⟨"GooseArms", "isKind", "(I)Z"⟩ "GooseArms") (by decide +kernel)), va_Nw.of rfl (hts (.methodLinkNest "GooseArms" 311 ⟨"GooseArms$Deed", "runs", "(LGooseArms$Deed;III)I"⟩ "GooseArms") (by decide +kernel)), va_Nw.of rfl (hts (.fieldLinkNest "GooseArms$Court" 9 "GooseArms" "LAWS_AT_FIRST" "[I" "GooseArms") (by decide +kernel)), va_Nw.of rfl (hts (.fieldLinkNest "GooseArms$Tape" 67 "GooseArms" "MOST_OF_LAW" "[I" "GooseArms") (by decide +kernel))⟩, ⟨va_AO.of (hts (.arrayOver (.object "GooseArms$Sheet")) (by decide +kernel)), va_AO.of (hts (.arrayOver (.object "GooseArms$Shelf")) (by decide +kernel)), va_Nw.of rfl (hts (.castable "[I" "java/lang/Cloneable") (by decide +kernel)), va_Nw.of rfl (hts (.methodLinkNest "GooseArms" 9 ⟨"GooseArms$Court", "<init>", "()V"⟩ "GooseArms") (by decide +kernel)), va_Nw.of rfl (hts (.methodLinkNest "GooseArms" 31 ⟨"GooseArms$Tape", "<init>", "()V"⟩ "GooseArms") (by decide +kernel)), va_Nw.of rfl (hts (.methodLinkNest "GooseArms" 46 ⟨"GooseArms$Sheet", "<init>", "()V"⟩ "GooseArms") (by decide +kernel)), va_Nw.of rfl (hts (.methodLinkNest "GooseArms" 53 ⟨"GooseArms$Shelf", "<init>", "()V"⟩ "GooseArms") (by decide +kernel)), va_Nw.of rfl (hts (.methodLinkNest "GooseArms" 60 ⟨"GooseArms$Deed", "<init>", "()V"⟩ "GooseArms") (by decide +kernel))⟩, ?_⟩
  · show va_O "java/lang/String" (g (10 + i)) A s s.heap ∧ va_OF "java/lang/String" "coder" "B" (.int 0) (g (10 + i)) A s s.heap ∧ va_OF "java/lang/String" "value" "[B" (.ref (g (30 + i))) (g (10 + i)) A s s.heap ∧ va_T .byte (g (30 + i)) (kSl.getD i 0) (fun j => .int ((kSb.getD i []).getD j 0)) A s s.heap
    rw [e1 i hi, e2 i hi]
    exact hS.1 i hi
  · show vk_R "GooseArms$Tape" (kSi.getD i 0) (kSt.getD i "") (g (10 + i)) s
    rw [e1 i hi]
    exact vk_R.of (hts _ (ws_m7 i hi)) (by have h_ := hE i hi; exact h_)
  · obtain ⟨a, cell, h1, h2, h3, h4⟩ := len_lt (va_eqt (hs (.eq (.length (.static "GooseArms" "LAWS_AT_FIRST" "[I")) (.int 4)) (by decide +kernel)))
    cases u0.symm.trans h1
    obtain ⟨h5, -, -, -⟩ := State.arrayAt?_spec h2
    obtain ⟨a9, c9, cell9, k9, j1, j2, j3, -, -, j6, -⟩ := Cond.exactly_spec (args := args) (first := s) (o := none) (s := s) (idx := []) (t := .static "GooseArms" "LAWS_AT_FIRST" "[I") (cls := "[I") (hs (.exactly (.static "GooseArms" "LAWS_AT_FIRST" "[I") "[I") (by decide +kernel))
    cases u0.symm.trans j1
    cases h5.symm.trans j3
    obtain ⟨cell8, y1, y2, y3, y4, y5, y6, y7⟩ := y0
    cases h5.symm.trans y1
    refine ⟨cell, h5, y2, y3, by rw [j6]; exact j2, ?_, fun j hj => y6 j hj, y7⟩
    have e_ : cell.slots.size.toInt32 = Int32.ofNat 4 := y5
    have b_ := congrArg Int32.toInt e_
    have n1_ := nI_toInt (n := cell.slots.size) (by omega)
    have n2_ := nI_toInt (n := 4) (by omega)
    have f_ : (nI cell.slots.size).toInt = (nI 4).toInt := b_
    rw [n1_, n2_] at f_
    omega
end WST
