/-! a step of both, 0 -/
set_option maxRecDepth 100000 in
set_option maxHeartbeats 4000000 in
theorem st_set (l : Launch) (G : Gd) (o : Nat) (D : Nat → Nat) (q : Nat) (E : Nat → Nat) (x1 : Int32) (x2 : Int32) : Stq l G o D q E yX5_set cX5_set 4 2 yX6_set cX6_set 3 1 (some (FieldType.int)) [.int x1, .int x2] := by
  intro wc wm h_
  refine Inv.elim h_ ?_
  clear h_
  intro la la2 ns sd to to2 he he2 sw sw2 nh ki ki2 te te2 mi mi2 ar ar2 z k t d mf mk mt ak ln st en so va fa f tf mso bg men wd mva gd rc rwf rf muf sso ssz sit ssf szf shf sho shr shso shsz hof hnf hzf ct pz dk nu dt kd nb tn ip dbo tcf hN hK hT hR hS hF hB
  obtain ⟨c1, c2, c3, c4, c5, c6, c7, c8, c9⟩ := (id hN : RN la la2 ns sd to to2 he he2 sw sw2 nh ki ki2 te te2 mi mi2 ar ar2)
  by_cases q1_ : 0 ≤ x1 ∧ x1 ≤ 3
  · obtain ⟨j, hj_, rfl⟩ := inC 4 (by decide) (by decide) q1_
    by_cases q2_ : 0 ≤ x2 ∧ x2 ≤ ([9, 9, 9, 99] : List Int32).getD j 0
    · have c7_ : ∃ pd : Nat, pd ≤ 99 ∧ upd la2 j x2 3 = nI pd := by
        by_cases e_ : 3 = j
        · subst e_; rw [pk_us]; obtain ⟨n_, hn_, e2_⟩ := inC (m := 99) 100 (by decide) (by decide) q2_; exact ⟨n_, by omega, e2_⟩
        · rw [pk_un e_]; exact c7
      exact Sto.mk (p5_0_1 (c_X5_set_ok l G j x2 o (cA D 10) (cA D 20) (cA D 30) (cA D 40) ak (D 1) (D 3) rc (D 4) (D 5) (D 6) la ns sd to he sw nh ki te mi ar z (by omega) q2_)) (CtP.rv (p6_0_1 (c_X6_set_ok l G j x2 q (E 1) (E 2) (E 3) (E 4) ak (E 5) ln mso bg men wd mva gd (E 6) (E 7) rc (E 8) (E 9) (E 10) (E 11) (E 12) (E 13) kd nb tn (E 14) ct ip la2 ns sd to2 he2 sw2 nh ki2 te2 mi2 ar2 z (by omega) q2_)) (congrArg (fun v_ => some (Value.int v_)) ((c1 j hj_).symm))) (fun _ h_ => cwE h_) (fun _ h_ => mwE h_) (fun w5_ w6_ h5_ h6_ => Inv.mk h5_ h6_ ⟨upd_cg rfl c1, c2, c3, c4, c5, c6, c7_, c8, c9⟩ hK hT hR hS hF hB)
    · exact Sto.mk (p5_0_1 (c_X5_set_badv l G j x2 o (cA D 10) (cA D 20) (cA D 30) (cA D 40) ak (D 1) (D 3) rc (D 4) (D 5) (D 6) la ns sd to he sw nh ki te mi ar z (by omega) q2_)) (p6_0_1 (c_X6_set_badv l G j x2 q (E 1) (E 2) (E 3) (E 4) ak (E 5) ln mso bg men wd mva gd (E 6) (E 7) rc (E 8) (E 9) (E 10) (E 11) (E 12) (E 13) kd nb tn (E 14) ct ip la2 ns sd to2 he2 sw2 nh ki2 te2 mi2 ar2 z (by omega) q2_)) (fun _ h_ => cwE h_) (fun _ h_ => mwE h_) (fun w5_ w6_ h5_ h6_ => Inv.mk h5_ h6_ hN hK hT hR hS hF hB)
  · exact Sto.mk (p5_0_1 (c_X5_set_bad l G x1 x2 o (cA D 10) (cA D 20) (cA D 30) (cA D 40) ak (D 1) (D 3) rc (D 4) (D 5) (D 6) la ns sd to he sw nh ki te mi ar z q1_)) (p6_0_1 (c_X6_set_bad l G x1 x2 q (E 1) (E 2) (E 3) (E 4) ak (E 5) ln mso bg men wd mva gd (E 6) (E 7) rc (E 8) (E 9) (E 10) (E 11) (E 12) (E 13) kd nb tn (E 14) ct ip la2 ns sd to2 he2 sw2 nh ki2 te2 mi2 ar2 z q1_)) (fun _ h_ => cwE h_) (fun _ h_ => mwE h_) (fun w5_ w6_ h5_ h6_ => Inv.mk h5_ h6_ hN hK hT hR hS hF hB)
set_option maxRecDepth 100000 in
set_option maxHeartbeats 4000000 in
theorem st_lawOf (l : Launch) (G : Gd) (o : Nat) (D : Nat → Nat) (q : Nat) (E : Nat → Nat) (x1 : Int32) : Stq l G o D q E yX5_lawOf cX5_lawOf 2 2 yX6_lawOf cX6_lawOf 2 1 (some (FieldType.int)) [.int x1] := by
  intro wc wm h_
  refine Inv.elim h_ ?_
  clear h_
  intro la la2 ns sd to to2 he he2 sw sw2 nh ki ki2 te te2 mi mi2 ar ar2 z k t d mf mk mt ak ln st en so va fa f tf mso bg men wd mva gd rc rwf rf muf sso ssz sit ssf szf shf sho shr shso shsz hof hnf hzf ct pz dk nu dt kd nb tn ip dbo tcf hN hK hT hR hS hF hB
  obtain ⟨c1, c2, c3, c4, c5, c6, c7, c8, c9⟩ := (id hN : RN la la2 ns sd to to2 he he2 sw sw2 nh ki ki2 te te2 mi mi2 ar ar2)
  by_cases q1_ : 0 ≤ x1 ∧ x1 ≤ 3
  · obtain ⟨j, hj_, rfl⟩ := inC 4 (by decide) (by decide) q1_
    exact Sto.mk (p5_0_1 (c_X5_lawOf_ok l G j o (cA D 10) (cA D 20) (cA D 30) (cA D 40) ak (D 1) (D 3) rc (D 4) (D 5) (D 6) la ns sd to he sw nh ki te mi ar z (by omega))) (CtP.rv (p6_0_1 (c_X6_lawOf_ok l G j q (E 1) (E 2) (E 3) (E 4) ak (E 5) ln mso bg men wd mva gd (E 6) (E 7) rc (E 8) (E 9) (E 10) (E 11) (E 12) (E 13) kd nb tn (E 14) ct ip la2 ns sd to2 he2 sw2 nh ki2 te2 mi2 ar2 z (by omega))) (congrArg (fun v_ => some (Value.int v_)) ((c1 j hj_).symm))) (fun _ h_ => cwE h_) (fun _ h_ => mwE h_) (fun w5_ w6_ h5_ h6_ => Inv.mk h5_ h6_ hN hK hT hR hS hF hB)
  · exact Sto.mk (p5_0_1 (c_X5_lawOf_bad l G x1 o (cA D 10) (cA D 20) (cA D 30) (cA D 40) ak (D 1) (D 3) rc (D 4) (D 5) (D 6) la ns sd to he sw nh ki te mi ar z q1_)) (p6_0_1 (c_X6_lawOf_bad l G x1 q (E 1) (E 2) (E 3) (E 4) ak (E 5) ln mso bg men wd mva gd (E 6) (E 7) rc (E 8) (E 9) (E 10) (E 11) (E 12) (E 13) kd nb tn (E 14) ct ip la2 ns sd to2 he2 sw2 nh ki2 te2 mi2 ar2 z q1_)) (fun _ h_ => cwE h_) (fun _ h_ => mwE h_) (fun w5_ w6_ h5_ h6_ => Inv.mk h5_ h6_ hN hK hT hR hS hF hB)
