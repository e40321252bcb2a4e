/-! a step of both, 0 -/
set_option maxRecDepth 100000 in
set_option maxHeartbeats 4000000 in
theorem st_set (l : Launch) (G : Gd) (o : Nat) (D : Nat → Nat) (q : Nat) (E : Nat → Nat) (x1 : Int32) (x2 : Int32) : Stq l G o D q E yX5_set cX5_set 4 2 yX6_set cX6_set 3 1 (some (FieldType.int)) [.int x1, .int x2] := by
  intro wc wm h_
  refine Inv.elim h_ ?_
  clear h_
  intro la la2 ns sd to to2 he he2 sw sw2 nh ki ki2 te te2 mi mi2 ar ar2 z k t d mf mk mt ak ln st en so va fa f tf mso bg men wd mva gd rc rwf rf muf sso ssz sit ssf szf shf sho shr shso shsz hof hnf hzf ct pz dk nu dt kd nb tn ip dbo tcf hN hK hT hR hS hF hB
  obtain ⟨c1, c2, c3, c4, c5, c6, c7, c8, c9⟩ := (id hN : RN la la2 ns sd to to2 he he2 sw sw2 nh ki ki2 te te2 mi mi2 ar ar2)
  by_cases q1_ : 0 ≤ x1 ∧ x1 ≤ 3
  · obtain ⟨j, hj_, rfl⟩ := inC 4 (by decide) (by decide) q1_
    by_cases q2_ : 0 ≤ x2 ∧ x2 ≤ ([9, 9, 9, 99] : List Int32).getD j 0
    · have c7_ : ∃ pd : Nat, pd ≤ 99 ∧ upd la2 j x2 3 = nI pd := by
        by_cases e_ : 3 = j
        · subst e_; rw [pk_us]; obtain ⟨n_, hn_, e2_⟩ := inC (m := 99) 100 (by decide) (by decide) q2_; exact ⟨n_, by omega, e2_⟩
        · rw [pk_un e_]; exact c7
      exact Sto.mk (p5_0_1c1 (c_X5_set_ok l G j x2 o (cA D 10) (cA D 20) (cA D 30) (cA D 40) ak (D 1) (D 3) rc (D 4) (D 5) (D 6) la ns sd to he sw nh ki te mi ar z (by omega) q2_)) (CtP.rv (p6_0_1c1 (c_X6_set_ok l G j x2 q (E 1) (E 2) (E 3) (E 4) ak (E 5) ln mso bg men wd mva gd (E 6) (E 7) rc (E 8) (E 9) (E 10) (E 11) (E 12) (E 13) kd nb tn (E 14) ct ip la2 ns sd to2 he2 sw2 nh ki2 te2 mi2 ar2 z (by omega) q2_)) (congrArg (fun v_ => some (Value.int v_)) ((c1 j hj_).symm))) (fun _ h_ => cwE h_) (fun _ h_ => mwE h_) (fun w5_ w6_ h5_ h6_ => Inv.mk h5_ h6_ ⟨upd_cg rfl c1, c2, c3, c4, c5, c6, c7_, c8, c9⟩ hK hT hR hS hF hB) ⟨_, rfl⟩
    · exact Sto.mk (p5_0_1 (c_X5_set_badv l G j x2 o (cA D 10) (cA D 20) (cA D 30) (cA D 40) ak (D 1) (D 3) rc (D 4) (D 5) (D 6) la ns sd to he sw nh ki te mi ar z (by omega) q2_)) (p6_0_1 (c_X6_set_badv l G j x2 q (E 1) (E 2) (E 3) (E 4) ak (E 5) ln mso bg men wd mva gd (E 6) (E 7) rc (E 8) (E 9) (E 10) (E 11) (E 12) (E 13) kd nb tn (E 14) ct ip la2 ns sd to2 he2 sw2 nh ki2 te2 mi2 ar2 z (by omega) q2_)) (fun _ h_ => cwE h_) (fun _ h_ => mwE h_) (fun w5_ w6_ h5_ h6_ => Inv.mk h5_ h6_ hN hK hT hR hS hF hB) ⟨_, rfl⟩
  · exact Sto.mk (p5_0_1 (c_X5_set_bad l G x1 x2 o (cA D 10) (cA D 20) (cA D 30) (cA D 40) ak (D 1) (D 3) rc (D 4) (D 5) (D 6) la ns sd to he sw nh ki te mi ar z q1_)) (p6_0_1 (c_X6_set_bad l G x1 x2 q (E 1) (E 2) (E 3) (E 4) ak (E 5) ln mso bg men wd mva gd (E 6) (E 7) rc (E 8) (E 9) (E 10) (E 11) (E 12) (E 13) kd nb tn (E 14) ct ip la2 ns sd to2 he2 sw2 nh ki2 te2 mi2 ar2 z q1_)) (fun _ h_ => cwE h_) (fun _ h_ => mwE h_) (fun w5_ w6_ h5_ h6_ => Inv.mk h5_ h6_ hN hK hT hR hS hF hB) ⟨_, rfl⟩
set_option maxRecDepth 100000 in
set_option maxHeartbeats 4000000 in
theorem st_lawOf (l : Launch) (G : Gd) (o : Nat) (D : Nat → Nat) (q : Nat) (E : Nat → Nat) (x1 : Int32) : Stq l G o D q E yX5_lawOf cX5_lawOf 2 2 yX6_lawOf cX6_lawOf 2 1 (some (FieldType.int)) [.int x1] := by
  intro wc wm h_
  refine Inv.elim h_ ?_
  clear h_
  intro la la2 ns sd to to2 he he2 sw sw2 nh ki ki2 te te2 mi mi2 ar ar2 z k t d mf mk mt ak ln st en so va fa f tf mso bg men wd mva gd rc rwf rf muf sso ssz sit ssf szf shf sho shr shso shsz hof hnf hzf ct pz dk nu dt kd nb tn ip dbo tcf hN hK hT hR hS hF hB
  obtain ⟨c1, c2, c3, c4, c5, c6, c7, c8, c9⟩ := (id hN : RN la la2 ns sd to to2 he he2 sw sw2 nh ki ki2 te te2 mi mi2 ar ar2)
  by_cases q1_ : 0 ≤ x1 ∧ x1 ≤ 3
  · obtain ⟨j, hj_, rfl⟩ := inC 4 (by decide) (by decide) q1_
    exact Sto.mk (p5_0_1 (c_X5_lawOf_ok l G j o (cA D 10) (cA D 20) (cA D 30) (cA D 40) ak (D 1) (D 3) rc (D 4) (D 5) (D 6) la ns sd to he sw nh ki te mi ar z (by omega))) (CtP.rv (p6_0_1 (c_X6_lawOf_ok l G j q (E 1) (E 2) (E 3) (E 4) ak (E 5) ln mso bg men wd mva gd (E 6) (E 7) rc (E 8) (E 9) (E 10) (E 11) (E 12) (E 13) kd nb tn (E 14) ct ip la2 ns sd to2 he2 sw2 nh ki2 te2 mi2 ar2 z (by omega))) (congrArg (fun v_ => some (Value.int v_)) ((c1 j hj_).symm))) (fun _ h_ => cwE h_) (fun _ h_ => mwE h_) (fun w5_ w6_ h5_ h6_ => Inv.mk h5_ h6_ hN hK hT hR hS hF hB) ⟨_, rfl⟩
  · exact Sto.mk (p5_0_1 (c_X5_lawOf_bad l G x1 o (cA D 10) (cA D 20) (cA D 30) (cA D 40) ak (D 1) (D 3) rc (D 4) (D 5) (D 6) la ns sd to he sw nh ki te mi ar z q1_)) (p6_0_1 (c_X6_lawOf_bad l G x1 q (E 1) (E 2) (E 3) (E 4) ak (E 5) ln mso bg men wd mva gd (E 6) (E 7) rc (E 8) (E 9) (E 10) (E 11) (E 12) (E 13) kd nb tn (E 14) ct ip la2 ns sd to2 he2 sw2 nh ki2 te2 mi2 ar2 z q1_)) (fun _ h_ => cwE h_) (fun _ h_ => mwE h_) (fun w5_ w6_ h5_ h6_ => Inv.mk h5_ h6_ hN hK hT hR hS hF hB) ⟨_, rfl⟩
set_option maxRecDepth 100000 in
set_option maxHeartbeats 4000000 in
theorem st_saying (l : Launch) (G : Gd) (o : Nat) (D : Nat → Nat) (q : Nat) (E : Nat → Nat) (x1 : Int32) (x2 : Int32) (x3 : Int32) : Stq l G o D q E yX5_saying cX5_saying 4 2 yX6_saying cX6_saying 5 2 (some (FieldType.int)) [.int x1, .int x2, .int x3] := by
  intro wc wm h_
  refine Inv.elim h_ ?_
  clear h_
  intro la la2 ns sd to to2 he he2 sw sw2 nh ki ki2 te te2 mi mi2 ar ar2 z k t d mf mk mt ak ln st en so va fa f tf mso bg men wd mva gd rc rwf rf muf sso ssz sit ssf szf shf sho shr shso shsz hof hnf hzf ct pz dk nu dt kd nb tn ip dbo tcf hN hK hT hR hS hF hB
  obtain ⟨c1, c2, c3, c4, c5, c6, c7, c8, c9⟩ := (id hN : RN la la2 ns sd to to2 he he2 sw sw2 nh ki ki2 te te2 mi mi2 ar ar2)
  by_cases q1_ : (0 ≤ x1 ∧ x1 ≤ 7) ∧ (0 ≤ x2 ∧ x2 ≤ 9) ∧ (0 ≤ x3 ∧ x3 ≤ 1)
  · by_cases q2_ : ns = 12
    · exact Sto.mk (p5_0_1 (c_X5_saying_full l G x1 x2 x3 o (cA D 10) (cA D 20) (cA D 30) (cA D 40) ak (D 1) (D 3) rc (D 4) (D 5) (D 6) la ns sd to he sw nh ki te mi ar z q1_ q2_)) (p6_0_1 (c_X6_saying_full l G x1 x2 x3 q (E 1) (E 2) (E 3) (E 4) ak (E 5) ln mso bg men wd mva gd (E 6) (E 7) rc (E 8) (E 9) (E 10) (E 11) (E 12) (E 13) kd nb tn (E 14) ct ip la2 ns sd to2 he2 sw2 nh ki2 te2 mi2 ar2 z q1_ q2_)) (fun _ h_ => cwE h_) (fun _ h_ => mwE h_) (fun w5_ w6_ h5_ h6_ => Inv.mk h5_ h6_ hN hK hT hR hS hF hB) ⟨_, rfl⟩
    · have q3_ : ns < 12 := by omega
      exact Sto.mk (p5_0_1c1 (c_X5_saying_ok l G x1 x2 x3 o (cA D 10) (cA D 20) (cA D 30) (cA D 40) ak (D 1) (D 3) rc (D 4) (D 5) (D 6) la ns sd to he sw nh ki te mi ar z q1_ q3_)) (p6_0_1c1 (c_X6_saying_ok l G x1 x2 x3 q (E 1) (E 2) (E 3) (E 4) ak (E 5) ln mso bg men wd mva gd (E 6) (E 7) rc (E 8) (E 9) (E 10) (E 11) (E 12) (E 13) kd nb tn (E 14) ct ip la2 ns sd to2 he2 sw2 nh ki2 te2 mi2 ar2 z q1_ q3_)) (fun _ h_ => cwE h_) (fun _ h_ => mwE h_) (fun w5_ w6_ h5_ h6_ => Inv.mk h5_ h6_ ⟨c1, fun i hi => ⟨upd_sn (fun i hi => (c2 i hi).1) i hi, upd_sn (fun i hi => (c2 i hi).2.1) i hi, upd_sn (fun i hi => (c2 i hi).2.2) i hi⟩, c3, by omega, by omega, c6, c7, upd_aln (Q := fun v_ => v_ = 0 ∨ v_ = 1) (b01 q1_.2.2) c8, c9⟩ hK hT hR hS hF hB) ⟨_, rfl⟩
  · exact Sto.mk (p5_0_1 (c_X5_saying_bad l G x1 x2 x3 o (cA D 10) (cA D 20) (cA D 30) (cA D 40) ak (D 1) (D 3) rc (D 4) (D 5) (D 6) la ns sd to he sw nh ki te mi ar z q1_)) (p6_0_1 (c_X6_saying_bad l G x1 x2 x3 q (E 1) (E 2) (E 3) (E 4) ak (E 5) ln mso bg men wd mva gd (E 6) (E 7) rc (E 8) (E 9) (E 10) (E 11) (E 12) (E 13) kd nb tn (E 14) ct ip la2 ns sd to2 he2 sw2 nh ki2 te2 mi2 ar2 z q1_)) (fun _ h_ => cwE h_) (fun _ h_ => mwE h_) (fun w5_ w6_ h5_ h6_ => Inv.mk h5_ h6_ hN hK hT hR hS hF hB) ⟨_, rfl⟩
set_option maxRecDepth 100000 in
set_option maxHeartbeats 4000000 in
theorem st_sayingOf (l : Launch) (G : Gd) (o : Nat) (D : Nat → Nat) (q : Nat) (E : Nat → Nat) (x1 : Int32) (x2 : Int32) : Stq l G o D q E yX5_sayingOf cX5_sayingOf 3 2 yX6_sayingOf cX6_sayingOf 3 2 (some (FieldType.int)) [.int x1, .int x2] := by
  intro wc wm h_
  refine Inv.elim h_ ?_
  clear h_
  intro la la2 ns sd to to2 he he2 sw sw2 nh ki ki2 te te2 mi mi2 ar ar2 z k t d mf mk mt ak ln st en so va fa f tf mso bg men wd mva gd rc rwf rf muf sso ssz sit ssf szf shf sho shr shso shsz hof hnf hzf ct pz dk nu dt kd nb tn ip dbo tcf hN hK hT hR hS hF hB
  obtain ⟨c1, c2, c3, c4, c5, c6, c7, c8, c9⟩ := (id hN : RN la la2 ns sd to to2 he he2 sw sw2 nh ki ki2 te te2 mi mi2 ar ar2)
  by_cases q1_ : 0 ≤ x1 ∧ x1 ≤ nI ns - 1
  · obtain ⟨i, hj_, rfl⟩ := inC ns (by omega) rfl q1_
    by_cases w0_ : x2 = 0
    · subst w0_
      exact Sto.mk (p5_0_1 (c_X5_sayingOf_0 l G i o (cA D 10) (cA D 20) (cA D 30) (cA D 40) ak (D 1) (D 3) rc (D 4) (D 5) (D 6) la ns sd to he sw nh ki te mi ar z hj_ c4)) (CtP.rv (p6_0_1 (c_X6_sayingOf_0 l G i q (E 1) (E 2) (E 3) (E 4) ak (E 5) ln mso bg men wd mva gd (E 6) (E 7) rc (E 8) (E 9) (E 10) (E 11) (E 12) (E 13) kd nb tn (E 14) ct ip la2 ns sd to2 he2 sw2 nh ki2 te2 mi2 ar2 z hj_ c4)) (congrArg (fun v_ => some (Value.int v_)) ((c2 i hj_).1.symm))) (fun _ h_ => cwE h_) (fun _ h_ => mwE h_) (fun w5_ w6_ h5_ h6_ => Inv.mk h5_ h6_ hN hK hT hR hS hF hB) ⟨_, rfl⟩
    by_cases w1_ : x2 = 1
    · subst w1_
      exact Sto.mk (p5_0_1 (c_X5_sayingOf_1 l G i o (cA D 10) (cA D 20) (cA D 30) (cA D 40) ak (D 1) (D 3) rc (D 4) (D 5) (D 6) la ns sd to he sw nh ki te mi ar z hj_ c4)) (CtP.rv (p6_0_1 (c_X6_sayingOf_1 l G i q (E 1) (E 2) (E 3) (E 4) ak (E 5) ln mso bg men wd mva gd (E 6) (E 7) rc (E 8) (E 9) (E 10) (E 11) (E 12) (E 13) kd nb tn (E 14) ct ip la2 ns sd to2 he2 sw2 nh ki2 te2 mi2 ar2 z hj_ c4)) (congrArg (fun v_ => some (Value.int v_)) ((c2 i hj_).2.1.symm))) (fun _ h_ => cwE h_) (fun _ h_ => mwE h_) (fun w5_ w6_ h5_ h6_ => Inv.mk h5_ h6_ hN hK hT hR hS hF hB) ⟨_, rfl⟩
    by_cases w2_ : x2 = 2
    · subst w2_
      exact Sto.mk (p5_0_1 (c_X5_sayingOf_2 l G i o (cA D 10) (cA D 20) (cA D 30) (cA D 40) ak (D 1) (D 3) rc (D 4) (D 5) (D 6) la ns sd to he sw nh ki te mi ar z hj_ c4)) (CtP.rv (p6_0_1 (c_X6_sayingOf_2 l G i q (E 1) (E 2) (E 3) (E 4) ak (E 5) ln mso bg men wd mva gd (E 6) (E 7) rc (E 8) (E 9) (E 10) (E 11) (E 12) (E 13) kd nb tn (E 14) ct ip la2 ns sd to2 he2 sw2 nh ki2 te2 mi2 ar2 z hj_ c4)) (congrArg (fun v_ => some (Value.int v_)) ((c2 i hj_).2.2.symm))) (fun _ h_ => cwE h_) (fun _ h_ => mwE h_) (fun w5_ w6_ h5_ h6_ => Inv.mk h5_ h6_ hN hK hT hR hS hF hB) ⟨_, rfl⟩
    by_cases w3_ : x2 = 3
    · subst w3_
      exact Sto.mk (p5_0_1 (c_X5_sayingOf_3 l G i o (cA D 10) (cA D 20) (cA D 30) (cA D 40) ak (D 1) (D 3) rc (D 4) (D 5) (D 6) la ns sd to he sw nh ki te mi ar z hj_ c4 c6)) (CtP.rv (p6_0_1 (c_X6_sayingOf_3 l G i q (E 1) (E 2) (E 3) (E 4) ak (E 5) ln mso bg men wd mva gd (E 6) (E 7) rc (E 8) (E 9) (E 10) (E 11) (E 12) (E 13) kd nb tn (E 14) ct ip la2 ns sd to2 he2 sw2 nh ki2 te2 mi2 ar2 z hj_ c4 c6)) (congrArg (fun v_ => some (Value.int v_)) (fMask_cg nh (fun h_ hh_ => by rw [(c3 h_ hh_).2.2.2])))) (fun _ h_ => cwE h_) (fun _ h_ => mwE h_) (fun w5_ w6_ h5_ h6_ => Inv.mk h5_ h6_ hN hK hT hR hS hF hB) ⟨_, rfl⟩
    exact Sto.mk (p5_0_1 (c_X5_sayingOf_badw l G i x2 o (cA D 10) (cA D 20) (cA D 30) (cA D 40) ak (D 1) (D 3) rc (D 4) (D 5) (D 6) la ns sd to he sw nh ki te mi ar z hj_ c4 (fun z_ => by obtain ⟨n_, hn_, rfl⟩ := inC 4 (by decide) (by decide) z_; rcases (show n_ = 0 ∨ n_ = 1 ∨ n_ = 2 ∨ n_ = 3 by omega) with rfl | rfl | rfl | rfl <;> first | exact w0_ rfl | exact w1_ rfl | exact w2_ rfl | exact w3_ rfl))) (p6_0_1 (c_X6_sayingOf_badw l G i x2 q (E 1) (E 2) (E 3) (E 4) ak (E 5) ln mso bg men wd mva gd (E 6) (E 7) rc (E 8) (E 9) (E 10) (E 11) (E 12) (E 13) kd nb tn (E 14) ct ip la2 ns sd to2 he2 sw2 nh ki2 te2 mi2 ar2 z hj_ c4 (fun z_ => by obtain ⟨n_, hn_, rfl⟩ := inC 4 (by decide) (by decide) z_; rcases (show n_ = 0 ∨ n_ = 1 ∨ n_ = 2 ∨ n_ = 3 by omega) with rfl | rfl | rfl | rfl <;> first | exact w0_ rfl | exact w1_ rfl | exact w2_ rfl | exact w3_ rfl))) (fun _ h_ => cwE h_) (fun _ h_ => mwE h_) (fun w5_ w6_ h5_ h6_ => Inv.mk h5_ h6_ hN hK hT hR hS hF hB) ⟨_, rfl⟩
  · exact Sto.mk (p5_0_1 (c_X5_sayingOf_bad l G x1 x2 o (cA D 10) (cA D 20) (cA D 30) (cA D 40) ak (D 1) (D 3) rc (D 4) (D 5) (D 6) la ns sd to he sw nh ki te mi ar z q1_)) (p6_0_1 (c_X6_sayingOf_bad l G x1 x2 q (E 1) (E 2) (E 3) (E 4) ak (E 5) ln mso bg men wd mva gd (E 6) (E 7) rc (E 8) (E 9) (E 10) (E 11) (E 12) (E 13) kd nb tn (E 14) ct ip la2 ns sd to2 he2 sw2 nh ki2 te2 mi2 ar2 z q1_)) (fun _ h_ => cwE h_) (fun _ h_ => mwE h_) (fun w5_ w6_ h5_ h6_ => Inv.mk h5_ h6_ hN hK hT hR hS hF hB) ⟨_, rfl⟩
set_option maxRecDepth 100000 in
set_option maxHeartbeats 4000000 in
theorem st_alter (l : Launch) (G : Gd) (o : Nat) (D : Nat → Nat) (q : Nat) (E : Nat → Nat) (x1 : Int32) (x2 : Int32) (x3 : Int32) : Stq l G o D q E yX5_alter cX5_alter 4 2 yX6_alter cX6_alter 4 2 (some (FieldType.int)) [.int x1, .int x2, .int x3] := by
  intro wc wm h_
  refine Inv.elim h_ ?_
  clear h_
  intro la la2 ns sd to to2 he he2 sw sw2 nh ki ki2 te te2 mi mi2 ar ar2 z k t d mf mk mt ak ln st en so va fa f tf mso bg men wd mva gd rc rwf rf muf sso ssz sit ssf szf shf sho shr shso shsz hof hnf hzf ct pz dk nu dt kd nb tn ip dbo tcf hN hK hT hR hS hF hB
  obtain ⟨c1, c2, c3, c4, c5, c6, c7, c8, c9⟩ := (id hN : RN la la2 ns sd to to2 he he2 sw sw2 nh ki ki2 te te2 mi mi2 ar ar2)
  by_cases q1_ : 0 ≤ x1 ∧ x1 ≤ nI ns - 1
  · obtain ⟨i, hj_, rfl⟩ := inC ns (by omega) rfl q1_
    by_cases w0_ : x2 = 0
    · subst w0_
      by_cases q2_ : 0 ≤ x3 ∧ x3 ≤ 7
      · exact Sto.mk (p5_0_1c1 (c_X5_alter_0 l G i x3 o (cA D 10) (cA D 20) (cA D 30) (cA D 40) ak (D 1) (D 3) rc (D 4) (D 5) (D 6) la ns sd to he sw nh ki te mi ar z hj_ c4 q2_)) (CtP.rv (p6_0_1c1 (c_X6_alter_0 l G i x3 q (E 1) (E 2) (E 3) (E 4) ak (E 5) ln mso bg men wd mva gd (E 6) (E 7) rc (E 8) (E 9) (E 10) (E 11) (E 12) (E 13) kd nb tn (E 14) ct ip la2 ns sd to2 he2 sw2 nh ki2 te2 mi2 ar2 z hj_ c4 q2_)) (congrArg (fun v_ => some (Value.int v_)) ((c2 i hj_).1.symm))) (fun _ h_ => cwE h_) (fun _ h_ => mwE h_) (fun w5_ w6_ h5_ h6_ => Inv.mk h5_ h6_ ⟨c1, fun i_ hi_ => ⟨upd_cg rfl (fun i hi => (c2 i hi).1) i_ hi_, (c2 i_ hi_).2⟩, c3, c4, c5, c6, c7, c8, c9⟩ hK hT hR hS hF hB) ⟨_, rfl⟩
      · exact Sto.mk (p5_0_1 (c_X5_alter_0f l G i x3 o (cA D 10) (cA D 20) (cA D 30) (cA D 40) ak (D 1) (D 3) rc (D 4) (D 5) (D 6) la ns sd to he sw nh ki te mi ar z hj_ c4 q2_)) (p6_0_1 (c_X6_alter_0f l G i x3 q (E 1) (E 2) (E 3) (E 4) ak (E 5) ln mso bg men wd mva gd (E 6) (E 7) rc (E 8) (E 9) (E 10) (E 11) (E 12) (E 13) kd nb tn (E 14) ct ip la2 ns sd to2 he2 sw2 nh ki2 te2 mi2 ar2 z hj_ c4 q2_)) (fun _ h_ => cwE h_) (fun _ h_ => mwE h_) (fun w5_ w6_ h5_ h6_ => Inv.mk h5_ h6_ hN hK hT hR hS hF hB) ⟨_, rfl⟩
    by_cases w1_ : x2 = 1
    · subst w1_
      by_cases q2_ : 0 ≤ x3 ∧ x3 ≤ 9
      · exact Sto.mk (p5_0_1c1 (c_X5_alter_1 l G i x3 o (cA D 10) (cA D 20) (cA D 30) (cA D 40) ak (D 1) (D 3) rc (D 4) (D 5) (D 6) la ns sd to he sw nh ki te mi ar z hj_ c4 q2_)) (CtP.rv (p6_0_1c1 (c_X6_alter_1 l G i x3 q (E 1) (E 2) (E 3) (E 4) ak (E 5) ln mso bg men wd mva gd (E 6) (E 7) rc (E 8) (E 9) (E 10) (E 11) (E 12) (E 13) kd nb tn (E 14) ct ip la2 ns sd to2 he2 sw2 nh ki2 te2 mi2 ar2 z hj_ c4 q2_)) (congrArg (fun v_ => some (Value.int v_)) ((c2 i hj_).2.1.symm))) (fun _ h_ => cwE h_) (fun _ h_ => mwE h_) (fun w5_ w6_ h5_ h6_ => Inv.mk h5_ h6_ ⟨c1, fun i_ hi_ => ⟨(c2 i_ hi_).1, upd_cg rfl (fun i hi => (c2 i hi).2.1) i_ hi_, (c2 i_ hi_).2.2⟩, c3, c4, c5, c6, c7, c8, c9⟩ hK hT hR hS hF hB) ⟨_, rfl⟩
      · exact Sto.mk (p5_0_1 (c_X5_alter_1f l G i x3 o (cA D 10) (cA D 20) (cA D 30) (cA D 40) ak (D 1) (D 3) rc (D 4) (D 5) (D 6) la ns sd to he sw nh ki te mi ar z hj_ c4 q2_)) (p6_0_1 (c_X6_alter_1f l G i x3 q (E 1) (E 2) (E 3) (E 4) ak (E 5) ln mso bg men wd mva gd (E 6) (E 7) rc (E 8) (E 9) (E 10) (E 11) (E 12) (E 13) kd nb tn (E 14) ct ip la2 ns sd to2 he2 sw2 nh ki2 te2 mi2 ar2 z hj_ c4 q2_)) (fun _ h_ => cwE h_) (fun _ h_ => mwE h_) (fun w5_ w6_ h5_ h6_ => Inv.mk h5_ h6_ hN hK hT hR hS hF hB) ⟨_, rfl⟩
    by_cases w2_ : x2 = 2
    · subst w2_
      by_cases q2_ : 0 ≤ x3 ∧ x3 ≤ 1
      · exact Sto.mk (p5_0_1c1 (c_X5_alter_2 l G i x3 o (cA D 10) (cA D 20) (cA D 30) (cA D 40) ak (D 1) (D 3) rc (D 4) (D 5) (D 6) la ns sd to he sw nh ki te mi ar z hj_ c4 q2_)) (CtP.rv (p6_0_1c1 (c_X6_alter_2 l G i x3 q (E 1) (E 2) (E 3) (E 4) ak (E 5) ln mso bg men wd mva gd (E 6) (E 7) rc (E 8) (E 9) (E 10) (E 11) (E 12) (E 13) kd nb tn (E 14) ct ip la2 ns sd to2 he2 sw2 nh ki2 te2 mi2 ar2 z hj_ c4 q2_)) (congrArg (fun v_ => some (Value.int v_)) ((c2 i hj_).2.2.symm))) (fun _ h_ => cwE h_) (fun _ h_ => mwE h_) (fun w5_ w6_ h5_ h6_ => Inv.mk h5_ h6_ ⟨c1, fun i_ hi_ => ⟨(c2 i_ hi_).1, (c2 i_ hi_).2.1, upd_cg rfl (fun i hi => (c2 i hi).2.2) i_ hi_⟩, c3, c4, c5, c6, c7, upd_al1 (Q := fun v_ => v_ = 0 ∨ v_ = 1) (b01 q2_) c8, c9⟩ hK hT hR hS hF hB) ⟨_, rfl⟩
      · exact Sto.mk (p5_0_1 (c_X5_alter_2f l G i x3 o (cA D 10) (cA D 20) (cA D 30) (cA D 40) ak (D 1) (D 3) rc (D 4) (D 5) (D 6) la ns sd to he sw nh ki te mi ar z hj_ c4 q2_)) (p6_0_1 (c_X6_alter_2f l G i x3 q (E 1) (E 2) (E 3) (E 4) ak (E 5) ln mso bg men wd mva gd (E 6) (E 7) rc (E 8) (E 9) (E 10) (E 11) (E 12) (E 13) kd nb tn (E 14) ct ip la2 ns sd to2 he2 sw2 nh ki2 te2 mi2 ar2 z hj_ c4 q2_)) (fun _ h_ => cwE h_) (fun _ h_ => mwE h_) (fun w5_ w6_ h5_ h6_ => Inv.mk h5_ h6_ hN hK hT hR hS hF hB) ⟨_, rfl⟩
    exact Sto.mk (p5_0_1 (c_X5_alter_badw l G i x2 x3 o (cA D 10) (cA D 20) (cA D 30) (cA D 40) ak (D 1) (D 3) rc (D 4) (D 5) (D 6) la ns sd to he sw nh ki te mi ar z hj_ c4 (fun z_ => by obtain ⟨n_, hn_, rfl⟩ := inC 3 (by decide) (by decide) z_; rcases (show n_ = 0 ∨ n_ = 1 ∨ n_ = 2 by omega) with rfl | rfl | rfl <;> first | exact w0_ rfl | exact w1_ rfl | exact w2_ rfl))) (p6_0_1 (c_X6_alter_badw l G i x2 x3 q (E 1) (E 2) (E 3) (E 4) ak (E 5) ln mso bg men wd mva gd (E 6) (E 7) rc (E 8) (E 9) (E 10) (E 11) (E 12) (E 13) kd nb tn (E 14) ct ip la2 ns sd to2 he2 sw2 nh ki2 te2 mi2 ar2 z hj_ c4 (fun z_ => by obtain ⟨n_, hn_, rfl⟩ := inC 3 (by decide) (by decide) z_; rcases (show n_ = 0 ∨ n_ = 1 ∨ n_ = 2 by omega) with rfl | rfl | rfl <;> first | exact w0_ rfl | exact w1_ rfl | exact w2_ rfl))) (fun _ h_ => cwE h_) (fun _ h_ => mwE h_) (fun w5_ w6_ h5_ h6_ => Inv.mk h5_ h6_ hN hK hT hR hS hF hB) ⟨_, rfl⟩
  · exact Sto.mk (p5_0_1 (c_X5_alter_bad l G x1 x2 x3 o (cA D 10) (cA D 20) (cA D 30) (cA D 40) ak (D 1) (D 3) rc (D 4) (D 5) (D 6) la ns sd to he sw nh ki te mi ar z q1_)) (p6_0_1 (c_X6_alter_bad l G x1 x2 x3 q (E 1) (E 2) (E 3) (E 4) ak (E 5) ln mso bg men wd mva gd (E 6) (E 7) rc (E 8) (E 9) (E 10) (E 11) (E 12) (E 13) kd nb tn (E 14) ct ip la2 ns sd to2 he2 sw2 nh ki2 te2 mi2 ar2 z q1_)) (fun _ h_ => cwE h_) (fun _ h_ => mwE h_) (fun w5_ w6_ h5_ h6_ => Inv.mk h5_ h6_ hN hK hT hR hS hF hB) ⟨_, rfl⟩
set_option maxRecDepth 100000 in
set_option maxHeartbeats 4000000 in
theorem st_hearer (l : Launch) (G : Gd) (o : Nat) (D : Nat → Nat) (q : Nat) (E : Nat → Nat) (x1 : Int32) (x2 : Int32) (x3 : Int32) : Stq l G o D q E yX5_hearer cX5_hearer 4 2 yX6_hearer cX6_hearer 5 2 (some (FieldType.int)) [.int x1, .int x2, .int x3] := by
  intro wc wm h_
  refine Inv.elim h_ ?_
  clear h_
  intro la la2 ns sd to to2 he he2 sw sw2 nh ki ki2 te te2 mi mi2 ar ar2 z k t d mf mk mt ak ln st en so va fa f tf mso bg men wd mva gd rc rwf rf muf sso ssz sit ssf szf shf sho shr shso shsz hof hnf hzf ct pz dk nu dt kd nb tn ip dbo tcf hN hK hT hR hS hF hB
  obtain ⟨c1, c2, c3, c4, c5, c6, c7, c8, c9⟩ := (id hN : RN la la2 ns sd to to2 he he2 sw sw2 nh ki ki2 te te2 mi mi2 ar ar2)
  by_cases q1_ : (0 ≤ x1 ∧ x1 ≤ 5) ∧ (0 ≤ x2 ∧ x2 ≤ 99) ∧ (0 ≤ x3 ∧ x3 ≤ 255)
  · by_cases q2_ : nh = 8
    · exact Sto.mk (p5_0_1 (c_X5_hearer_full l G x1 x2 x3 o (cA D 10) (cA D 20) (cA D 30) (cA D 40) ak (D 1) (D 3) rc (D 4) (D 5) (D 6) la ns sd to he sw nh ki te mi ar z q1_ q2_)) (p6_0_1 (c_X6_hearer_full l G x1 x2 x3 q (E 1) (E 2) (E 3) (E 4) ak (E 5) ln mso bg men wd mva gd (E 6) (E 7) rc (E 8) (E 9) (E 10) (E 11) (E 12) (E 13) kd nb tn (E 14) ct ip la2 ns sd to2 he2 sw2 nh ki2 te2 mi2 ar2 z q1_ q2_)) (fun _ h_ => cwE h_) (fun _ h_ => mwE h_) (fun w5_ w6_ h5_ h6_ => Inv.mk h5_ h6_ hN hK hT hR hS hF hB) ⟨_, rfl⟩
    · have q3_ : nh < 8 := by omega
      exact Sto.mk (p5_0_1c1 (c_X5_hearer_ok l G x1 x2 x3 o (cA D 10) (cA D 20) (cA D 30) (cA D 40) ak (D 1) (D 3) rc (D 4) (D 5) (D 6) la ns sd to he sw nh ki te mi ar z q1_ q3_)) (p6_0_1c1 (c_X6_hearer_ok l G x1 x2 x3 q (E 1) (E 2) (E 3) (E 4) ak (E 5) ln mso bg men wd mva gd (E 6) (E 7) rc (E 8) (E 9) (E 10) (E 11) (E 12) (E 13) kd nb tn (E 14) ct ip la2 ns sd to2 he2 sw2 nh ki2 te2 mi2 ar2 z q1_ q3_)) (fun _ h_ => cwE h_) (fun _ h_ => mwE h_) (fun w5_ w6_ h5_ h6_ => Inv.mk h5_ h6_ ⟨c1, c2, fun i hi => ⟨upd_sn (fun i hi => (c3 i hi).1) i hi, upd_sn (fun i hi => (c3 i hi).2.1) i hi, upd_sn (fun i hi => (c3 i hi).2.2.1) i hi, upd_sn (fun i hi => (c3 i hi).2.2.2) i hi⟩, c4, c5, by omega, c7, c8, fun i hi => ⟨upd_aln (Q := fun v_ => 0 ≤ v_ ∧ v_ ≤ 5) q1_.1 (fun i hi => (c9 i hi).1) i hi, upd_aln (Q := fun v_ => loB sd v_) lo_0 (fun i hi => (c9 i hi).2) i hi⟩⟩ hK hT hR hS hF hB) ⟨_, rfl⟩
  · exact Sto.mk (p5_0_1 (c_X5_hearer_bad l G x1 x2 x3 o (cA D 10) (cA D 20) (cA D 30) (cA D 40) ak (D 1) (D 3) rc (D 4) (D 5) (D 6) la ns sd to he sw nh ki te mi ar z q1_)) (p6_0_1 (c_X6_hearer_bad l G x1 x2 x3 q (E 1) (E 2) (E 3) (E 4) ak (E 5) ln mso bg men wd mva gd (E 6) (E 7) rc (E 8) (E 9) (E 10) (E 11) (E 12) (E 13) kd nb tn (E 14) ct ip la2 ns sd to2 he2 sw2 nh ki2 te2 mi2 ar2 z q1_)) (fun _ h_ => cwE h_) (fun _ h_ => mwE h_) (fun w5_ w6_ h5_ h6_ => Inv.mk h5_ h6_ hN hK hT hR hS hF hB) ⟨_, rfl⟩
set_option maxRecDepth 100000 in
set_option maxHeartbeats 4000000 in
theorem st_of (l : Launch) (G : Gd) (o : Nat) (D : Nat → Nat) (q : Nat) (E : Nat → Nat) (x1 : Int32) (x2 : Int32) : Stq l G o D q E yX5_of cX5_of 3 2 yX6_of cX6_of 3 2 (some (FieldType.int)) [.int x1, .int x2] := by
  intro wc wm h_
  refine Inv.elim h_ ?_
  clear h_
  intro la la2 ns sd to to2 he he2 sw sw2 nh ki ki2 te te2 mi mi2 ar ar2 z k t d mf mk mt ak ln st en so va fa f tf mso bg men wd mva gd rc rwf rf muf sso ssz sit ssf szf shf sho shr shso shsz hof hnf hzf ct pz dk nu dt kd nb tn ip dbo tcf hN hK hT hR hS hF hB
  obtain ⟨c1, c2, c3, c4, c5, c6, c7, c8, c9⟩ := (id hN : RN la la2 ns sd to to2 he he2 sw sw2 nh ki ki2 te te2 mi mi2 ar ar2)
  by_cases q1_ : 0 ≤ x1 ∧ x1 ≤ nI nh - 1
  · obtain ⟨h, hj_, rfl⟩ := inC nh (by omega) rfl q1_
    by_cases w0_ : x2 = 0
    · subst w0_
      exact Sto.mk (p5_0_1 (c_X5_of_0 l G h o (cA D 10) (cA D 20) (cA D 30) (cA D 40) ak (D 1) (D 3) rc (D 4) (D 5) (D 6) la ns sd to he sw nh ki te mi ar z hj_ c6)) (CtP.rv (p6_0_1 (c_X6_of_0 l G h q (E 1) (E 2) (E 3) (E 4) ak (E 5) ln mso bg men wd mva gd (E 6) (E 7) rc (E 8) (E 9) (E 10) (E 11) (E 12) (E 13) kd nb tn (E 14) ct ip la2 ns sd to2 he2 sw2 nh ki2 te2 mi2 ar2 z hj_ c6)) (congrArg (fun v_ => some (Value.int v_)) ((c3 h hj_).1.symm))) (fun _ h_ => cwE h_) (fun _ h_ => mwE h_) (fun w5_ w6_ h5_ h6_ => Inv.mk h5_ h6_ hN hK hT hR hS hF hB) ⟨_, rfl⟩
    by_cases w1_ : x2 = 1
    · subst w1_
      exact Sto.mk (p5_0_1 (c_X5_of_1 l G h o (cA D 10) (cA D 20) (cA D 30) (cA D 40) ak (D 1) (D 3) rc (D 4) (D 5) (D 6) la ns sd to he sw nh ki te mi ar z hj_ c6)) (CtP.rv (p6_0_1 (c_X6_of_1 l G h q (E 1) (E 2) (E 3) (E 4) ak (E 5) ln mso bg men wd mva gd (E 6) (E 7) rc (E 8) (E 9) (E 10) (E 11) (E 12) (E 13) kd nb tn (E 14) ct ip la2 ns sd to2 he2 sw2 nh ki2 te2 mi2 ar2 z hj_ c6)) (congrArg (fun v_ => some (Value.int v_)) ((c3 h hj_).2.1.symm))) (fun _ h_ => cwE h_) (fun _ h_ => mwE h_) (fun w5_ w6_ h5_ h6_ => Inv.mk h5_ h6_ hN hK hT hR hS hF hB) ⟨_, rfl⟩
    by_cases w2_ : x2 = 2
    · subst w2_
      exact Sto.mk (p5_0_1 (c_X5_of_2 l G h o (cA D 10) (cA D 20) (cA D 30) (cA D 40) ak (D 1) (D 3) rc (D 4) (D 5) (D 6) la ns sd to he sw nh ki te mi ar z hj_ c6)) (CtP.rv (p6_0_1 (c_X6_of_2 l G h q (E 1) (E 2) (E 3) (E 4) ak (E 5) ln mso bg men wd mva gd (E 6) (E 7) rc (E 8) (E 9) (E 10) (E 11) (E 12) (E 13) kd nb tn (E 14) ct ip la2 ns sd to2 he2 sw2 nh ki2 te2 mi2 ar2 z hj_ c6)) (congrArg (fun v_ => some (Value.int v_)) ((c3 h hj_).2.2.1.symm))) (fun _ h_ => cwE h_) (fun _ h_ => mwE h_) (fun w5_ w6_ h5_ h6_ => Inv.mk h5_ h6_ hN hK hT hR hS hF hB) ⟨_, rfl⟩
    by_cases w3_ : x2 = 3
    · subst w3_
      exact Sto.mk (p5_0_1 (c_X5_of_3 l G h o (cA D 10) (cA D 20) (cA D 30) (cA D 40) ak (D 1) (D 3) rc (D 4) (D 5) (D 6) la ns sd to he sw nh ki te mi ar z hj_ c6)) (CtP.rv (p6_0_1 (c_X6_of_3 l G h q (E 1) (E 2) (E 3) (E 4) ak (E 5) ln mso bg men wd mva gd (E 6) (E 7) rc (E 8) (E 9) (E 10) (E 11) (E 12) (E 13) kd nb tn (E 14) ct ip la2 ns sd to2 he2 sw2 nh ki2 te2 mi2 ar2 z hj_ c6)) (congrArg (fun v_ => some (Value.int v_)) ((c3 h hj_).2.2.2.symm))) (fun _ h_ => cwE h_) (fun _ h_ => mwE h_) (fun w5_ w6_ h5_ h6_ => Inv.mk h5_ h6_ hN hK hT hR hS hF hB) ⟨_, rfl⟩
    exact Sto.mk (p5_0_1 (c_X5_of_badw l G h x2 o (cA D 10) (cA D 20) (cA D 30) (cA D 40) ak (D 1) (D 3) rc (D 4) (D 5) (D 6) la ns sd to he sw nh ki te mi ar z hj_ c6 (fun z_ => by obtain ⟨n_, hn_, rfl⟩ := inC 4 (by decide) (by decide) z_; rcases (show n_ = 0 ∨ n_ = 1 ∨ n_ = 2 ∨ n_ = 3 by omega) with rfl | rfl | rfl | rfl <;> first | exact w0_ rfl | exact w1_ rfl | exact w2_ rfl | exact w3_ rfl))) (p6_0_1 (c_X6_of_badw l G h x2 q (E 1) (E 2) (E 3) (E 4) ak (E 5) ln mso bg men wd mva gd (E 6) (E 7) rc (E 8) (E 9) (E 10) (E 11) (E 12) (E 13) kd nb tn (E 14) ct ip la2 ns sd to2 he2 sw2 nh ki2 te2 mi2 ar2 z hj_ c6 (fun z_ => by obtain ⟨n_, hn_, rfl⟩ := inC 4 (by decide) (by decide) z_; rcases (show n_ = 0 ∨ n_ = 1 ∨ n_ = 2 ∨ n_ = 3 by omega) with rfl | rfl | rfl | rfl <;> first | exact w0_ rfl | exact w1_ rfl | exact w2_ rfl | exact w3_ rfl))) (fun _ h_ => cwE h_) (fun _ h_ => mwE h_) (fun w5_ w6_ h5_ h6_ => Inv.mk h5_ h6_ hN hK hT hR hS hF hB) ⟨_, rfl⟩
  · exact Sto.mk (p5_0_1 (c_X5_of_bad l G x1 x2 o (cA D 10) (cA D 20) (cA D 30) (cA D 40) ak (D 1) (D 3) rc (D 4) (D 5) (D 6) la ns sd to he sw nh ki te mi ar z q1_)) (p6_0_1 (c_X6_of_bad l G x1 x2 q (E 1) (E 2) (E 3) (E 4) ak (E 5) ln mso bg men wd mva gd (E 6) (E 7) rc (E 8) (E 9) (E 10) (E 11) (E 12) (E 13) kd nb tn (E 14) ct ip la2 ns sd to2 he2 sw2 nh ki2 te2 mi2 ar2 z q1_)) (fun _ h_ => cwE h_) (fun _ h_ => mwE h_) (fun w5_ w6_ h5_ h6_ => Inv.mk h5_ h6_ hN hK hT hR hS hF hB) ⟨_, rfl⟩
set_option maxRecDepth 100000 in
set_option maxHeartbeats 4000000 in
theorem st_does (l : Launch) (G : Gd) (o : Nat) (D : Nat → Nat) (q : Nat) (E : Nat → Nat) (x1 : Int32) (x2 : Int32) : Stq l G o D q E yX5_does cX5_does 3 2 yX6_does cX6_does 3 2 (some (FieldType.int)) [.int x1, .int x2] := by
  intro wc wm h_
  refine Inv.elim h_ ?_
  clear h_
  intro la la2 ns sd to to2 he he2 sw sw2 nh ki ki2 te te2 mi mi2 ar ar2 z k t d mf mk mt ak ln st en so va fa f tf mso bg men wd mva gd rc rwf rf muf sso ssz sit ssf szf shf sho shr shso shsz hof hnf hzf ct pz dk nu dt kd nb tn ip dbo tcf hN hK hT hR hS hF hB
  obtain ⟨c1, c2, c3, c4, c5, c6, c7, c8, c9⟩ := (id hN : RN la la2 ns sd to to2 he he2 sw sw2 nh ki ki2 te te2 mi mi2 ar ar2)
  by_cases q1_ : 0 ≤ x1 ∧ x1 ≤ nI nh - 1
  · obtain ⟨h, hj_, rfl⟩ := inC nh (by omega) rfl q1_
    obtain ⟨a1_, a2_, a3_, a4_⟩ := c3 h hj_
    by_cases w0_ : x2 = 0
    · subst w0_
      by_cases q2_ : sd = ns
      · exact Sto.mk (p5_0_1 (c_X5_does_0z l G h o (cA D 10) (cA D 20) (cA D 30) (cA D 40) ak (D 1) (D 3) rc (D 4) (D 5) (D 6) la ns sd to he sw nh ki te mi ar z hj_ c6 c4 q2_)) (p6_0_1 (c_X6_does_0z l G h q (E 1) (E 2) (E 3) (E 4) ak (E 5) ln mso bg men wd mva gd (E 6) (E 7) rc (E 8) (E 9) (E 10) (E 11) (E 12) (E 13) kd nb tn (E 14) ct ip la2 ns sd to2 he2 sw2 nh ki2 te2 mi2 ar2 z hj_ c6 c4 q2_)) (fun _ h_ => cwE h_) (fun _ h_ => mwE h_) (fun w5_ w6_ h5_ h6_ => Inv.mk h5_ h6_ hN hK hT hR hS hF hB) ⟨_, rfl⟩
      · have q3_ : sd < ns := by omega
        obtain ⟨b1_, b2_, b3_⟩ := c2 sd q3_
        exact Sto.mk (p5_0_1 (c_X5_does_0 l G h o (cA D 10) (cA D 20) (cA D 30) (cA D 40) ak (D 1) (D 3) rc (D 4) (D 5) (D 6) la ns sd to he sw nh ki te mi ar z hj_ c6 c4 q3_)) (CtP.rv (p6_0_1 (c_X6_does_0 l G h q (E 1) (E 2) (E 3) (E 4) ak (E 5) ln mso bg men wd mva gd (E 6) (E 7) rc (E 8) (E 9) (E 10) (E 11) (E 12) (E 13) kd nb tn (E 14) ct ip la2 ns sd to2 he2 sw2 nh ki2 te2 mi2 ar2 z hj_ c6 c4 q3_)) (congrArg (fun v_ => some (Value.int v_)) (by rw [a1_, a2_, a3_, b1_, b2_, b3_, c1 1 (by decide)]))) (fun _ h_ => cwE h_) (fun _ h_ => mwE h_) (fun w5_ w6_ h5_ h6_ => Inv.mk h5_ h6_ hN hK hT hR hS hF hB) ⟨_, rfl⟩
    by_cases w1_ : x2 = 1
    · subst w1_
      exact Sto.mk (p5_0_1 (c_X5_does_1 l G h o (cA D 10) (cA D 20) (cA D 30) (cA D 40) ak (D 1) (D 3) rc (D 4) (D 5) (D 6) la ns sd to he sw nh ki te mi ar z hj_ c6)) (CtP.rv (p6_0_1 (c_X6_does_1 l G h q (E 1) (E 2) (E 3) (E 4) ak (E 5) ln mso bg men wd mva gd (E 6) (E 7) rc (E 8) (E 9) (E 10) (E 11) (E 12) (E 13) kd nb tn (E 14) ct ip la2 ns sd to2 he2 sw2 nh ki2 te2 mi2 ar2 z hj_ c6)) (congrArg (fun v_ => some (Value.int v_)) (by rw [a1_, a2_, c1 0 (by decide)]))) (fun _ h_ => cwE h_) (fun _ h_ => mwE h_) (fun w5_ w6_ h5_ h6_ => Inv.mk h5_ h6_ hN hK hT hR hS hF hB) ⟨_, rfl⟩
    by_cases w2_ : x2 = 2
    · subst w2_
      exact Sto.mk (p5_0_1 (c_X5_does_2 l G h o (cA D 10) (cA D 20) (cA D 30) (cA D 40) ak (D 1) (D 3) rc (D 4) (D 5) (D 6) la ns sd to he sw nh ki te mi ar z hj_ c6)) (CtP.rv (p6_0_1 (c_X6_does_2 l G h q (E 1) (E 2) (E 3) (E 4) ak (E 5) ln mso bg men wd mva gd (E 6) (E 7) rc (E 8) (E 9) (E 10) (E 11) (E 12) (E 13) kd nb tn (E 14) ct ip la2 ns sd to2 he2 sw2 nh ki2 te2 mi2 ar2 z hj_ c6)) (congrArg (fun v_ => some (Value.int v_)) (by rw [a1_, c1 2 (by decide)]))) (fun _ h_ => cwE h_) (fun _ h_ => mwE h_) (fun w5_ w6_ h5_ h6_ => Inv.mk h5_ h6_ hN hK hT hR hS hF hB) ⟨_, rfl⟩
    exact Sto.mk (p5_0_1 (c_X5_does_badw l G h x2 o (cA D 10) (cA D 20) (cA D 30) (cA D 40) ak (D 1) (D 3) rc (D 4) (D 5) (D 6) la ns sd to he sw nh ki te mi ar z hj_ c6 (fun z_ => by obtain ⟨n_, hn_, rfl⟩ := inC 3 (by decide) (by decide) z_; rcases (show n_ = 0 ∨ n_ = 1 ∨ n_ = 2 by omega) with rfl | rfl | rfl <;> first | exact w0_ rfl | exact w1_ rfl | exact w2_ rfl))) (p6_0_1 (c_X6_does_badw l G h x2 q (E 1) (E 2) (E 3) (E 4) ak (E 5) ln mso bg men wd mva gd (E 6) (E 7) rc (E 8) (E 9) (E 10) (E 11) (E 12) (E 13) kd nb tn (E 14) ct ip la2 ns sd to2 he2 sw2 nh ki2 te2 mi2 ar2 z hj_ c6 (fun z_ => by obtain ⟨n_, hn_, rfl⟩ := inC 3 (by decide) (by decide) z_; rcases (show n_ = 0 ∨ n_ = 1 ∨ n_ = 2 by omega) with rfl | rfl | rfl <;> first | exact w0_ rfl | exact w1_ rfl | exact w2_ rfl))) (fun _ h_ => cwE h_) (fun _ h_ => mwE h_) (fun w5_ w6_ h5_ h6_ => Inv.mk h5_ h6_ hN hK hT hR hS hF hB) ⟨_, rfl⟩
  · exact Sto.mk (p5_0_1 (c_X5_does_bad l G x1 x2 o (cA D 10) (cA D 20) (cA D 30) (cA D 40) ak (D 1) (D 3) rc (D 4) (D 5) (D 6) la ns sd to he sw nh ki te mi ar z q1_)) (p6_0_1 (c_X6_does_bad l G x1 x2 q (E 1) (E 2) (E 3) (E 4) ak (E 5) ln mso bg men wd mva gd (E 6) (E 7) rc (E 8) (E 9) (E 10) (E 11) (E 12) (E 13) kd nb tn (E 14) ct ip la2 ns sd to2 he2 sw2 nh ki2 te2 mi2 ar2 z q1_)) (fun _ h_ => cwE h_) (fun _ h_ => mwE h_) (fun w5_ w6_ h5_ h6_ => Inv.mk h5_ h6_ hN hK hT hR hS hF hB) ⟨_, rfl⟩
set_option maxRecDepth 100000 in
set_option maxHeartbeats 4000000 in
theorem st_mind (l : Launch) (G : Gd) (o : Nat) (D : Nat → Nat) (q : Nat) (E : Nat → Nat) (x1 : Int32) (x2 : Int32) (x3 : Int32) : Stq l G o D q E yX5_mind cX5_mind 5 2 yX6_mind cX6_mind 4 2 (some (FieldType.int)) [.int x1, .int x2, .int x3] := by
  intro wc wm h_
  refine Inv.elim h_ ?_
  clear h_
  intro la la2 ns sd to to2 he he2 sw sw2 nh ki ki2 te te2 mi mi2 ar ar2 z k t d mf mk mt ak ln st en so va fa f tf mso bg men wd mva gd rc rwf rf muf sso ssz sit ssf szf shf sho shr shso shsz hof hnf hzf ct pz dk nu dt kd nb tn ip dbo tcf hN hK hT hR hS hF hB
  obtain ⟨c1, c2, c3, c4, c5, c6, c7, c8, c9⟩ := (id hN : RN la la2 ns sd to to2 he he2 sw sw2 nh ki ki2 te te2 mi mi2 ar ar2)
  by_cases q1_ : 0 ≤ x1 ∧ x1 ≤ nI nh - 1
  · obtain ⟨h, hj_, rfl⟩ := inC nh (by omega) rfl q1_
    by_cases q2_ : (0 ≤ x2 ∧ x2 ≤ 5) ∧ (0 ≤ x3 ∧ x3 ≤ 255)
    · exact Sto.mk (p5_0_1c1 (c_X5_mind_ok l G h x2 x3 o (cA D 10) (cA D 20) (cA D 30) (cA D 40) ak (D 1) (D 3) rc (D 4) (D 5) (D 6) la ns sd to he sw nh ki te mi ar z hj_ c6 q2_)) (CtP.rv (p6_0_1c1 (c_X6_mind_ok l G h x2 x3 q (E 1) (E 2) (E 3) (E 4) ak (E 5) ln mso bg men wd mva gd (E 6) (E 7) rc (E 8) (E 9) (E 10) (E 11) (E 12) (E 13) kd nb tn (E 14) ct ip la2 ns sd to2 he2 sw2 nh ki2 te2 mi2 ar2 z hj_ c6 q2_)) (congrArg (fun v_ => some (Value.int v_)) ((c3 h hj_).1.symm))) (fun _ h_ => cwE h_) (fun _ h_ => mwE h_) (fun w5_ w6_ h5_ h6_ => Inv.mk h5_ h6_ ⟨c1, c2, fun i hi => ⟨upd_cg rfl (fun i hi => (c3 i hi).1) i hi, (c3 i hi).2.1, upd_cg rfl (fun i hi => (c3 i hi).2.2.1) i hi, (c3 i hi).2.2.2⟩, c4, c5, c6, c7, c8, fun i hi => ⟨upd_al1 (Q := fun v_ => 0 ≤ v_ ∧ v_ ≤ 5) q2_.1 (fun i hi => (c9 i hi).1) i hi, (c9 i hi).2⟩⟩ hK hT hR hS hF hB) ⟨_, rfl⟩
    · exact Sto.mk (p5_0_1 (c_X5_mind_badv l G h x2 x3 o (cA D 10) (cA D 20) (cA D 30) (cA D 40) ak (D 1) (D 3) rc (D 4) (D 5) (D 6) la ns sd to he sw nh ki te mi ar z hj_ c6 q2_)) (p6_0_1 (c_X6_mind_badv l G h x2 x3 q (E 1) (E 2) (E 3) (E 4) ak (E 5) ln mso bg men wd mva gd (E 6) (E 7) rc (E 8) (E 9) (E 10) (E 11) (E 12) (E 13) kd nb tn (E 14) ct ip la2 ns sd to2 he2 sw2 nh ki2 te2 mi2 ar2 z hj_ c6 q2_)) (fun _ h_ => cwE h_) (fun _ h_ => mwE h_) (fun w5_ w6_ h5_ h6_ => Inv.mk h5_ h6_ hN hK hT hR hS hF hB) ⟨_, rfl⟩
  · exact Sto.mk (p5_0_1 (c_X5_mind_bad l G x1 x2 x3 o (cA D 10) (cA D 20) (cA D 30) (cA D 40) ak (D 1) (D 3) rc (D 4) (D 5) (D 6) la ns sd to he sw nh ki te mi ar z q1_)) (p6_0_1 (c_X6_mind_bad l G x1 x2 x3 q (E 1) (E 2) (E 3) (E 4) ak (E 5) ln mso bg men wd mva gd (E 6) (E 7) rc (E 8) (E 9) (E 10) (E 11) (E 12) (E 13) kd nb tn (E 14) ct ip la2 ns sd to2 he2 sw2 nh ki2 te2 mi2 ar2 z q1_)) (fun _ h_ => cwE h_) (fun _ h_ => mwE h_) (fun w5_ w6_ h5_ h6_ => Inv.mk h5_ h6_ hN hK hT hR hS hF hB) ⟨_, rfl⟩
set_option maxRecDepth 100000 in
set_option maxHeartbeats 4000000 in
theorem st_tender (l : Launch) (G : Gd) (o : Nat) (D : Nat → Nat) (q : Nat) (E : Nat → Nat) (x1 : Int32) (x2 : Int32) : Stq l G o D q E yX5_tender cX5_tender 3 2 yX6_tender cX6_tender 3 2 (some (FieldType.int)) [.int x1, .int x2] := by
  intro wc wm h_
  refine Inv.elim h_ ?_
  clear h_
  intro la la2 ns sd to to2 he he2 sw sw2 nh ki ki2 te te2 mi mi2 ar ar2 z k t d mf mk mt ak ln st en so va fa f tf mso bg men wd mva gd rc rwf rf muf sso ssz sit ssf szf shf sho shr shso shsz hof hnf hzf ct pz dk nu dt kd nb tn ip dbo tcf hN hK hT hR hS hF hB
  obtain ⟨c1, c2, c3, c4, c5, c6, c7, c8, c9⟩ := (id hN : RN la la2 ns sd to to2 he he2 sw sw2 nh ki ki2 te te2 mi mi2 ar ar2)
  by_cases q1_ : 0 ≤ x1 ∧ x1 ≤ nI nh - 1
  · obtain ⟨h, hj_, rfl⟩ := inC nh (by omega) rfl q1_
    by_cases q2_ : 0 ≤ x2 ∧ x2 ≤ 99
    · exact Sto.mk (p5_0_1c1 (c_X5_tender_ok l G h x2 o (cA D 10) (cA D 20) (cA D 30) (cA D 40) ak (D 1) (D 3) rc (D 4) (D 5) (D 6) la ns sd to he sw nh ki te mi ar z hj_ c6 q2_)) (CtP.rv (p6_0_1c1 (c_X6_tender_ok l G h x2 q (E 1) (E 2) (E 3) (E 4) ak (E 5) ln mso bg men wd mva gd (E 6) (E 7) rc (E 8) (E 9) (E 10) (E 11) (E 12) (E 13) kd nb tn (E 14) ct ip la2 ns sd to2 he2 sw2 nh ki2 te2 mi2 ar2 z hj_ c6 q2_)) (congrArg (fun v_ => some (Value.int v_)) ((c3 h hj_).2.1.symm))) (fun _ h_ => cwE h_) (fun _ h_ => mwE h_) (fun w5_ w6_ h5_ h6_ => Inv.mk h5_ h6_ ⟨c1, c2, fun i hi => ⟨(c3 i hi).1, upd_cg rfl (fun i hi => (c3 i hi).2.1) i hi, (c3 i hi).2.2⟩, c4, c5, c6, c7, c8, c9⟩ hK hT hR hS hF hB) ⟨_, rfl⟩
    · exact Sto.mk (p5_0_1 (c_X5_tender_badv l G h x2 o (cA D 10) (cA D 20) (cA D 30) (cA D 40) ak (D 1) (D 3) rc (D 4) (D 5) (D 6) la ns sd to he sw nh ki te mi ar z hj_ c6 q2_)) (p6_0_1 (c_X6_tender_badv l G h x2 q (E 1) (E 2) (E 3) (E 4) ak (E 5) ln mso bg men wd mva gd (E 6) (E 7) rc (E 8) (E 9) (E 10) (E 11) (E 12) (E 13) kd nb tn (E 14) ct ip la2 ns sd to2 he2 sw2 nh ki2 te2 mi2 ar2 z hj_ c6 q2_)) (fun _ h_ => cwE h_) (fun _ h_ => mwE h_) (fun w5_ w6_ h5_ h6_ => Inv.mk h5_ h6_ hN hK hT hR hS hF hB) ⟨_, rfl⟩
  · exact Sto.mk (p5_0_1 (c_X5_tender_bad l G x1 x2 o (cA D 10) (cA D 20) (cA D 30) (cA D 40) ak (D 1) (D 3) rc (D 4) (D 5) (D 6) la ns sd to he sw nh ki te mi ar z q1_)) (p6_0_1 (c_X6_tender_bad l G x1 x2 q (E 1) (E 2) (E 3) (E 4) ak (E 5) ln mso bg men wd mva gd (E 6) (E 7) rc (E 8) (E 9) (E 10) (E 11) (E 12) (E 13) kd nb tn (E 14) ct ip la2 ns sd to2 he2 sw2 nh ki2 te2 mi2 ar2 z q1_)) (fun _ h_ => cwE h_) (fun _ h_ => mwE h_) (fun w5_ w6_ h5_ h6_ => Inv.mk h5_ h6_ hN hK hT hR hS hF hB) ⟨_, rfl⟩
set_option maxRecDepth 100000 in
set_option maxHeartbeats 4000000 in
theorem st_say (l : Launch) (G : Gd) (o : Nat) (D : Nat → Nat) (q : Nat) (E : Nat → Nat) (x1 : Int32) : Stq l G o D q E yX5_say cX5_say 2 4 yX6_say cX6_say 2 4 (some (FieldType.int)) [.int x1] := by
  intro wc wm h_
  refine Inv.elim h_ ?_
  clear h_
  intro la la2 ns sd to to2 he he2 sw sw2 nh ki ki2 te te2 mi mi2 ar ar2 z k t d mf mk mt ak ln st en so va fa f tf mso bg men wd mva gd rc rwf rf muf sso ssz sit ssf szf shf sho shr shso shsz hof hnf hzf ct pz dk nu dt kd nb tn ip dbo tcf hN hK hT hR hS hF hB
  obtain ⟨c1, c2, c3, c4, c5, c6, c7, c8, c9⟩ := (id hN : RN la la2 ns sd to to2 he he2 sw sw2 nh ki ki2 te te2 mi mi2 ar ar2)
  by_cases q1_ : 1 ≤ x1 ∧ x1 ≤ 60
  · obtain ⟨n, h1_, hn_, rfl⟩ := inC1 60 (by decide) rfl q1_
    exact Sto.mk (p5_0_1c1 (c_X5_say_ok l G n o (cA D 10) (cA D 20) (cA D 30) (cA D 40) ak (D 1) (D 3) rc (D 4) (D 5) (D 6) la ns sd to he sw nh ki te mi ar z c6 c4 c5 h1_ hn_)) (p6_0_1c1 (c_X6_say_ok l G n q (E 1) (E 2) (E 3) (E 4) ak (E 5) ln mso bg men wd mva gd (E 6) (E 7) rc (E 8) (E 9) (E 10) (E 11) (E 12) (E 13) kd nb tn (E 14) ct ip la2 ns sd to2 he2 sw2 nh ki2 te2 mi2 ar2 z c6 c4 c5 h1_ hn_)) (fun _ h_ => cwE h_) (fun _ h_ => mwE h_) (fun w5_ w6_ h5_ h6_ => Inv.mk h5_ h6_ ⟨c1, c2, fun i hi => ⟨(c3 i hi).1, fte_e c1 c2 c3 c6 hi (by omega), (c3 i hi).2.2.1, far_e c1 c2 c3 c6 hi (by omega)⟩, c4, by omega, c6, c7, c8, fun i hi => ⟨(c9 i hi).1, by rw [fAr_at (L := fun h_ => h_ < nh) hi]; exact ev_lo (c9 i hi).2 _ (by omega)⟩⟩ hK hT hR hS hF hB) ⟨_, rfl⟩
  · exact Sto.mk (p5_0_1 (c_X5_say_bad l G x1 o (cA D 10) (cA D 20) (cA D 30) (cA D 40) ak (D 1) (D 3) rc (D 4) (D 5) (D 6) la ns sd to he sw nh ki te mi ar z q1_)) (p6_0_1 (c_X6_say_bad l G x1 q (E 1) (E 2) (E 3) (E 4) ak (E 5) ln mso bg men wd mva gd (E 6) (E 7) rc (E 8) (E 9) (E 10) (E 11) (E 12) (E 13) kd nb tn (E 14) ct ip la2 ns sd to2 he2 sw2 nh ki2 te2 mi2 ar2 z q1_)) (fun _ h_ => cwE h_) (fun _ h_ => mwE h_) (fun w5_ w6_ h5_ h6_ => Inv.mk h5_ h6_ hN hK hT hR hS hF hB) ⟨_, rfl⟩
set_option maxRecDepth 100000 in
set_option maxHeartbeats 4000000 in
theorem st_anew (l : Launch) (G : Gd) (o : Nat) (D : Nat → Nat) (q : Nat) (E : Nat → Nat) : Stq l G o D q E yX5_anew cX5_anew 3 0 yX6_anew cX6_anew 2 1 (some (FieldType.int)) [] := by
  intro wc wm h_
  refine Inv.elim h_ ?_
  clear h_
  intro la la2 ns sd to to2 he he2 sw sw2 nh ki ki2 te te2 mi mi2 ar ar2 z k t d mf mk mt ak ln st en so va fa f tf mso bg men wd mva gd rc rwf rf muf sso ssz sit ssf szf shf sho shr shso shsz hof hnf hzf ct pz dk nu dt kd nb tn ip dbo tcf hN hK hT hR hS hF hB
  obtain ⟨c1, c2, c3, c4, c5, c6, c7, c8, c9⟩ := (id hN : RN la la2 ns sd to to2 he he2 sw sw2 nh ki ki2 te te2 mi mi2 ar ar2)
  exact Sto.mk (p5_0_1c1 (c_X5_anew l G o (cA D 10) (cA D 20) (cA D 30) (cA D 40) ak (D 1) (D 3) rc (D 4) (D 5) (D 6) la ns sd to he sw nh ki te mi ar z c6)) (p6_0_1c1 (c_X6_anew l G q (E 1) (E 2) (E 3) (E 4) ak (E 5) ln mso bg men wd mva gd (E 6) (E 7) rc (E 8) (E 9) (E 10) (E 11) (E 12) (E 13) kd nb tn (E 14) ct ip la2 ns sd to2 he2 sw2 nh ki2 te2 mi2 ar2 z c6)) (fun _ h_ => cwE h_) (fun _ h_ => mwE h_) (fun w5_ w6_ h5_ h6_ => Inv.mk h5_ h6_ ⟨c1, c2, fun i hi => ⟨(c3 i hi).1, (c3 i hi).2.1, (c3 i hi).2.2.1, by unfold fZer; rw [if_pos hi, if_pos hi]⟩, c4, Nat.zero_le _, c6, c7, c8, fun i hi => ⟨(c9 i hi).1, by unfold fZer; rw [if_pos hi]; exact lo_0⟩⟩ hK hT hR hS hF hB) ⟨_, rfl⟩
set_option maxRecDepth 100000 in
set_option maxHeartbeats 4000000 in
theorem st_seed (l : Launch) (G : Gd) (o : Nat) (D : Nat → Nat) (q : Nat) (E : Nat → Nat) (x1 : Int32) : Stq l G o D q E yX5_seed cX5_seed 3 0 yX6_seed cX6_seed 2 1 (some (FieldType.int)) [.int x1] := by
  intro wc wm h_
  refine Inv.elim h_ ?_
  clear h_
  intro la la2 ns sd to to2 he he2 sw sw2 nh ki ki2 te te2 mi mi2 ar ar2 z k t d mf mk mt ak ln st en so va fa f tf mso bg men wd mva gd rc rwf rf muf sso ssz sit ssf szf shf sho shr shso shsz hof hnf hzf ct pz dk nu dt kd nb tn ip dbo tcf hN hK hT hR hS hF hB
  obtain ⟨c1, c2, c3, c4, c5, c6, c7, c8, c9⟩ := (id hN : RN la la2 ns sd to to2 he he2 sw sw2 nh ki ki2 te te2 mi mi2 ar ar2)
  exact Sto.mk (p5_0_1c1 (c_X5_seed l G x1 o (cA D 10) (cA D 20) (cA D 30) (cA D 40) ak (D 1) (D 3) rc (D 4) (D 5) (D 6) la ns sd to he sw nh ki te mi ar z)) (p6_0_1c1 (c_X6_seed l G x1 q (E 1) (E 2) (E 3) (E 4) ak (E 5) ln mso bg men wd mva gd (E 6) (E 7) rc (E 8) (E 9) (E 10) (E 11) (E 12) (E 13) kd nb tn (E 14) ct ip la2 ns sd to2 he2 sw2 nh ki2 te2 mi2 ar2 z)) (fun _ h_ => cwE h_) (fun _ h_ => mwE h_) (fun w5_ w6_ h5_ h6_ => Inv.mk h5_ h6_ hN hK hT hR hS hF hB) ⟨_, rfl⟩
