/-! a step of both, 2 -/
set_option maxRecDepth 100000 in
set_option maxHeartbeats 4000000 in
theorem st_odds (l : Launch) (G : Gd) (o : Nat) (D : Nat → Nat) (q : Nat) (E : Nat → Nat) (x1 : Int32) (x2 : Int32) (x3 : Int32) : Stq l G o D q E yX5_odds cX5_odds 7 2 yX6_odds cX6_odds 7 1 (some (FieldType.long)) [.int x1, .int x2, .int x3] := by
  intro wc wm h_
  refine Inv.elim h_ ?_
  clear h_
  intro la la2 ns sd to to2 he he2 sw sw2 nh ki ki2 te te2 mi mi2 ar ar2 z k t d mf mk mt ak ln st en so va fa f tf mso bg men wd mva gd rc rwf rf muf sso ssz sit ssf szf shf sho shr shso shsz hof hnf hzf ct pz dk nu dt kd nb tn ip dbo tcf hN hK hT hR hS hF hB
  obtain ⟨c1, c2, c3, c4, c5, c6, c7, c8, c9⟩ := (id hN : RN la la2 ns sd to to2 he he2 sw sw2 nh ki ki2 te te2 mi mi2 ar ar2)
  by_cases q1_ : (0 ≤ x1 ∧ x1 ≤ 8) ∧ (0 ≤ x2 ∧ x2 ≤ x1) ∧ (0 ≤ x3 ∧ x3 ≤ 1)
  · obtain ⟨n, hn_, rfl⟩ := inC 9 (by decide) (by decide) q1_.1
    obtain ⟨k9, hk_, rfl⟩ := inC0 n (by omega) q1_.2.1
    obtain ⟨pd, hp_, hd_⟩ := c7
    exact Sto.mk (p5_0_1 (c_X5_odds_ok l G n k9 x3 o (cA D 10) (cA D 20) (cA D 30) (cA D 40) ak (D 1) (D 3) rc (D 4) (D 5) (D 6) la ns sd to he sw nh ki te mi ar z (by omega) hk_ q1_.2.2)) (CtP.rv (p6_0_1 (c_X6_odds_ok l G n k9 pd x3 q (E 1) (E 2) (E 3) (E 4) ak (E 5) ln mso bg men wd mva gd (E 6) (E 7) rc (E 8) (E 9) (E 10) (E 11) (E 12) (E 13) kd nb tn (E 14) ct ip la2 ns sd to2 he2 sw2 nh ki2 te2 mi2 ar2 z (by omega) hk_ q1_.2.2 hd_ hp_)) (congrArg (fun v_ => some (Value.long v_)) (Eq.symm (odds_e (by omega) hk_ ((c1 3 (by decide)).trans hd_) hp_)))) (fun _ h_ => cwE h_) (fun _ h_ => mwE h_) (fun w5_ w6_ h5_ h6_ => Inv.mk h5_ h6_ hN hK hT hR hS hF hB)
  · exact Sto.mk (p5_0 (c_X5_odds_bad l G x1 x2 x3 o (cA D 10) (cA D 20) (cA D 30) (cA D 40) ak (D 1) (D 3) rc (D 4) (D 5) (D 6) q1_)) (p6_0 (c_X6_odds_bad l G x1 x2 x3 q (E 1) (E 2) (E 3) (E 4) ak (E 5) ln mso bg men wd mva gd (E 6) (E 7) rc (E 8) (E 9) (E 10) (E 11) (E 12) (E 13) kd nb tn (E 14) ct ip q1_)) (fun _ h_ => cwE h_) (fun _ h_ => mwE h_) (fun w5_ w6_ h5_ h6_ => Inv.mk h5_ h6_ hN hK hT hR hS hF hB)
set_option maxRecDepth 100000 in
set_option maxHeartbeats 4000000 in
theorem st_hope (l : Launch) (G : Gd) (o : Nat) (D : Nat → Nat) (q : Nat) (E : Nat → Nat) (x1 : Int32) (x2 : Int32) : Stq l G o D q E yX5_hope cX5_hope 3 2 yX6_hope cX6_hope 3 1 (some (FieldType.long)) [.int x1, .int x2] := by
  intro wc wm h_
  refine Inv.elim h_ ?_
  clear h_
  intro la la2 ns sd to to2 he he2 sw sw2 nh ki ki2 te te2 mi mi2 ar ar2 z k t d mf mk mt ak ln st en so va fa f tf mso bg men wd mva gd rc rwf rf muf sso ssz sit ssf szf shf sho shr shso shsz hof hnf hzf ct pz dk nu dt kd nb tn ip dbo tcf hN hK hT hR hS hF hB
  obtain ⟨c1, c2, c3, c4, c5, c6, c7, c8, c9⟩ := (id hN : RN la la2 ns sd to to2 he he2 sw sw2 nh ki ki2 te te2 mi mi2 ar ar2)
  by_cases q1_ : (0 ≤ x1 ∧ x1 ≤ 99) ∧ (0 ≤ x2 ∧ x2 ≤ 1)
  · obtain ⟨n, hn_, rfl⟩ := inC 100 (by decide) (by decide) q1_.1
    obtain ⟨pd, hp_, hd_⟩ := c7
    exact Sto.mk (p5_0_1 (c_X5_hope_ok l G (nI n) x2 o (cA D 10) (cA D 20) (cA D 30) (cA D 40) ak (D 1) (D 3) rc (D 4) (D 5) (D 6) la ns sd to he sw nh ki te mi ar z q1_)) (CtP.rv (p6_0_1 (c_X6_hope_ok l G n pd x2 q (E 1) (E 2) (E 3) (E 4) ak (E 5) ln mso bg men wd mva gd (E 6) (E 7) rc (E 8) (E 9) (E 10) (E 11) (E 12) (E 13) kd nb tn (E 14) ct ip la2 ns sd to2 he2 sw2 nh ki2 te2 mi2 ar2 z (by omega) q1_.2 hd_ hp_)) (congrArg (fun v_ => some (Value.long v_)) (Eq.symm (hope_e (by omega) ((c1 3 (by decide)).trans hd_) hp_)))) (fun _ h_ => cwE h_) (fun _ h_ => mwE h_) (fun w5_ w6_ h5_ h6_ => Inv.mk h5_ h6_ hN hK hT hR hS hF hB)
  · exact Sto.mk (p5_0 (c_X5_hope_bad l G x1 x2 o (cA D 10) (cA D 20) (cA D 30) (cA D 40) ak (D 1) (D 3) rc (D 4) (D 5) (D 6) q1_)) (p6_0 (c_X6_hope_bad l G x1 x2 q (E 1) (E 2) (E 3) (E 4) ak (E 5) ln mso bg men wd mva gd (E 6) (E 7) rc (E 8) (E 9) (E 10) (E 11) (E 12) (E 13) kd nb tn (E 14) ct ip q1_)) (fun _ h_ => cwE h_) (fun _ h_ => mwE h_) (fun w5_ w6_ h5_ h6_ => Inv.mk h5_ h6_ hN hK hT hR hS hF hB)
