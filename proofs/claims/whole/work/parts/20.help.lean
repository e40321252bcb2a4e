set_option maxRecDepth 100000 in
set_option maxHeartbeats 4000000 in
theorem c_X5_within (l : Launch) (G : Gd) (v : Int32) (lo : Int32) (hi : Int32)  : Ct l G yX5_within cX5_within 3 (some (FieldType.boolean)) 0 [.int v, .int lo, .int hi] (wF []) (some (.int (bI (lo ≤ v ∧ v ≤ hi)))) (wF []) := by
  refine Ct.of "GooseArms" [some (.int v), some (.int lo), some (.int hi)] (by decide +kernel) rfl (Nat.le_of_ble_eq_true rfl) rfl ?_
  refine J_iload_n 0 0 dX5_within_0 rfl rfl ?_
  refine J_iload_n 1 1 dX5_within_1 rfl rfl ?_
  refine J_icmp_lt (tgt := 14) 2 dX5_within_2 (by decide) (fun c_1_ => ?_) (fun c_1_ => ?_)
  · skip
    refine J_iconst (v := 0) 14 dX5_within_14 rfl ?_
    exact J_zret 15 rfl dX5_within_15 (congrArg (fun x_ => some (Value.int x_)) (bI_f (by first | omega | grind)).symm) rfl
  · skip
    refine J_iload_n 5 0 dX5_within_5 rfl rfl ?_
    refine J_iload_n 6 2 dX5_within_6 rfl rfl ?_
    refine J_icmp_gt (tgt := 14) 7 dX5_within_7 (by decide) (fun c_2_ => ?_) (fun c_2_ => ?_)
    · skip
      refine J_iconst (v := 0) 14 dX5_within_14 rfl ?_
      exact J_zret 15 rfl dX5_within_15 (congrArg (fun x_ => some (Value.int x_)) (bI_f (by first | omega | grind)).symm) rfl
    · skip
      refine J_iconst (v := 1) 10 dX5_within_10 rfl ?_
      refine J_goto (tgt := 15) 11 dX5_within_11 (by decide) ?_
      exact J_zret 15 rfl dX5_within_15 (congrArg (fun x_ => some (Value.int x_)) (bI_t (by first | omega | grind)).symm) rfl
set_option maxRecDepth 100000 in
set_option maxHeartbeats 4000000 in
theorem c_X5_has (l : Launch) (G : Gd) (s : Int32) (m : Int32)  : Ct l G yX5_has cX5_has 2 (some (FieldType.boolean)) 0 [.int s, .int m] (wF []) (some (.int (bI (hasP s m)))) (wF []) := by
  refine Ct.of "GooseArms" [some (.int s), some (.int m)] (by decide +kernel) rfl (Nat.le_of_ble_eq_true rfl) rfl ?_
  refine J_iload_n 0 0 dX5_has_0 rfl rfl ?_
  refine J_iload_n 1 1 dX5_has_1 rfl rfl ?_
  refine J_ishr 2 dX5_has_2 ?_
  refine J_iconst (v := 1) 3 dX5_has_3 rfl ?_
  refine J_iand 4 dX5_has_4 ?_
  refine J_iconst (v := 1) 5 dX5_has_5 rfl ?_
  refine J_icmp_ne (tgt := 13) 6 dX5_has_6 (by decide) (fun c_1_ => ?_) (fun c_1_ => ?_)
  · skip
    refine J_iconst (v := 0) 13 dX5_has_13 rfl ?_
    exact J_zret 14 rfl dX5_has_14 (congrArg (fun x_ => some (Value.int x_)) (bI_f (by first | assumption | grind [hasP])).symm) rfl
  · skip
    refine J_iconst (v := 1) 9 dX5_has_9 rfl ?_
    refine J_goto (tgt := 14) 10 dX5_has_10 (by decide) ?_
    exact J_zret 14 rfl dX5_has_14 (congrArg (fun x_ => some (Value.int x_)) (bI_t (by first | assumption | grind [hasP])).symm) rfl
set_option maxRecDepth 100000 in
set_option maxHeartbeats 4000000 in
theorem c_X5_only (l : Launch) (G : Gd) (m : Int32)  : Ct l G yX5_only cX5_only 1 (some (FieldType.int)) 0 [.int m] (wF []) (some (.int (onlyI m))) (wF []) := by
  refine Ct.of "GooseArms" [some (.int m)] (by decide +kernel) rfl (Nat.le_of_ble_eq_true rfl) rfl ?_
  refine J_iconst (v := 1) 0 dX5_only_0 rfl ?_
  refine J_iload_n 1 0 dX5_only_1 rfl rfl ?_
  refine J_ishl 2 dX5_only_2 ?_
  exact J_iret 3 dX5_only_3 (congrArg (fun x_ => some (Value.int x_)) (by first | rfl | omega | grind)) rfl
set_option maxRecDepth 100000 in
set_option maxHeartbeats 4000000 in
theorem c_X5_heldTender (l : Launch) (G : Gd) (v : Int32)  : Ct l G yX5_heldTender cX5_heldTender 1 (some (FieldType.int)) 1 [.int v] (wF []) (some (.int (heldI v))) (wF []) := by
  refine Ct.of "GooseArms" [some (.int v)] (by decide +kernel) rfl (Nat.le_of_ble_eq_true rfl) rfl ?_
  refine J_iconst (v := 0) 0 dX5_heldTender_0 rfl ?_
  refine J_bipush (v := 99) 1 dX5_heldTender_1 rfl ?_
  refine J_iload_n 3 0 dX5_heldTender_3 rfl rfl ?_
  refine J_min 4 w_495 w_479 w_13 w_480 rfl (Nat.le_of_ble_eq_true rfl) dX5_heldTender_4 ?_
  refine J_max 7 w_496 w_497 w_13 w_498 rfl (Nat.le_of_ble_eq_true rfl) dX5_heldTender_7 ?_
  exact J_iret 10 dX5_heldTender_10 (congrArg (fun x_ => some (Value.int x_)) (by unfold heldI; split <;> split <;> split <;> first | rfl | grind)) rfl
set_option maxRecDepth 100000 in
set_option maxHeartbeats 4000000 in
theorem c_X5_isLaw (l : Launch) (G : Gd) (v : Int32)  : Ct l G yX5_isLaw cX5_isLaw 1 (some (FieldType.boolean)) 1 [.int v] (wF []) (some (.int (bI (0 ≤ v ∧ v ≤ 3)))) (wF []) := by
  refine Ct.of "GooseArms" [some (.int v)] (by decide +kernel) rfl (Nat.le_of_ble_eq_true rfl) rfl ?_
  refine J_iload_n 0 0 dX5_isLaw_0 rfl rfl ?_
  refine J_iconst (v := 0) 1 dX5_isLaw_1 rfl ?_
  refine J_iconst (v := 3) 2 dX5_isLaw_2 rfl ?_
  refine kb_RX5_65 (bs' := []) (rest := []) (st' := [.int (bI (0 ≤ v ∧ v ≤ 3))]) 3 (c_X5_within l G v 0 3 ) [] rfl rfl [] rfl rfl rfl rfl rfl rfl (Nat.le_of_ble_eq_true rfl) rfl dX5_isLaw_3 ?_
  exact J_zret 6 (bI_nar _) dX5_isLaw_6 rfl rfl
set_option maxRecDepth 100000 in
set_option maxHeartbeats 4000000 in
theorem c_X5_isKind (l : Launch) (G : Gd) (v : Int32)  : Ct l G yX5_isKind cX5_isKind 1 (some (FieldType.boolean)) 1 [.int v] (wF []) (some (.int (bI (0 ≤ v ∧ v ≤ 5)))) (wF []) := by
  refine Ct.of "GooseArms" [some (.int v)] (by decide +kernel) rfl (Nat.le_of_ble_eq_true rfl) rfl ?_
  refine J_iload_n 0 0 dX5_isKind_0 rfl rfl ?_
  refine J_iconst (v := 0) 1 dX5_isKind_1 rfl ?_
  refine J_iconst (v := 5) 2 dX5_isKind_2 rfl ?_
  refine kb_RX5_65 (bs' := []) (rest := []) (st' := [.int (bI (0 ≤ v ∧ v ≤ 5))]) 3 (c_X5_within l G v 0 5 ) [] rfl rfl [] rfl rfl rfl rfl rfl rfl (Nat.le_of_ble_eq_true rfl) rfl dX5_isKind_3 ?_
  exact J_zret 6 (bI_nar _) dX5_isKind_6 rfl rfl
set_option maxRecDepth 100000 in
set_option maxHeartbeats 4000000 in
theorem c_X5_isPlace (l : Launch) (G : Gd) (v : Int32)  : Ct l G yX5_isPlace cX5_isPlace 1 (some (FieldType.boolean)) 1 [.int v] (wF []) (some (.int (bI (0 ≤ v ∧ v ≤ 3)))) (wF []) := by
  refine Ct.of "GooseArms" [some (.int v)] (by decide +kernel) rfl (Nat.le_of_ble_eq_true rfl) rfl ?_
  refine J_iload_n 0 0 dX5_isPlace_0 rfl rfl ?_
  refine J_iconst (v := 0) 1 dX5_isPlace_1 rfl ?_
  refine J_iconst (v := 3) 2 dX5_isPlace_2 rfl ?_
  refine kb_RX5_65 (bs' := []) (rest := []) (st' := [.int (bI (0 ≤ v ∧ v ≤ 3))]) 3 (c_X5_within l G v 0 3 ) [] rfl rfl [] rfl rfl rfl rfl rfl rfl (Nat.le_of_ble_eq_true rfl) rfl dX5_isPlace_3 ?_
  exact J_zret 6 (bI_nar _) dX5_isPlace_6 rfl rfl
set_option maxRecDepth 100000 in
set_option maxHeartbeats 4000000 in
theorem c_X0_left (l : Launch) (G : Gd) (a : Nat → Nat) (la : Nat → Int32) (ns : Nat) (sd : Nat) (to : Nat → Int32) (he : Nat → Int32) (sw : Nat → Int32) (nh : Nat) (ki : Nat → Int32) (te : Nat → Int32) (mi : Nat → Int32) (ar : Nat → Int32) (z : Int32) (hsd : sd ≤ ns) : Ct l G yX0_left cX0_left 1 (some (FieldType.int)) 0 [.ref (a 0)] (wF [wCt G a la ns sd to he sw nh ki te mi ar z]) (some (.int (nI (ns - sd)))) (wF [wCt G a la ns sd to he sw nh ki te mi ar z]) := by
  refine Ct.of "GooseArms$Court" [some (.ref (a 0))] (by decide +kernel) rfl (Nat.le_of_ble_eq_true rfl) rfl ?_
  refine J_aload_n 0 0 dX0_left_0 rfl rfl ?_
  refine g_41 (v := .int (nI ns)) 1 0 rfl rfl dX0_left_1 ?_
  refine J_aload_n 4 0 dX0_left_4 rfl rfl ?_
  refine g_44 (v := .int (nI sd)) 5 0 rfl rfl dX0_left_5 ?_
  refine J_isub 8 dX0_left_8 ?_
  exact J_iret 9 dX0_left_9 (congrArg (fun x_ => some (Value.int x_)) (pk_sub hsd)) rfl
set_option maxRecDepth 100000 in
set_option maxHeartbeats 4000000 in
theorem c_X0_needs (l : Launch) (G : Gd) (h : Nat) (a : Nat → Nat) (la : Nat → Int32) (ns : Nat) (sd : Nat) (to : Nat → Int32) (he : Nat → Int32) (sw : Nat → Int32) (nh : Nat) (ki : Nat → Int32) (te : Nat → Int32) (mi : Nat → Int32) (ar : Nat → Int32) (z : Int32) (hh : h < 8) : Ct l G yX0_needs cX0_needs 3 (some (FieldType.int)) 0 [.ref (a 0), .int (nI h)] (wF [wCt G a la ns sd to he sw nh ki te mi ar z]) (some (.int (fNeeds (ki h) (te h) (la 0)))) (wF [wCt G a la ns sd to he sw nh ki te mi ar z]) := by
  refine Ct.of "GooseArms$Court" [some (.ref (a 0)), some (.int (nI h)), none] (by decide +kernel) rfl (Nat.le_of_ble_eq_true rfl) rfl ?_
  refine J_bipush (v := 6) 0 dX0_needs_0 rfl ?_
  refine J_aload_n 2 0 dX0_needs_2 rfl rfl ?_
  refine g_38 (v := .ref (a 1)) 3 0 rfl rfl dX0_needs_3 ?_
  refine J_iconst (v := 0) 6 dX0_needs_6 rfl ?_
  refine J_iald 7 1 0 rfl rfl (by omega) (by decide) dX0_needs_7 ?_
  refine J_iadd 8 dX0_needs_8 ?_
  refine J_istore_n (lv' := [some (.ref (a 0)), some (.int (nI h)), some (.int (6 + (la 0)))]) 9 2 dX0_needs_9 rfl (by decide) rfl ?_
  refine J_aload_n 10 0 dX0_needs_10 rfl rfl ?_
  refine g_55 (v := .ref (a 5)) 11 0 rfl rfl dX0_needs_11 ?_
  refine J_iload_n 14 1 dX0_needs_14 rfl rfl ?_
  refine J_iald 15 5 h rfl rfl (by omega) (by decide) dX0_needs_15 ?_
  by_cases e_1_ : (ki h) = 1
  · skip
    refine J_tableIn (tgt := 52) (off := 36) 16 1 dX0_needs_16 e_1_ (by decide +kernel) (by decide) ?_
    refine J_iload_n 52 2 dX0_needs_52 rfl rfl ?_
    refine J_iconst (v := 2) 53 dX0_needs_53 rfl ?_
    refine J_iadd 54 dX0_needs_54 ?_
    exact J_iret 55 dX0_needs_55 (congrArg (fun x_ => some (Value.int x_)) (by simp [fNeeds, *])) rfl
  by_cases e_2_ : (ki h) = 2
  · skip
    refine J_tableIn (tgt := 70) (off := 54) 16 2 dX0_needs_16 e_2_ (by decide +kernel) (by decide) ?_
    refine J_iload_n 70 2 dX0_needs_70 rfl rfl ?_
    refine J_iconst (v := 3) 71 dX0_needs_71 rfl ?_
    refine J_isub 72 dX0_needs_72 ?_
    exact J_iret 73 dX0_needs_73 (congrArg (fun x_ => some (Value.int x_)) (by simp [fNeeds, *])) rfl
  by_cases e_3_ : (ki h) = 3
  · skip
    refine J_tableIn (tgt := 56) (off := 40) 16 3 dX0_needs_16 e_3_ (by decide +kernel) (by decide) ?_
    refine J_iload_n 56 2 dX0_needs_56 rfl rfl ?_
    refine J_iconst (v := 2) 57 dX0_needs_57 rfl ?_
    refine J_iadd 58 dX0_needs_58 ?_
    refine J_aload_n 59 0 dX0_needs_59 rfl rfl ?_
    refine g_57 (v := .ref (a 6)) 60 0 rfl rfl dX0_needs_60 ?_
    refine J_iload_n 63 1 dX0_needs_63 rfl rfl ?_
    refine J_iald 64 6 h rfl rfl (by omega) (by decide) dX0_needs_64 ?_
    refine J_bipush (v := 10) 65 dX0_needs_65 rfl ?_
    refine J_idiv 67 dX0_needs_67 (by decide) ?_
    refine J_iadd 68 dX0_needs_68 ?_
    exact J_iret 69 dX0_needs_69 (congrArg (fun x_ => some (Value.int x_)) (by simp [fNeeds, *])) rfl
  by_cases e_4_ : (ki h) = 4
  · skip
    refine J_tableIn (tgt := 74) (off := 58) 16 4 dX0_needs_16 e_4_ (by decide +kernel) (by decide) ?_
    refine J_iload_n 74 2 dX0_needs_74 rfl rfl ?_
    refine J_iconst (v := 3) 75 dX0_needs_75 rfl ?_
    refine J_isub 76 dX0_needs_76 ?_
    refine J_aload_n 77 0 dX0_needs_77 rfl rfl ?_
    refine g_38 (v := .ref (a 1)) 78 0 rfl rfl dX0_needs_78 ?_
    refine J_iconst (v := 0) 81 dX0_needs_81 rfl ?_
    refine J_iald 82 1 0 rfl rfl (by omega) (by decide) dX0_needs_82 ?_
    refine J_isub 83 dX0_needs_83 ?_
    exact J_iret 84 dX0_needs_84 (congrArg (fun x_ => some (Value.int x_)) (by simp [fNeeds, *])) rfl
  by_cases e_5_ : (ki h) = 5
  · skip
    refine J_tableIn (tgt := 85) (off := 69) 16 5 dX0_needs_16 e_5_ (by decide +kernel) (by decide) ?_
    refine J_iload_n 85 2 dX0_needs_85 rfl rfl ?_
    refine J_iconst (v := 2) 86 dX0_needs_86 rfl ?_
    refine J_imul 87 dX0_needs_87 ?_
    exact J_iret 88 dX0_needs_88 (congrArg (fun x_ => some (Value.int x_)) (by simp [fNeeds, *])) rfl
  refine J_tableOut (tgt := 89) 16 dX0_needs_16 (by have q0_ := lv_neT (a := 1) e_1_ (by decide); have q1_ := lv_neT (a := 2) e_2_ (by decide); have q2_ := lv_neT (a := 3) e_3_ (by decide); have q3_ := lv_neT (a := 4) e_4_ (by decide); have q4_ := lv_neT (a := 5) e_5_ (by decide); omega) (by decide) ?_
  refine J_iload_n 89 2 dX0_needs_89 rfl rfl ?_
  exact J_iret 90 dX0_needs_90 (congrArg (fun x_ => some (Value.int x_)) (by simp [fNeeds, *])) rfl
set_option maxRecDepth 100000 in
set_option maxHeartbeats 4000000 in
theorem c_X0_wears (l : Launch) (G : Gd) (h : Nat) (a : Nat → Nat) (la : Nat → Int32) (ns : Nat) (sd : Nat) (to : Nat → Int32) (he : Nat → Int32) (sw : Nat → Int32) (nh : Nat) (ki : Nat → Int32) (te : Nat → Int32) (mi : Nat → Int32) (ar : Nat → Int32) (z : Int32) (hh : h < 8) : Ct l G yX0_wears cX0_wears 3 (some (FieldType.int)) 0 [.ref (a 0), .int (nI h)] (wF [wCt G a la ns sd to he sw nh ki te mi ar z]) (some (.int (fWears (ki h) (la 2)))) (wF [wCt G a la ns sd to he sw nh ki te mi ar z]) := by
  refine Ct.of "GooseArms$Court" [some (.ref (a 0)), some (.int (nI h)), none] (by decide +kernel) rfl (Nat.le_of_ble_eq_true rfl) rfl ?_
  refine J_aload_n 0 0 dX0_wears_0 rfl rfl ?_
  refine g_38 (v := .ref (a 1)) 1 0 rfl rfl dX0_wears_1 ?_
  refine J_iconst (v := 2) 4 dX0_wears_4 rfl ?_
  refine J_iald 5 1 2 rfl rfl (by omega) (by decide) dX0_wears_5 ?_
  refine J_istore_n (lv' := [some (.ref (a 0)), some (.int (nI h)), some (.int (la 2))]) 6 2 dX0_wears_6 rfl (by decide) rfl ?_
  refine J_aload_n 7 0 dX0_wears_7 rfl rfl ?_
  refine g_55 (v := .ref (a 5)) 8 0 rfl rfl dX0_wears_8 ?_
  refine J_iload_n 11 1 dX0_wears_11 rfl rfl ?_
  refine J_iald 12 5 h rfl rfl (by omega) (by decide) dX0_wears_12 ?_
  by_cases e_1_ : (ki h) = 2
  · skip
    refine J_tableIn (tgt := 48) (off := 35) 13 2 dX0_wears_13 e_1_ (by decide +kernel) (by decide) ?_
    refine J_iload_n 48 2 dX0_wears_48 rfl rfl ?_
    refine J_iconst (v := 2) 49 dX0_wears_49 rfl ?_
    refine J_isub 50 dX0_wears_50 ?_
    exact J_iret 51 dX0_wears_51 (congrArg (fun x_ => some (Value.int x_)) (by simp [fWears, *])) rfl
  by_cases e_2_ : (ki h) = 3
  · skip
    refine J_tableIn (tgt := 44) (off := 31) 13 3 dX0_wears_13 e_2_ (by decide +kernel) (by decide) ?_
    refine J_iload_n 44 2 dX0_wears_44 rfl rfl ?_
    refine J_iconst (v := 2) 45 dX0_wears_45 rfl ?_
    refine J_imul 46 dX0_wears_46 ?_
    exact J_iret 47 dX0_wears_47 (congrArg (fun x_ => some (Value.int x_)) (by simp [fWears, *])) rfl
  by_cases e_3_ : (ki h) = 4
  · skip
    refine J_tableIn (tgt := 52) (off := 39) 13 4 dX0_wears_13 e_3_ (by decide +kernel) (by decide) ?_
    refine J_iload_n 52 2 dX0_wears_52 rfl rfl ?_
    refine J_iconst (v := 3) 53 dX0_wears_53 rfl ?_
    refine J_isub 54 dX0_wears_54 ?_
    exact J_iret 55 dX0_wears_55 (congrArg (fun x_ => some (Value.int x_)) (by simp [fWears, *])) rfl
  by_cases e_4_ : (ki h) = 5
  · skip
    refine J_tableIn (tgt := 56) (off := 43) 13 5 dX0_wears_13 e_4_ (by decide +kernel) (by decide) ?_
    refine J_iconst (v := 0) 56 dX0_wears_56 rfl ?_
    exact J_iret 57 dX0_wears_57 (congrArg (fun x_ => some (Value.int x_)) (by simp [fWears, *])) rfl
  refine J_tableOut (tgt := 58) 13 dX0_wears_13 (by have q0_ := lv_neT (a := 2) e_1_ (by decide); have q1_ := lv_neT (a := 3) e_2_ (by decide); have q2_ := lv_neT (a := 4) e_3_ (by decide); have q3_ := lv_neT (a := 5) e_4_ (by decide); omega) (by decide) ?_
  refine J_iload_n 58 2 dX0_wears_58 rfl rfl ?_
  exact J_iret 59 dX0_wears_59 (congrArg (fun x_ => some (Value.int x_)) (by simp [fWears, *])) rfl
set_option maxRecDepth 100000 in
set_option maxHeartbeats 4000000 in
theorem c_X0_shivers (l : Launch) (G : Gd) (h : Nat) (i : Nat) (a : Nat → Nat) (la : Nat → Int32) (ns : Nat) (sd : Nat) (to : Nat → Int32) (he : Nat → Int32) (sw : Nat → Int32) (nh : Nat) (ki : Nat → Int32) (te : Nat → Int32) (mi : Nat → Int32) (ar : Nat → Int32) (z : Int32) (hh : h < 8) (hi : i < 12) : Ct l G yX0_shivers cX0_shivers 7 (some (FieldType.int)) 1 [.ref (a 0), .int (nI h), .int (nI i)] (wF [wCt G a la ns sd to he sw nh ki te mi ar z]) (some (.int (fShiv (ki h) (mi h) (te h) (la 1) (to i) (he i) (sw i) (nI i)))) (wF [wCt G a la ns sd to he sw nh ki te mi ar z]) := by
  refine Ct.of "GooseArms$Court" [some (.ref (a 0)), some (.int (nI h)), some (.int (nI i)), none, none, none, none] (by decide +kernel) rfl (Nat.le_of_ble_eq_true rfl) rfl ?_
  refine J_aload_n 0 0 dX0_shivers_0 rfl rfl ?_
  refine g_59 (v := .ref (a 7)) 1 0 rfl rfl dX0_shivers_1 ?_
  refine J_iload_n 4 1 dX0_shivers_4 rfl rfl ?_
  refine J_iald 5 7 h rfl rfl (by omega) (by decide) dX0_shivers_5 ?_
  refine J_aload_n 6 0 dX0_shivers_6 rfl rfl ?_
  refine g_46 (v := .ref (a 2)) 7 0 rfl rfl dX0_shivers_7 ?_
  refine J_iload_n 10 2 dX0_shivers_10 rfl rfl ?_
  refine J_iald 11 2 i rfl rfl (by omega) (by decide) dX0_shivers_11 ?_
  refine kb_RX0_63 (bs' := [wCt G a la ns sd to he sw nh ki te mi ar z]) (rest := []) (st' := [.int (bI (hasP (mi h) (to i)))]) 12 (c_X5_has l G (mi h) (to i) ) [] rfl rfl [] rfl rfl rfl rfl rfl rfl (Nat.le_of_ble_eq_true rfl) rfl dX0_shivers_12 ?_
  refine J_istore_n (lv' := [some (.ref (a 0)), some (.int (nI h)), some (.int (nI i)), some (.int (bI (hasP (mi h) (to i)))), none, none, none]) 15 3 dX0_shivers_15 rfl (by decide) rfl ?_
  refine J_aload_n 16 0 dX0_shivers_16 rfl rfl ?_
  refine g_50 (v := .ref (a 4)) 17 0 rfl rfl dX0_shivers_17 ?_
  refine J_iload_n 20 2 dX0_shivers_20 rfl rfl ?_
  refine J_iald 21 4 i rfl rfl (by omega) (by decide) dX0_shivers_21 ?_
  refine J_iconst (v := 1) 22 dX0_shivers_22 rfl ?_
  refine J_icmp_ne (tgt := 30) 23 dX0_shivers_23 (by decide) (fun c_1_ => ?_) (fun c_1_ => ?_)
  · skip
    refine J_iconst (v := 0) 30 dX0_shivers_30 rfl ?_
    refine J_istore (lv' := [some (.ref (a 0)), some (.int (nI h)), some (.int (nI i)), some (.int (bI (hasP (mi h) (to i)))), some (.int 0), none, none]) 31 dX0_shivers_31 (by decide) rfl ?_
    refine J_aload_n 33 0 dX0_shivers_33 rfl rfl ?_
    refine g_48 (v := .ref (a 3)) 34 0 rfl rfl dX0_shivers_34 ?_
    refine J_iload_n 37 2 dX0_shivers_37 rfl rfl ?_
    refine J_iald 38 3 i rfl rfl (by omega) (by decide) dX0_shivers_38 ?_
    refine J_iload_n 39 3 dX0_shivers_39 rfl rfl ?_
    refine J_ifB_eq (tgt := 52) 40 dX0_shivers_40 (by decide) (fun c_2_ => ?_) (fun c_2_ => ?_)
    · skip
      refine J_iconst (v := 0) 52 dX0_shivers_52 rfl ?_
      refine J_iadd 53 dX0_shivers_53 ?_
      refine J_istore (lv' := [some (.ref (a 0)), some (.int (nI h)), some (.int (nI i)), some (.int (bI (hasP (mi h) (to i)))), some (.int 0), some (.int ((he i) + 0)), none]) 54 dX0_shivers_54 (by decide) rfl ?_
      refine J_iload 56 dX0_shivers_56 rfl ?_
      refine J_iload 58 dX0_shivers_58 rfl ?_
      refine J_if_eq (tgt := 72) 60 dX0_shivers_60 (by decide) (fun _ => ?_) (fun c_3_ => absurd c_3_ (by decide))
      refine J_iconst (v := 0) 72 dX0_shivers_72 rfl ?_
      refine J_iadd 73 dX0_shivers_73 ?_
      refine J_istore (lv' := [some (.ref (a 0)), some (.int (nI h)), some (.int (nI i)), some (.int (bI (hasP (mi h) (to i)))), some (.int 0), some (.int ((he i) + 0)), some (.int (((he i) + 0) + 0))]) 74 dX0_shivers_74 (by decide) rfl ?_
      refine J_aload_n 76 0 dX0_shivers_76 rfl rfl ?_
      refine g_55 (v := .ref (a 5)) 77 0 rfl rfl dX0_shivers_77 ?_
      refine J_iload_n 80 1 dX0_shivers_80 rfl rfl ?_
      refine J_iald 81 5 h rfl rfl (by omega) (by decide) dX0_shivers_81 ?_
      by_cases e_4_ : (ki h) = 1
      · skip
        refine J_tableIn (tgt := 116) (off := 34) 82 1 dX0_shivers_82 e_4_ (by decide +kernel) (by decide) ?_
        refine J_iload 116 dX0_shivers_116 rfl ?_
        exact J_iret 118 dX0_shivers_118 (congrArg (fun x_ => some (Value.int x_)) (by simp [fShiv, fPlain, *])) rfl
      by_cases e_5_ : (ki h) = 2
      · skip
        refine J_tableIn (tgt := 124) (off := 42) 82 2 dX0_shivers_82 e_5_ (by decide +kernel) (by decide) ?_
        refine J_iload 124 dX0_shivers_124 rfl ?_
        refine J_iconst (v := 2) 126 dX0_shivers_126 rfl ?_
        refine J_isub 127 dX0_shivers_127 ?_
        exact J_iret 128 dX0_shivers_128 (congrArg (fun x_ => some (Value.int x_)) (by simp [fShiv, fPlain, *])) rfl
      by_cases e_6_ : (ki h) = 3
      · skip
        refine J_tableIn (tgt := 119) (off := 37) 82 3 dX0_shivers_82 e_6_ (by decide +kernel) (by decide) ?_
        refine J_iload 119 dX0_shivers_119 rfl ?_
        refine J_iconst (v := 2) 121 dX0_shivers_121 rfl ?_
        refine J_imul 122 dX0_shivers_122 ?_
        exact J_iret 123 dX0_shivers_123 (congrArg (fun x_ => some (Value.int x_)) (by simp [fShiv, fPlain, *])) rfl
      by_cases e_7_ : (ki h) = 4
      · skip
        refine J_tableIn (tgt := 129) (off := 47) 82 4 dX0_shivers_82 e_7_ (by decide +kernel) (by decide) ?_
        refine J_iload 129 dX0_shivers_129 rfl ?_
        refine J_iconst (v := 2) 131 dX0_shivers_131 rfl ?_
        refine J_isub 132 dX0_shivers_132 ?_
        refine J_iload 133 dX0_shivers_133 rfl ?_
        refine J_if_eq (tgt := 142) 135 dX0_shivers_135 (by decide) (fun _ => ?_) (fun c_8_ => absurd c_8_ (by decide))
        refine J_bipush (v := 9) 142 dX0_shivers_142 rfl ?_
        refine J_iadd 144 dX0_shivers_144 ?_
        exact J_iret 145 dX0_shivers_145 (congrArg (fun x_ => some (Value.int x_)) (by simp [fShiv, fPlain, *])) rfl
      by_cases e_9_ : (ki h) = 5
      · skip
        refine J_tableIn (tgt := 146) (off := 64) 82 5 dX0_shivers_82 e_9_ (by decide +kernel) (by decide) ?_
        refine J_iload_n 146 2 dX0_shivers_146 rfl rfl ?_
        refine J_iconst (v := 2) 147 dX0_shivers_147 rfl ?_
        refine J_irem 148 dX0_shivers_148 (by decide) ?_
        refine J_if_ne (tgt := 157) 149 dX0_shivers_149 (by decide) (fun c_10_ => ?_) (fun c_10_ => ?_)
        · skip
          refine J_iconst (v := 0) 157 dX0_shivers_157 rfl ?_
          exact J_iret 158 dX0_shivers_158 (congrArg (fun x_ => some (Value.int x_)) (by simp [fShiv, fPlain, *])) rfl
        · skip
          refine J_iload 152 dX0_shivers_152 rfl ?_
          refine J_goto (tgt := 158) 154 dX0_shivers_154 (by decide) ?_
          exact J_iret 158 dX0_shivers_158 (congrArg (fun x_ => some (Value.int x_)) (by simp [fShiv, fPlain, *])) rfl
      refine J_tableOut (tgt := 159) 82 dX0_shivers_82 (by have q0_ := lv_neT (a := 1) e_4_ (by decide); have q1_ := lv_neT (a := 2) e_5_ (by decide); have q2_ := lv_neT (a := 3) e_6_ (by decide); have q3_ := lv_neT (a := 4) e_7_ (by decide); have q4_ := lv_neT (a := 5) e_9_ (by decide); omega) (by decide) ?_
      refine J_iload 159 dX0_shivers_159 rfl ?_
      exact J_iret 161 dX0_shivers_161 (congrArg (fun x_ => some (Value.int x_)) (by simp [fShiv, fPlain, *])) rfl
    · skip
      refine J_aload_n 43 0 dX0_shivers_43 rfl rfl ?_
      refine g_57 (v := .ref (a 6)) 44 0 rfl rfl dX0_shivers_44 ?_
      refine J_iload_n 47 1 dX0_shivers_47 rfl rfl ?_
      refine J_iald 48 6 h rfl rfl (by omega) (by decide) dX0_shivers_48 ?_
      refine J_goto (tgt := 53) 49 dX0_shivers_49 (by decide) ?_
      refine J_iadd 53 dX0_shivers_53 ?_
      refine J_istore (lv' := [some (.ref (a 0)), some (.int (nI h)), some (.int (nI i)), some (.int (bI (hasP (mi h) (to i)))), some (.int 0), some (.int ((he i) + (te h))), none]) 54 dX0_shivers_54 (by decide) rfl ?_
      refine J_iload 56 dX0_shivers_56 rfl ?_
      refine J_iload 58 dX0_shivers_58 rfl ?_
      refine J_if_eq (tgt := 72) 60 dX0_shivers_60 (by decide) (fun _ => ?_) (fun c_11_ => absurd c_11_ (by decide))
      refine J_iconst (v := 0) 72 dX0_shivers_72 rfl ?_
      refine J_iadd 73 dX0_shivers_73 ?_
      refine J_istore (lv' := [some (.ref (a 0)), some (.int (nI h)), some (.int (nI i)), some (.int (bI (hasP (mi h) (to i)))), some (.int 0), some (.int ((he i) + (te h))), some (.int (((he i) + (te h)) + 0))]) 74 dX0_shivers_74 (by decide) rfl ?_
      refine J_aload_n 76 0 dX0_shivers_76 rfl rfl ?_
      refine g_55 (v := .ref (a 5)) 77 0 rfl rfl dX0_shivers_77 ?_
      refine J_iload_n 80 1 dX0_shivers_80 rfl rfl ?_
      refine J_iald 81 5 h rfl rfl (by omega) (by decide) dX0_shivers_81 ?_
      by_cases e_12_ : (ki h) = 1
      · skip
        refine J_tableIn (tgt := 116) (off := 34) 82 1 dX0_shivers_82 e_12_ (by decide +kernel) (by decide) ?_
        refine J_iload 116 dX0_shivers_116 rfl ?_
        exact J_iret 118 dX0_shivers_118 (congrArg (fun x_ => some (Value.int x_)) (by simp [fShiv, fPlain, *])) rfl
      by_cases e_13_ : (ki h) = 2
      · skip
        refine J_tableIn (tgt := 124) (off := 42) 82 2 dX0_shivers_82 e_13_ (by decide +kernel) (by decide) ?_
        refine J_iload 124 dX0_shivers_124 rfl ?_
        refine J_iconst (v := 2) 126 dX0_shivers_126 rfl ?_
        refine J_isub 127 dX0_shivers_127 ?_
        exact J_iret 128 dX0_shivers_128 (congrArg (fun x_ => some (Value.int x_)) (by simp [fShiv, fPlain, *])) rfl
      by_cases e_14_ : (ki h) = 3
      · skip
        refine J_tableIn (tgt := 119) (off := 37) 82 3 dX0_shivers_82 e_14_ (by decide +kernel) (by decide) ?_
        refine J_iload 119 dX0_shivers_119 rfl ?_
        refine J_iconst (v := 2) 121 dX0_shivers_121 rfl ?_
        refine J_imul 122 dX0_shivers_122 ?_
        exact J_iret 123 dX0_shivers_123 (congrArg (fun x_ => some (Value.int x_)) (by simp [fShiv, fPlain, *])) rfl
      by_cases e_15_ : (ki h) = 4
      · skip
        refine J_tableIn (tgt := 129) (off := 47) 82 4 dX0_shivers_82 e_15_ (by decide +kernel) (by decide) ?_
        refine J_iload 129 dX0_shivers_129 rfl ?_
        refine J_iconst (v := 2) 131 dX0_shivers_131 rfl ?_
        refine J_isub 132 dX0_shivers_132 ?_
        refine J_iload 133 dX0_shivers_133 rfl ?_
        refine J_if_eq (tgt := 142) 135 dX0_shivers_135 (by decide) (fun _ => ?_) (fun c_16_ => absurd c_16_ (by decide))
        refine J_bipush (v := 9) 142 dX0_shivers_142 rfl ?_
        refine J_iadd 144 dX0_shivers_144 ?_
        exact J_iret 145 dX0_shivers_145 (congrArg (fun x_ => some (Value.int x_)) (by simp [fShiv, fPlain, *])) rfl
      by_cases e_17_ : (ki h) = 5
      · skip
        refine J_tableIn (tgt := 146) (off := 64) 82 5 dX0_shivers_82 e_17_ (by decide +kernel) (by decide) ?_
        refine J_iload_n 146 2 dX0_shivers_146 rfl rfl ?_
        refine J_iconst (v := 2) 147 dX0_shivers_147 rfl ?_
        refine J_irem 148 dX0_shivers_148 (by decide) ?_
        refine J_if_ne (tgt := 157) 149 dX0_shivers_149 (by decide) (fun c_18_ => ?_) (fun c_18_ => ?_)
        · skip
          refine J_iconst (v := 0) 157 dX0_shivers_157 rfl ?_
          exact J_iret 158 dX0_shivers_158 (congrArg (fun x_ => some (Value.int x_)) (by simp [fShiv, fPlain, *])) rfl
        · skip
          refine J_iload 152 dX0_shivers_152 rfl ?_
          refine J_goto (tgt := 158) 154 dX0_shivers_154 (by decide) ?_
          exact J_iret 158 dX0_shivers_158 (congrArg (fun x_ => some (Value.int x_)) (by simp [fShiv, fPlain, *])) rfl
      refine J_tableOut (tgt := 159) 82 dX0_shivers_82 (by have q0_ := lv_neT (a := 1) e_12_ (by decide); have q1_ := lv_neT (a := 2) e_13_ (by decide); have q2_ := lv_neT (a := 3) e_14_ (by decide); have q3_ := lv_neT (a := 4) e_15_ (by decide); have q4_ := lv_neT (a := 5) e_17_ (by decide); omega) (by decide) ?_
      refine J_iload 159 dX0_shivers_159 rfl ?_
      exact J_iret 161 dX0_shivers_161 (congrArg (fun x_ => some (Value.int x_)) (by simp [fShiv, fPlain, *])) rfl
  · skip
    refine J_iconst (v := 1) 26 dX0_shivers_26 rfl ?_
    refine J_goto (tgt := 31) 27 dX0_shivers_27 (by decide) ?_
    refine J_istore (lv' := [some (.ref (a 0)), some (.int (nI h)), some (.int (nI i)), some (.int (bI (hasP (mi h) (to i)))), some (.int 1), none, none]) 31 dX0_shivers_31 (by decide) rfl ?_
    refine J_aload_n 33 0 dX0_shivers_33 rfl rfl ?_
    refine g_48 (v := .ref (a 3)) 34 0 rfl rfl dX0_shivers_34 ?_
    refine J_iload_n 37 2 dX0_shivers_37 rfl rfl ?_
    refine J_iald 38 3 i rfl rfl (by omega) (by decide) dX0_shivers_38 ?_
    refine J_iload_n 39 3 dX0_shivers_39 rfl rfl ?_
    refine J_ifB_eq (tgt := 52) 40 dX0_shivers_40 (by decide) (fun c_19_ => ?_) (fun c_19_ => ?_)
    · skip
      refine J_iconst (v := 0) 52 dX0_shivers_52 rfl ?_
      refine J_iadd 53 dX0_shivers_53 ?_
      refine J_istore (lv' := [some (.ref (a 0)), some (.int (nI h)), some (.int (nI i)), some (.int (bI (hasP (mi h) (to i)))), some (.int 1), some (.int ((he i) + 0)), none]) 54 dX0_shivers_54 (by decide) rfl ?_
      refine J_iload 56 dX0_shivers_56 rfl ?_
      refine J_iload 58 dX0_shivers_58 rfl ?_
      refine J_if_eq (tgt := 72) 60 dX0_shivers_60 (by decide) (fun c_20_ => absurd c_20_ (by decide)) (fun _ => ?_)
      refine J_aload_n 63 0 dX0_shivers_63 rfl rfl ?_
      refine g_38 (v := .ref (a 1)) 64 0 rfl rfl dX0_shivers_64 ?_
      refine J_iconst (v := 1) 67 dX0_shivers_67 rfl ?_
      refine J_iald 68 1 1 rfl rfl (by omega) (by decide) dX0_shivers_68 ?_
      refine J_goto (tgt := 73) 69 dX0_shivers_69 (by decide) ?_
      refine J_iadd 73 dX0_shivers_73 ?_
      refine J_istore (lv' := [some (.ref (a 0)), some (.int (nI h)), some (.int (nI i)), some (.int (bI (hasP (mi h) (to i)))), some (.int 1), some (.int ((he i) + 0)), some (.int (((he i) + 0) + (la 1)))]) 74 dX0_shivers_74 (by decide) rfl ?_
      refine J_aload_n 76 0 dX0_shivers_76 rfl rfl ?_
      refine g_55 (v := .ref (a 5)) 77 0 rfl rfl dX0_shivers_77 ?_
      refine J_iload_n 80 1 dX0_shivers_80 rfl rfl ?_
      refine J_iald 81 5 h rfl rfl (by omega) (by decide) dX0_shivers_81 ?_
      by_cases e_21_ : (ki h) = 1
      · skip
        refine J_tableIn (tgt := 116) (off := 34) 82 1 dX0_shivers_82 e_21_ (by decide +kernel) (by decide) ?_
        refine J_iload 116 dX0_shivers_116 rfl ?_
        exact J_iret 118 dX0_shivers_118 (congrArg (fun x_ => some (Value.int x_)) (by simp [fShiv, fPlain, *])) rfl
      by_cases e_22_ : (ki h) = 2
      · skip
        refine J_tableIn (tgt := 124) (off := 42) 82 2 dX0_shivers_82 e_22_ (by decide +kernel) (by decide) ?_
        refine J_iload 124 dX0_shivers_124 rfl ?_
        refine J_iconst (v := 2) 126 dX0_shivers_126 rfl ?_
        refine J_isub 127 dX0_shivers_127 ?_
        exact J_iret 128 dX0_shivers_128 (congrArg (fun x_ => some (Value.int x_)) (by simp [fShiv, fPlain, *])) rfl
      by_cases e_23_ : (ki h) = 3
      · skip
        refine J_tableIn (tgt := 119) (off := 37) 82 3 dX0_shivers_82 e_23_ (by decide +kernel) (by decide) ?_
        refine J_iload 119 dX0_shivers_119 rfl ?_
        refine J_iconst (v := 2) 121 dX0_shivers_121 rfl ?_
        refine J_imul 122 dX0_shivers_122 ?_
        exact J_iret 123 dX0_shivers_123 (congrArg (fun x_ => some (Value.int x_)) (by simp [fShiv, fPlain, *])) rfl
      by_cases e_24_ : (ki h) = 4
      · skip
        refine J_tableIn (tgt := 129) (off := 47) 82 4 dX0_shivers_82 e_24_ (by decide +kernel) (by decide) ?_
        refine J_iload 129 dX0_shivers_129 rfl ?_
        refine J_iconst (v := 2) 131 dX0_shivers_131 rfl ?_
        refine J_isub 132 dX0_shivers_132 ?_
        refine J_iload 133 dX0_shivers_133 rfl ?_
        refine J_if_eq (tgt := 142) 135 dX0_shivers_135 (by decide) (fun c_25_ => absurd c_25_ (by decide)) (fun _ => ?_)
        refine J_iconst (v := 0) 138 dX0_shivers_138 rfl ?_
        refine J_goto (tgt := 144) 139 dX0_shivers_139 (by decide) ?_
        refine J_iadd 144 dX0_shivers_144 ?_
        exact J_iret 145 dX0_shivers_145 (congrArg (fun x_ => some (Value.int x_)) (by simp [fShiv, fPlain, *])) rfl
      by_cases e_26_ : (ki h) = 5
      · skip
        refine J_tableIn (tgt := 146) (off := 64) 82 5 dX0_shivers_82 e_26_ (by decide +kernel) (by decide) ?_
        refine J_iload_n 146 2 dX0_shivers_146 rfl rfl ?_
        refine J_iconst (v := 2) 147 dX0_shivers_147 rfl ?_
        refine J_irem 148 dX0_shivers_148 (by decide) ?_
        refine J_if_ne (tgt := 157) 149 dX0_shivers_149 (by decide) (fun c_27_ => ?_) (fun c_27_ => ?_)
        · skip
          refine J_iconst (v := 0) 157 dX0_shivers_157 rfl ?_
          exact J_iret 158 dX0_shivers_158 (congrArg (fun x_ => some (Value.int x_)) (by simp [fShiv, fPlain, *])) rfl
        · skip
          refine J_iload 152 dX0_shivers_152 rfl ?_
          refine J_goto (tgt := 158) 154 dX0_shivers_154 (by decide) ?_
          exact J_iret 158 dX0_shivers_158 (congrArg (fun x_ => some (Value.int x_)) (by simp [fShiv, fPlain, *])) rfl
      refine J_tableOut (tgt := 159) 82 dX0_shivers_82 (by have q0_ := lv_neT (a := 1) e_21_ (by decide); have q1_ := lv_neT (a := 2) e_22_ (by decide); have q2_ := lv_neT (a := 3) e_23_ (by decide); have q3_ := lv_neT (a := 4) e_24_ (by decide); have q4_ := lv_neT (a := 5) e_26_ (by decide); omega) (by decide) ?_
      refine J_iload 159 dX0_shivers_159 rfl ?_
      exact J_iret 161 dX0_shivers_161 (congrArg (fun x_ => some (Value.int x_)) (by simp [fShiv, fPlain, *])) rfl
    · skip
      refine J_aload_n 43 0 dX0_shivers_43 rfl rfl ?_
      refine g_57 (v := .ref (a 6)) 44 0 rfl rfl dX0_shivers_44 ?_
      refine J_iload_n 47 1 dX0_shivers_47 rfl rfl ?_
      refine J_iald 48 6 h rfl rfl (by omega) (by decide) dX0_shivers_48 ?_
      refine J_goto (tgt := 53) 49 dX0_shivers_49 (by decide) ?_
      refine J_iadd 53 dX0_shivers_53 ?_
      refine J_istore (lv' := [some (.ref (a 0)), some (.int (nI h)), some (.int (nI i)), some (.int (bI (hasP (mi h) (to i)))), some (.int 1), some (.int ((he i) + (te h))), none]) 54 dX0_shivers_54 (by decide) rfl ?_
      refine J_iload 56 dX0_shivers_56 rfl ?_
      refine J_iload 58 dX0_shivers_58 rfl ?_
      refine J_if_eq (tgt := 72) 60 dX0_shivers_60 (by decide) (fun c_28_ => absurd c_28_ (by decide)) (fun _ => ?_)
      refine J_aload_n 63 0 dX0_shivers_63 rfl rfl ?_
      refine g_38 (v := .ref (a 1)) 64 0 rfl rfl dX0_shivers_64 ?_
      refine J_iconst (v := 1) 67 dX0_shivers_67 rfl ?_
      refine J_iald 68 1 1 rfl rfl (by omega) (by decide) dX0_shivers_68 ?_
      refine J_goto (tgt := 73) 69 dX0_shivers_69 (by decide) ?_
      refine J_iadd 73 dX0_shivers_73 ?_
      refine J_istore (lv' := [some (.ref (a 0)), some (.int (nI h)), some (.int (nI i)), some (.int (bI (hasP (mi h) (to i)))), some (.int 1), some (.int ((he i) + (te h))), some (.int (((he i) + (te h)) + (la 1)))]) 74 dX0_shivers_74 (by decide) rfl ?_
      refine J_aload_n 76 0 dX0_shivers_76 rfl rfl ?_
      refine g_55 (v := .ref (a 5)) 77 0 rfl rfl dX0_shivers_77 ?_
      refine J_iload_n 80 1 dX0_shivers_80 rfl rfl ?_
      refine J_iald 81 5 h rfl rfl (by omega) (by decide) dX0_shivers_81 ?_
      by_cases e_29_ : (ki h) = 1
      · skip
        refine J_tableIn (tgt := 116) (off := 34) 82 1 dX0_shivers_82 e_29_ (by decide +kernel) (by decide) ?_
        refine J_iload 116 dX0_shivers_116 rfl ?_
        exact J_iret 118 dX0_shivers_118 (congrArg (fun x_ => some (Value.int x_)) (by simp [fShiv, fPlain, *])) rfl
      by_cases e_30_ : (ki h) = 2
      · skip
        refine J_tableIn (tgt := 124) (off := 42) 82 2 dX0_shivers_82 e_30_ (by decide +kernel) (by decide) ?_
        refine J_iload 124 dX0_shivers_124 rfl ?_
        refine J_iconst (v := 2) 126 dX0_shivers_126 rfl ?_
        refine J_isub 127 dX0_shivers_127 ?_
        exact J_iret 128 dX0_shivers_128 (congrArg (fun x_ => some (Value.int x_)) (by simp [fShiv, fPlain, *])) rfl
      by_cases e_31_ : (ki h) = 3
      · skip
        refine J_tableIn (tgt := 119) (off := 37) 82 3 dX0_shivers_82 e_31_ (by decide +kernel) (by decide) ?_
        refine J_iload 119 dX0_shivers_119 rfl ?_
        refine J_iconst (v := 2) 121 dX0_shivers_121 rfl ?_
        refine J_imul 122 dX0_shivers_122 ?_
        exact J_iret 123 dX0_shivers_123 (congrArg (fun x_ => some (Value.int x_)) (by simp [fShiv, fPlain, *])) rfl
      by_cases e_32_ : (ki h) = 4
      · skip
        refine J_tableIn (tgt := 129) (off := 47) 82 4 dX0_shivers_82 e_32_ (by decide +kernel) (by decide) ?_
        refine J_iload 129 dX0_shivers_129 rfl ?_
        refine J_iconst (v := 2) 131 dX0_shivers_131 rfl ?_
        refine J_isub 132 dX0_shivers_132 ?_
        refine J_iload 133 dX0_shivers_133 rfl ?_
        refine J_if_eq (tgt := 142) 135 dX0_shivers_135 (by decide) (fun c_33_ => absurd c_33_ (by decide)) (fun _ => ?_)
        refine J_iconst (v := 0) 138 dX0_shivers_138 rfl ?_
        refine J_goto (tgt := 144) 139 dX0_shivers_139 (by decide) ?_
        refine J_iadd 144 dX0_shivers_144 ?_
        exact J_iret 145 dX0_shivers_145 (congrArg (fun x_ => some (Value.int x_)) (by simp [fShiv, fPlain, *])) rfl
      by_cases e_34_ : (ki h) = 5
      · skip
        refine J_tableIn (tgt := 146) (off := 64) 82 5 dX0_shivers_82 e_34_ (by decide +kernel) (by decide) ?_
        refine J_iload_n 146 2 dX0_shivers_146 rfl rfl ?_
        refine J_iconst (v := 2) 147 dX0_shivers_147 rfl ?_
        refine J_irem 148 dX0_shivers_148 (by decide) ?_
        refine J_if_ne (tgt := 157) 149 dX0_shivers_149 (by decide) (fun c_35_ => ?_) (fun c_35_ => ?_)
        · skip
          refine J_iconst (v := 0) 157 dX0_shivers_157 rfl ?_
          exact J_iret 158 dX0_shivers_158 (congrArg (fun x_ => some (Value.int x_)) (by simp [fShiv, fPlain, *])) rfl
        · skip
          refine J_iload 152 dX0_shivers_152 rfl ?_
          refine J_goto (tgt := 158) 154 dX0_shivers_154 (by decide) ?_
          exact J_iret 158 dX0_shivers_158 (congrArg (fun x_ => some (Value.int x_)) (by simp [fShiv, fPlain, *])) rfl
      refine J_tableOut (tgt := 159) 82 dX0_shivers_82 (by have q0_ := lv_neT (a := 1) e_29_ (by decide); have q1_ := lv_neT (a := 2) e_30_ (by decide); have q2_ := lv_neT (a := 3) e_31_ (by decide); have q3_ := lv_neT (a := 4) e_32_ (by decide); have q4_ := lv_neT (a := 5) e_34_ (by decide); omega) (by decide) ?_
      refine J_iload 159 dX0_shivers_159 rfl ?_
      exact J_iret 161 dX0_shivers_161 (congrArg (fun x_ => some (Value.int x_)) (by simp [fShiv, fPlain, *])) rfl
