set_option maxRecDepth 100000 in
set_option maxHeartbeats 4000000 in
theorem c_X0_begin (l : Launch) (G : Gd) (a : Nat → Nat) (la : Nat → Int32) (ns : Nat) (sd : Nat) (to : Nat → Int32) (he : Nat → Int32) (sw : Nat → Int32) (nh : Nat) (ki : Nat → Int32) (te : Nat → Int32) (mi : Nat → Int32) (ar : Nat → Int32) (z : Int32)  : Ct l G yX0_begin cX0_begin 1 none 1 [.ref (a 0)] (wF [wCt G a la ns sd to he sw nh ki te mi ar z]) none (wF [wCt G a (svI [2, 3, 1, 20]) 0 0 to he sw 0 ki te mi ar z]) := by
  refine Ct.of "GooseArms$Court" [some (.ref (a 0))] (by decide +kernel) rfl (Nat.le_of_ble_eq_true rfl) rfl ?_
  refine J_getsN (v := .ref (G.2.2 0)) 0 (fun _ _ _ h_ => h_.2.2.2.2.2.2.2.2.2.2.2.2.2.2.1) gz0 rfl dX0_begin_0 ?_
  refine J_iconst (v := 0) 3 dX0_begin_3 rfl ?_
  refine J_aload_n 4 0 dX0_begin_4 rfl rfl ?_
  refine g_38 (v := .ref (a 1)) 5 0 rfl rfl dX0_begin_5 ?_
  refine J_iconst (v := 0) 8 dX0_begin_8 rfl ?_
  refine J_aload_n 9 0 dX0_begin_9 rfl rfl ?_
  refine g_38 (v := .ref (a 1)) 10 0 rfl rfl dX0_begin_10 ?_
  refine J_alen (v := 4) 13 1 0 rfl rfl rfl dX0_begin_13 ?_
  refine J_copys (ws' := (wF [wCt G a (svI [2, 3, 1, 20]) ns sd to he sw nh ki te mi ar z])) 14 1 4 gt0 w_249 w_251 w_250 w_8 rfl rfl rfl rfl (by decide) rfl (Nat.le_of_ble_eq_true rfl) rfl dX0_begin_14 ?_
  refine J_aload_n 17 0 dX0_begin_17 rfl rfl ?_
  refine J_iconst (v := 0) 18 dX0_begin_18 rfl ?_
  refine p_41 (ws' := (wF [wCt G a (svI [2, 3, 1, 20]) 0 sd to he sw nh ki te mi ar z])) 19 0 rfl rfl rfl (Nat.le_of_ble_eq_true rfl) rfl dX0_begin_19 ?_
  refine J_aload_n 22 0 dX0_begin_22 rfl rfl ?_
  refine J_iconst (v := 0) 23 dX0_begin_23 rfl ?_
  refine p_44 (ws' := (wF [wCt G a (svI [2, 3, 1, 20]) 0 0 to he sw nh ki te mi ar z])) 24 0 rfl rfl rfl (Nat.le_of_ble_eq_true rfl) rfl dX0_begin_24 ?_
  refine J_aload_n 27 0 dX0_begin_27 rfl rfl ?_
  refine J_iconst (v := 0) 28 dX0_begin_28 rfl ?_
  refine p_52 (ws' := (wF [wCt G a (svI [2, 3, 1, 20]) 0 0 to he sw 0 ki te mi ar z])) 29 0 rfl rfl rfl (Nat.le_of_ble_eq_true rfl) rfl dX0_begin_29 ?_
  exact J_vret 32 dX0_begin_32 rfl rfl
set_option maxRecDepth 100000 in
set_option maxHeartbeats 4000000 in
theorem c_X0_become (l : Launch) (G : Gd) (a : Nat → Nat) (la : Nat → Int32) (ns : Nat) (sd : Nat) (to : Nat → Int32) (he : Nat → Int32) (sw : Nat → Int32) (nh : Nat) (ki : Nat → Int32) (te : Nat → Int32) (mi : Nat → Int32) (ar : Nat → Int32) (z : Int32) (b : Nat → Nat) (b_la : Nat → Int32) (b_ns : Nat) (b_sd : Nat) (b_to : Nat → Int32) (b_he : Nat → Int32) (b_sw : Nat → Int32) (b_nh : Nat) (b_ki : Nat → Int32) (b_te : Nat → Int32) (b_mi : Nat → Int32) (b_ar : Nat → Int32) (b_z : Int32)  : Ct l G yX0_become cX0_become 2 none 1 [.ref (a 0), .ref (b 0)] (wF [wCt G a la ns sd to he sw nh ki te mi ar z, wCt G b b_la b_ns b_sd b_to b_he b_sw b_nh b_ki b_te b_mi b_ar b_z]) none (wF [wCt G a b_la b_ns b_sd b_to b_he b_sw b_nh b_ki b_te b_mi b_ar b_z, wCt G b b_la b_ns b_sd b_to b_he b_sw b_nh b_ki b_te b_mi b_ar b_z]) := by
  refine Ct.of "GooseArms$Court" [some (.ref (a 0)), some (.ref (b 0))] (by decide +kernel) rfl (Nat.le_of_ble_eq_true rfl) rfl ?_
  refine J_aload_n 0 1 dX0_become_0 rfl rfl ?_
  refine g_38 (v := .ref (b 1)) 1 9 rfl rfl dX0_become_1 ?_
  refine J_iconst (v := 0) 4 dX0_become_4 rfl ?_
  refine J_aload_n 5 0 dX0_become_5 rfl rfl ?_
  refine g_38 (v := .ref (a 1)) 6 0 rfl rfl dX0_become_6 ?_
  refine J_iconst (v := 0) 9 dX0_become_9 rfl ?_
  refine J_aload_n 10 0 dX0_become_10 rfl rfl ?_
  refine g_38 (v := .ref (a 1)) 11 0 rfl rfl dX0_become_11 ?_
  refine J_alen (v := 4) 14 1 0 rfl rfl rfl dX0_become_14 ?_
  refine J_copyi (ws' := (wF [wCt G a b_la ns sd to he sw nh ki te mi ar z, wCt G b b_la b_ns b_sd b_to b_he b_sw b_nh b_ki b_te b_mi b_ar b_z])) 15 10 1 4 w_249 w_251 w_250 w_8 rfl rfl rfl rfl rfl (by decide) rfl (Nat.le_of_ble_eq_true rfl) rfl dX0_become_15 ?_
  refine J_aload_n 18 0 dX0_become_18 rfl rfl ?_
  refine J_aload_n 19 1 dX0_become_19 rfl rfl ?_
  refine g_41 (v := .int (nI b_ns)) 20 9 rfl rfl dX0_become_20 ?_
  refine p_41 (ws' := (wF [wCt G a b_la b_ns sd to he sw nh ki te mi ar z, wCt G b b_la b_ns b_sd b_to b_he b_sw b_nh b_ki b_te b_mi b_ar b_z])) 23 0 rfl rfl rfl (Nat.le_of_ble_eq_true rfl) rfl dX0_become_23 ?_
  refine J_aload_n 26 0 dX0_become_26 rfl rfl ?_
  refine J_aload_n 27 1 dX0_become_27 rfl rfl ?_
  refine g_44 (v := .int (nI b_sd)) 28 9 rfl rfl dX0_become_28 ?_
  refine p_44 (ws' := (wF [wCt G a b_la b_ns b_sd to he sw nh ki te mi ar z, wCt G b b_la b_ns b_sd b_to b_he b_sw b_nh b_ki b_te b_mi b_ar b_z])) 31 0 rfl rfl rfl (Nat.le_of_ble_eq_true rfl) rfl dX0_become_31 ?_
  refine J_aload_n 34 1 dX0_become_34 rfl rfl ?_
  refine g_46 (v := .ref (b 2)) 35 9 rfl rfl dX0_become_35 ?_
  refine J_iconst (v := 0) 38 dX0_become_38 rfl ?_
  refine J_aload_n 39 0 dX0_become_39 rfl rfl ?_
  refine g_46 (v := .ref (a 2)) 40 0 rfl rfl dX0_become_40 ?_
  refine J_iconst (v := 0) 43 dX0_become_43 rfl ?_
  refine J_bipush (v := 12) 44 dX0_become_44 rfl ?_
  refine J_copyi (ws' := (wF [wCt G a b_la b_ns b_sd b_to he sw nh ki te mi ar z, wCt G b b_la b_ns b_sd b_to b_he b_sw b_nh b_ki b_te b_mi b_ar b_z])) 46 11 2 12 w_249 w_251 w_250 w_8 rfl rfl rfl rfl rfl (by decide) rfl (Nat.le_of_ble_eq_true rfl) rfl dX0_become_46 ?_
  refine J_aload_n 49 1 dX0_become_49 rfl rfl ?_
  refine g_48 (v := .ref (b 3)) 50 9 rfl rfl dX0_become_50 ?_
  refine J_iconst (v := 0) 53 dX0_become_53 rfl ?_
  refine J_aload_n 54 0 dX0_become_54 rfl rfl ?_
  refine g_48 (v := .ref (a 3)) 55 0 rfl rfl dX0_become_55 ?_
  refine J_iconst (v := 0) 58 dX0_become_58 rfl ?_
  refine J_bipush (v := 12) 59 dX0_become_59 rfl ?_
  refine J_copyi (ws' := (wF [wCt G a b_la b_ns b_sd b_to b_he sw nh ki te mi ar z, wCt G b b_la b_ns b_sd b_to b_he b_sw b_nh b_ki b_te b_mi b_ar b_z])) 61 12 3 12 w_249 w_251 w_250 w_8 rfl rfl rfl rfl rfl (by decide) rfl (Nat.le_of_ble_eq_true rfl) rfl dX0_become_61 ?_
  refine J_aload_n 64 1 dX0_become_64 rfl rfl ?_
  refine g_50 (v := .ref (b 4)) 65 9 rfl rfl dX0_become_65 ?_
  refine J_iconst (v := 0) 68 dX0_become_68 rfl ?_
  refine J_aload_n 69 0 dX0_become_69 rfl rfl ?_
  refine g_50 (v := .ref (a 4)) 70 0 rfl rfl dX0_become_70 ?_
  refine J_iconst (v := 0) 73 dX0_become_73 rfl ?_
  refine J_bipush (v := 12) 74 dX0_become_74 rfl ?_
  refine J_copyi (ws' := (wF [wCt G a b_la b_ns b_sd b_to b_he b_sw nh ki te mi ar z, wCt G b b_la b_ns b_sd b_to b_he b_sw b_nh b_ki b_te b_mi b_ar b_z])) 76 13 4 12 w_249 w_251 w_250 w_8 rfl rfl rfl rfl rfl (by decide) rfl (Nat.le_of_ble_eq_true rfl) rfl dX0_become_76 ?_
  refine J_aload_n 79 0 dX0_become_79 rfl rfl ?_
  refine J_aload_n 80 1 dX0_become_80 rfl rfl ?_
  refine g_52 (v := .int (nI b_nh)) 81 9 rfl rfl dX0_become_81 ?_
  refine p_52 (ws' := (wF [wCt G a b_la b_ns b_sd b_to b_he b_sw b_nh ki te mi ar z, wCt G b b_la b_ns b_sd b_to b_he b_sw b_nh b_ki b_te b_mi b_ar b_z])) 84 0 rfl rfl rfl (Nat.le_of_ble_eq_true rfl) rfl dX0_become_84 ?_
  refine J_aload_n 87 1 dX0_become_87 rfl rfl ?_
  refine g_55 (v := .ref (b 5)) 88 9 rfl rfl dX0_become_88 ?_
  refine J_iconst (v := 0) 91 dX0_become_91 rfl ?_
  refine J_aload_n 92 0 dX0_become_92 rfl rfl ?_
  refine g_55 (v := .ref (a 5)) 93 0 rfl rfl dX0_become_93 ?_
  refine J_iconst (v := 0) 96 dX0_become_96 rfl ?_
  refine J_bipush (v := 8) 97 dX0_become_97 rfl ?_
  refine J_copyi (ws' := (wF [wCt G a b_la b_ns b_sd b_to b_he b_sw b_nh b_ki te mi ar z, wCt G b b_la b_ns b_sd b_to b_he b_sw b_nh b_ki b_te b_mi b_ar b_z])) 99 14 5 8 w_249 w_251 w_250 w_8 rfl rfl rfl rfl rfl (by decide) rfl (Nat.le_of_ble_eq_true rfl) rfl dX0_become_99 ?_
  refine J_aload_n 102 1 dX0_become_102 rfl rfl ?_
  refine g_57 (v := .ref (b 6)) 103 9 rfl rfl dX0_become_103 ?_
  refine J_iconst (v := 0) 106 dX0_become_106 rfl ?_
  refine J_aload_n 107 0 dX0_become_107 rfl rfl ?_
  refine g_57 (v := .ref (a 6)) 108 0 rfl rfl dX0_become_108 ?_
  refine J_iconst (v := 0) 111 dX0_become_111 rfl ?_
  refine J_bipush (v := 8) 112 dX0_become_112 rfl ?_
  refine J_copyi (ws' := (wF [wCt G a b_la b_ns b_sd b_to b_he b_sw b_nh b_ki b_te mi ar z, wCt G b b_la b_ns b_sd b_to b_he b_sw b_nh b_ki b_te b_mi b_ar b_z])) 114 15 6 8 w_249 w_251 w_250 w_8 rfl rfl rfl rfl rfl (by decide) rfl (Nat.le_of_ble_eq_true rfl) rfl dX0_become_114 ?_
  refine J_aload_n 117 1 dX0_become_117 rfl rfl ?_
  refine g_59 (v := .ref (b 7)) 118 9 rfl rfl dX0_become_118 ?_
  refine J_iconst (v := 0) 121 dX0_become_121 rfl ?_
  refine J_aload_n 122 0 dX0_become_122 rfl rfl ?_
  refine g_59 (v := .ref (a 7)) 123 0 rfl rfl dX0_become_123 ?_
  refine J_iconst (v := 0) 126 dX0_become_126 rfl ?_
  refine J_bipush (v := 8) 127 dX0_become_127 rfl ?_
  refine J_copyi (ws' := (wF [wCt G a b_la b_ns b_sd b_to b_he b_sw b_nh b_ki b_te b_mi ar z, wCt G b b_la b_ns b_sd b_to b_he b_sw b_nh b_ki b_te b_mi b_ar b_z])) 129 16 7 8 w_249 w_251 w_250 w_8 rfl rfl rfl rfl rfl (by decide) rfl (Nat.le_of_ble_eq_true rfl) rfl dX0_become_129 ?_
  refine J_aload_n 132 1 dX0_become_132 rfl rfl ?_
  refine g_61 (v := .ref (b 8)) 133 9 rfl rfl dX0_become_133 ?_
  refine J_iconst (v := 0) 136 dX0_become_136 rfl ?_
  refine J_aload_n 137 0 dX0_become_137 rfl rfl ?_
  refine g_61 (v := .ref (a 8)) 138 0 rfl rfl dX0_become_138 ?_
  refine J_iconst (v := 0) 141 dX0_become_141 rfl ?_
  refine J_bipush (v := 8) 142 dX0_become_142 rfl ?_
  refine J_copyi (ws' := (wF [wCt G a b_la b_ns b_sd b_to b_he b_sw b_nh b_ki b_te b_mi b_ar z, wCt G b b_la b_ns b_sd b_to b_he b_sw b_nh b_ki b_te b_mi b_ar b_z])) 144 17 8 8 w_249 w_251 w_250 w_8 rfl rfl rfl rfl rfl (by decide) rfl (Nat.le_of_ble_eq_true rfl) rfl dX0_become_144 ?_
  refine J_aload_n 147 0 dX0_become_147 rfl rfl ?_
  refine J_aload_n 148 1 dX0_become_148 rfl rfl ?_
  refine g_63 (v := .int b_z) 149 9 rfl rfl dX0_become_149 ?_
  refine p_63 (ws' := (wF [wCt G a b_la b_ns b_sd b_to b_he b_sw b_nh b_ki b_te b_mi b_ar b_z, wCt G b b_la b_ns b_sd b_to b_he b_sw b_nh b_ki b_te b_mi b_ar b_z])) 152 0 rfl rfl rfl (Nat.le_of_ble_eq_true rfl) rfl dX0_become_152 ?_
  exact J_vret 155 dX0_become_155 rfl rfl
set_option maxRecDepth 100000 in
set_option maxHeartbeats 4000000 in
theorem c_X0_addSaying (l : Launch) (G : Gd) (tp : Int32) (ht : Int32) (so : Int32) (a : Nat → Nat) (la : Nat → Int32) (ns : Nat) (sd : Nat) (to : Nat → Int32) (he : Nat → Int32) (sw : Nat → Int32) (nh : Nat) (ki : Nat → Int32) (te : Nat → Int32) (mi : Nat → Int32) (ar : Nat → Int32) (z : Int32) (hns : ns < 12) : Ct l G yX0_addSaying cX0_addSaying 4 (some (FieldType.boolean)) 1 [.ref (a 0), .int tp, .int ht, .int so] (wF [wCt G a la ns sd to he sw nh ki te mi ar z]) (some (.int 1)) (wF [wCt G a la (ns + 1) sd (upd to ns tp) (upd he ns ht) (upd sw ns so) nh ki te mi ar z]) := by
  refine Ct.of "GooseArms$Court" [some (.ref (a 0)), some (.int tp), some (.int ht), some (.int so)] (by decide +kernel) rfl (Nat.le_of_ble_eq_true rfl) rfl ?_
  refine J_aload_n 0 0 dX0_addSaying_0 rfl rfl ?_
  refine g_41 (v := .int (nI ns)) 1 0 rfl rfl dX0_addSaying_1 ?_
  refine J_bipush (v := 12) 4 dX0_addSaying_4 rfl ?_
  refine J_icmp_lt (tgt := 11) 6 dX0_addSaying_6 (by decide) (fun c_1_ => ?_) (fun c_1_ => ?_)
  · skip
    have c_1_ : ns < 12 := (nI_ltI (a := ns) (b := 12) (by omega) (by omega)).mp c_1_
    refine J_aload_n 11 0 dX0_addSaying_11 rfl rfl ?_
    refine g_46 (v := .ref (a 2)) 12 0 rfl rfl dX0_addSaying_12 ?_
    refine J_aload_n 15 0 dX0_addSaying_15 rfl rfl ?_
    refine g_41 (v := .int (nI ns)) 16 0 rfl rfl dX0_addSaying_16 ?_
    refine J_iload_n 19 1 dX0_addSaying_19 rfl rfl ?_
    refine J_iast (ws' := (wF [wCt G a la ns sd (upd to ns tp) he sw nh ki te mi ar z])) 20 2 ns rfl rfl (by omega) (by decide) rfl dX0_addSaying_20 ?_
    refine J_aload_n 21 0 dX0_addSaying_21 rfl rfl ?_
    refine g_48 (v := .ref (a 3)) 22 0 rfl rfl dX0_addSaying_22 ?_
    refine J_aload_n 25 0 dX0_addSaying_25 rfl rfl ?_
    refine g_41 (v := .int (nI ns)) 26 0 rfl rfl dX0_addSaying_26 ?_
    refine J_iload_n 29 2 dX0_addSaying_29 rfl rfl ?_
    refine J_iast (ws' := (wF [wCt G a la ns sd (upd to ns tp) (upd he ns ht) sw nh ki te mi ar z])) 30 3 ns rfl rfl (by omega) (by decide) rfl dX0_addSaying_30 ?_
    refine J_aload_n 31 0 dX0_addSaying_31 rfl rfl ?_
    refine g_50 (v := .ref (a 4)) 32 0 rfl rfl dX0_addSaying_32 ?_
    refine J_aload_n 35 0 dX0_addSaying_35 rfl rfl ?_
    refine g_41 (v := .int (nI ns)) 36 0 rfl rfl dX0_addSaying_36 ?_
    refine J_iload_n 39 3 dX0_addSaying_39 rfl rfl ?_
    refine J_iast (ws' := (wF [wCt G a la ns sd (upd to ns tp) (upd he ns ht) (upd sw ns so) nh ki te mi ar z])) 40 4 ns rfl rfl (by omega) (by decide) rfl dX0_addSaying_40 ?_
    refine J_aload_n 41 0 dX0_addSaying_41 rfl rfl ?_
    refine J_dup 42 dX0_addSaying_42 rfl ?_
    refine g_41 (v := .int (nI ns)) 43 0 rfl rfl dX0_addSaying_43 ?_
    refine J_iconst (v := 1) 46 dX0_addSaying_46 rfl ?_
    refine J_iadd 47 dX0_addSaying_47 ?_
    refine J_topi (y := nI (ns + 1)) 48 (nI_add ns 1) ?_
    refine p_41 (ws' := (wF [wCt G a la (ns + 1) sd (upd to ns tp) (upd he ns ht) (upd sw ns so) nh ki te mi ar z])) 48 0 rfl rfl rfl (Nat.le_of_ble_eq_true rfl) rfl dX0_addSaying_48 ?_
    refine J_iconst (v := 1) 51 dX0_addSaying_51 rfl ?_
    exact J_zret 52 rfl dX0_addSaying_52 rfl rfl
  · skip
    have c_1_ : ¬ ns < 12 := fun z_ => c_1_ ((nI_ltI (a := ns) (b := 12) (by omega) (by omega)).mpr z_)
    exact absurd hns c_1_
set_option maxRecDepth 100000 in
set_option maxHeartbeats 4000000 in
theorem c_X0_addHearer (l : Launch) (G : Gd) (kd : Int32) (tn : Int32) (md : Int32) (a : Nat → Nat) (la : Nat → Int32) (ns : Nat) (sd : Nat) (to : Nat → Int32) (he : Nat → Int32) (sw : Nat → Int32) (nh : Nat) (ki : Nat → Int32) (te : Nat → Int32) (mi : Nat → Int32) (ar : Nat → Int32) (z : Int32) (hnh : nh < 8) : Ct l G yX0_addHearer cX0_addHearer 4 (some (FieldType.boolean)) 1 [.ref (a 0), .int kd, .int tn, .int md] (wF [wCt G a la ns sd to he sw nh ki te mi ar z]) (some (.int 1)) (wF [wCt G a la ns sd to he sw (nh + 1) (upd ki nh kd) (upd te nh tn) (upd mi nh md) (upd ar nh 0) z]) := by
  refine Ct.of "GooseArms$Court" [some (.ref (a 0)), some (.int kd), some (.int tn), some (.int md)] (by decide +kernel) rfl (Nat.le_of_ble_eq_true rfl) rfl ?_
  refine J_aload_n 0 0 dX0_addHearer_0 rfl rfl ?_
  refine g_52 (v := .int (nI nh)) 1 0 rfl rfl dX0_addHearer_1 ?_
  refine J_bipush (v := 8) 4 dX0_addHearer_4 rfl ?_
  refine J_icmp_lt (tgt := 11) 6 dX0_addHearer_6 (by decide) (fun c_1_ => ?_) (fun c_1_ => ?_)
  · skip
    have c_1_ : nh < 8 := (nI_ltI (a := nh) (b := 8) (by omega) (by omega)).mp c_1_
    refine J_aload_n 11 0 dX0_addHearer_11 rfl rfl ?_
    refine g_55 (v := .ref (a 5)) 12 0 rfl rfl dX0_addHearer_12 ?_
    refine J_aload_n 15 0 dX0_addHearer_15 rfl rfl ?_
    refine g_52 (v := .int (nI nh)) 16 0 rfl rfl dX0_addHearer_16 ?_
    refine J_iload_n 19 1 dX0_addHearer_19 rfl rfl ?_
    refine J_iast (ws' := (wF [wCt G a la ns sd to he sw nh (upd ki nh kd) te mi ar z])) 20 5 nh rfl rfl (by omega) (by decide) rfl dX0_addHearer_20 ?_
    refine J_aload_n 21 0 dX0_addHearer_21 rfl rfl ?_
    refine g_57 (v := .ref (a 6)) 22 0 rfl rfl dX0_addHearer_22 ?_
    refine J_aload_n 25 0 dX0_addHearer_25 rfl rfl ?_
    refine g_52 (v := .int (nI nh)) 26 0 rfl rfl dX0_addHearer_26 ?_
    refine J_iload_n 29 2 dX0_addHearer_29 rfl rfl ?_
    refine J_iast (ws' := (wF [wCt G a la ns sd to he sw nh (upd ki nh kd) (upd te nh tn) mi ar z])) 30 6 nh rfl rfl (by omega) (by decide) rfl dX0_addHearer_30 ?_
    refine J_aload_n 31 0 dX0_addHearer_31 rfl rfl ?_
    refine g_59 (v := .ref (a 7)) 32 0 rfl rfl dX0_addHearer_32 ?_
    refine J_aload_n 35 0 dX0_addHearer_35 rfl rfl ?_
    refine g_52 (v := .int (nI nh)) 36 0 rfl rfl dX0_addHearer_36 ?_
    refine J_iload_n 39 3 dX0_addHearer_39 rfl rfl ?_
    refine J_iast (ws' := (wF [wCt G a la ns sd to he sw nh (upd ki nh kd) (upd te nh tn) (upd mi nh md) ar z])) 40 7 nh rfl rfl (by omega) (by decide) rfl dX0_addHearer_40 ?_
    refine J_aload_n 41 0 dX0_addHearer_41 rfl rfl ?_
    refine g_61 (v := .ref (a 8)) 42 0 rfl rfl dX0_addHearer_42 ?_
    refine J_aload_n 45 0 dX0_addHearer_45 rfl rfl ?_
    refine g_52 (v := .int (nI nh)) 46 0 rfl rfl dX0_addHearer_46 ?_
    refine J_iconst (v := 0) 49 dX0_addHearer_49 rfl ?_
    refine J_iast (ws' := (wF [wCt G a la ns sd to he sw nh (upd ki nh kd) (upd te nh tn) (upd mi nh md) (upd ar nh 0) z])) 50 8 nh rfl rfl (by omega) (by decide) rfl dX0_addHearer_50 ?_
    refine J_aload_n 51 0 dX0_addHearer_51 rfl rfl ?_
    refine J_dup 52 dX0_addHearer_52 rfl ?_
    refine g_52 (v := .int (nI nh)) 53 0 rfl rfl dX0_addHearer_53 ?_
    refine J_iconst (v := 1) 56 dX0_addHearer_56 rfl ?_
    refine J_iadd 57 dX0_addHearer_57 ?_
    refine J_topi (y := nI (nh + 1)) 58 (nI_add nh 1) ?_
    refine p_52 (ws' := (wF [wCt G a la ns sd to he sw (nh + 1) (upd ki nh kd) (upd te nh tn) (upd mi nh md) (upd ar nh 0) z])) 58 0 rfl rfl rfl (Nat.le_of_ble_eq_true rfl) rfl dX0_addHearer_58 ?_
    refine J_iconst (v := 1) 61 dX0_addHearer_61 rfl ?_
    exact J_zret 62 rfl dX0_addHearer_62 rfl rfl
  · skip
    have c_1_ : ¬ nh < 8 := fun z_ => c_1_ ((nI_ltI (a := nh) (b := 8) (by omega) (by omega)).mpr z_)
    exact absurd hnh c_1_
set_option maxRecDepth 100000 in
set_option maxHeartbeats 4000000 in
theorem c_X0_raisedNext (l : Launch) (G : Gd) (L : Int32) (a : Nat → Nat) (la : Nat → Int32) (ns : Nat) (sd : Nat) (to : Nat → Int32) (he : Nat → Int32) (sw : Nat → Int32) (nh : Nat) (ki : Nat → Int32) (te : Nat → Int32) (mi : Nat → Int32) (ar : Nat → Int32) (z : Int32) (hnh : nh ≤ 8) (hns : ns ≤ 12) (hsd : sd < ns) : Ct l G yX0_raisedNext cX0_raisedNext 4 (some (FieldType.int)) 2 [.ref (a 0), .int L] (wF [wCt G a la ns sd to he sw nh ki te mi ar z]) (some (.int (fMask (fun h_ => hasP L (nI h_) ∧ fUp la ki mi te to he sw sd h_) nh))) (wF [wCt G a la ns sd to he sw nh ki te mi ar z]) := by
  refine Ct.of "GooseArms$Court" [some (.ref (a 0)), some (.int L), none, none] (by decide +kernel) rfl (Nat.le_of_ble_eq_true rfl) rfl ?_
  have cut_4_ : ∀ (n_4_ : Nat) (k : Nat) (x : Int32), (nh - k < n_4_) → (hk : k ≤ nh) → (hx : x = fMask (fun h_ => hasP L (nI h_) ∧ fUp la ki mi te to he sw sd h_) k) → J l G (bd G 2 (some (FieldType.int)) (some (.int (fMask (fun h_ => hasP L (nI h_) ∧ fUp la ki mi te to he sw sd h_) nh))) (wF [wCt G a la ns sd to he sw nh ki te mi ar z])) cX0_raisedNext 4 "GooseArms$Court" 4 [some (.ref (a 0)), some (.int L), some (.int x), some (.int (nI k))] [] (wF [wCt G a la ns sd to he sw nh ki te mi ar z]) := by
    intro n_4_
    induction n_4_ with
    | zero => intro k x m_4_; exact absurd m_4_ (Nat.not_lt_zero _)
    | succ n_4_ ih_4_ =>
      intro k x m_4_ hk hx
      refine J_iload_n 4 3 dX0_raisedNext_4 rfl rfl ?_
      refine J_aload_n 5 0 dX0_raisedNext_5 rfl rfl ?_
      refine g_52 (v := .int (nI nh)) 6 0 rfl rfl dX0_raisedNext_6 ?_
      refine J_icmp_ge (tgt := 61) 9 dX0_raisedNext_9 (by decide) (fun c_1_ => ?_) (fun c_1_ => ?_)
      · skip
        have c_1_ : nh ≤ k := (nI_leI (a := nh) (b := k) (by omega) (by omega)).mp c_1_
        refine J_iload_n 61 2 dX0_raisedNext_61 rfl rfl ?_
        exact J_iret 62 dX0_raisedNext_62 (congrArg (fun x_ => some (Value.int x_)) (by rw [hx, show k = nh by omega])) rfl
      · skip
        have c_1_ : ¬ nh ≤ k := fun z_ => c_1_ ((nI_leI (a := nh) (b := k) (by omega) (by omega)).mpr z_)
        refine J_aload_n 12 0 dX0_raisedNext_12 rfl rfl ?_
        refine g_44 (v := .int (nI sd)) 13 0 rfl rfl dX0_raisedNext_13 ?_
        refine J_aload_n 16 0 dX0_raisedNext_16 rfl rfl ?_
        refine g_41 (v := .int (nI ns)) 17 0 rfl rfl dX0_raisedNext_17 ?_
        refine J_icmp_ge (tgt := 61) 20 dX0_raisedNext_20 (by decide) (fun c_2_ => ?_) (fun c_2_ => ?_)
        · skip
          have c_2_ : ns ≤ sd := (nI_leI (a := ns) (b := sd) (by omega) (by omega)).mp c_2_
          omega
        · skip
          have c_2_ : ¬ ns ≤ sd := fun z_ => c_2_ ((nI_leI (a := ns) (b := sd) (by omega) (by omega)).mpr z_)
          refine J_iload_n 23 1 dX0_raisedNext_23 rfl rfl ?_
          refine J_iload_n 24 3 dX0_raisedNext_24 rfl rfl ?_
          refine kb_RX0_63 (bs' := [wCt G a la ns sd to he sw nh ki te mi ar z]) (rest := []) (st' := [.int (bI (hasP L (nI k)))]) 25 (c_X5_has l G L (nI k) ) [] rfl rfl [] rfl rfl rfl rfl rfl rfl (Nat.le_of_ble_eq_true rfl) rfl dX0_raisedNext_25 ?_
          refine J_ifB_eq (tgt := 55) 28 dX0_raisedNext_28 (by decide) (fun c_3_ => ?_) (fun c_3_ => ?_)
          · skip
            refine J_iinc (v := nI (k + 1)) (lv' := [some (.ref (a 0)), some (.int L), some (.int x), some (.int (nI (k + 1)))]) 55 dX0_raisedNext_55 rfl (nI_add _ 1) (by decide) rfl ?_
            refine J_goto (tgt := 4) 58 dX0_raisedNext_58 (by decide) ?_
            exact ih_4_ (k + 1) x (by omega) (by first | assumption | omega | rfl) (by first | rfl | exact fMask_st hx ⟨by assumption, by unfold fUp; exact Int32.not_lt.mp (by assumption)⟩ | exact fMask_sf hx (fun z_ => by first | exact absurd z_.1 (by assumption) | exact Int32.not_lt.mpr z_.2 (by assumption)))
          · skip
            refine J_aload_n 31 0 dX0_raisedNext_31 rfl rfl ?_
            refine J_iload_n 32 3 dX0_raisedNext_32 rfl rfl ?_
            refine J_aload_n 33 0 dX0_raisedNext_33 rfl rfl ?_
            refine g_44 (v := .int (nI sd)) 34 0 rfl rfl dX0_raisedNext_34 ?_
            refine kb_RX0_67 (bs' := [wCt G a la ns sd to he sw nh ki te mi ar z]) (rest := []) (st' := [.int (fShiv (ki k) (mi k) (te k) (la 1) (to sd) (he sd) (sw sd) (nI sd))]) 37 (c_X0_shivers l G k sd a la ns sd to he sw nh ki te mi ar z (by omega) (by omega)) [0] 0 rfl rfl rfl [[a 0, a 1, a 2, a 3, a 4, a 5, a 6, a 7, a 8]] rfl rfl rfl rfl rfl rfl (Nat.le_of_ble_eq_true rfl) rfl dX0_raisedNext_37 ?_
            refine J_aload_n 40 0 dX0_raisedNext_40 rfl rfl ?_
            refine J_iload_n 41 3 dX0_raisedNext_41 rfl rfl ?_
            refine kb_RX0_71 (bs' := [wCt G a la ns sd to he sw nh ki te mi ar z]) (rest := [.int (fShiv (ki k) (mi k) (te k) (la 1) (to sd) (he sd) (sw sd) (nI sd))]) (st' := [.int (fNeeds (ki k) (te k) (la 0)), .int (fShiv (ki k) (mi k) (te k) (la 1) (to sd) (he sd) (sw sd) (nI sd))]) 42 (c_X0_needs l G k a la ns sd to he sw nh ki te mi ar z (by omega)) [0] 0 rfl rfl rfl [[a 0, a 1, a 2, a 3, a 4, a 5, a 6, a 7, a 8]] rfl rfl rfl rfl rfl rfl (Nat.le_of_ble_eq_true rfl) rfl dX0_raisedNext_42 ?_
            refine J_icmp_lt (tgt := 55) 45 dX0_raisedNext_45 (by decide) (fun c_4_ => ?_) (fun c_4_ => ?_)
            · skip
              refine J_iinc (v := nI (k + 1)) (lv' := [some (.ref (a 0)), some (.int L), some (.int x), some (.int (nI (k + 1)))]) 55 dX0_raisedNext_55 rfl (nI_add _ 1) (by decide) rfl ?_
              refine J_goto (tgt := 4) 58 dX0_raisedNext_58 (by decide) ?_
              exact ih_4_ (k + 1) x (by omega) (by first | assumption | omega | rfl) (by first | rfl | exact fMask_st hx ⟨by assumption, by unfold fUp; exact Int32.not_lt.mp (by assumption)⟩ | exact fMask_sf hx (fun z_ => by first | exact absurd z_.1 (by assumption) | exact Int32.not_lt.mpr z_.2 (by assumption)))
            · skip
              refine J_iload_n 48 2 dX0_raisedNext_48 rfl rfl ?_
              refine J_iload_n 49 3 dX0_raisedNext_49 rfl rfl ?_
              refine kb_RX0_75 (bs' := [wCt G a la ns sd to he sw nh ki te mi ar z]) (rest := [.int x]) (st' := [.int (onlyI (nI k)), .int x]) 50 (c_X5_only l G (nI k) ) [] rfl rfl [] rfl rfl rfl rfl rfl rfl (Nat.le_of_ble_eq_true rfl) rfl dX0_raisedNext_50 ?_
              refine J_ior 53 dX0_raisedNext_53 ?_
              refine J_istore_n (lv' := [some (.ref (a 0)), some (.int L), some (.int (x ||| (onlyI (nI k)))), some (.int (nI k))]) 54 2 dX0_raisedNext_54 rfl (by decide) rfl ?_
              refine J_iinc (v := nI (k + 1)) (lv' := [some (.ref (a 0)), some (.int L), some (.int (x ||| (onlyI (nI k)))), some (.int (nI (k + 1)))]) 55 dX0_raisedNext_55 rfl (nI_add _ 1) (by decide) rfl ?_
              refine J_goto (tgt := 4) 58 dX0_raisedNext_58 (by decide) ?_
              exact ih_4_ (k + 1) (x ||| (onlyI (nI k))) (by omega) (by first | assumption | omega | rfl) (by first | rfl | exact fMask_st hx ⟨by assumption, by unfold fUp; exact Int32.not_lt.mp (by assumption)⟩ | exact fMask_sf hx (fun z_ => by first | exact absurd z_.1 (by assumption) | exact Int32.not_lt.mpr z_.2 (by assumption)))
  refine J_iconst (v := 0) 0 dX0_raisedNext_0 rfl ?_
  refine J_istore_n (lv' := [some (.ref (a 0)), some (.int L), some (.int 0), none]) 1 2 dX0_raisedNext_1 rfl (by decide) rfl ?_
  refine J_iconst (v := 0) 2 dX0_raisedNext_2 rfl ?_
  refine J_istore_n (lv' := [some (.ref (a 0)), some (.int L), some (.int 0), some (.int 0)]) 3 3 dX0_raisedNext_3 rfl (by decide) rfl ?_
  exact cut_4_ ((nh - 0) + 1) 0 0 (Nat.lt_succ_self _) (by first | assumption | omega | rfl) (by first | rfl | exact fMask_st hx ⟨by assumption, by unfold fUp; exact Int32.not_lt.mp (by assumption)⟩ | exact fMask_sf hx (fun z_ => by first | exact absurd z_.1 (by assumption) | exact Int32.not_lt.mpr z_.2 (by assumption)))
set_option maxRecDepth 100000 in
set_option maxHeartbeats 4000000 in
theorem c_X0_sayNext (l : Launch) (G : Gd) (s : Int32) (a : Nat → Nat) (la : Nat → Int32) (ns : Nat) (sd : Nat) (to : Nat → Int32) (he : Nat → Int32) (sw : Nat → Int32) (nh : Nat) (ki : Nat → Int32) (te : Nat → Int32) (mi : Nat → Int32) (ar : Nat → Int32) (z : Int32) (hnh : nh ≤ 8) : Ct l G yX0_sayNext cX0_sayNext 3 none 2 [.ref (a 0), .int s] (wF [wCt G a la ns sd to he sw nh ki te mi ar z]) none (wF [wCt G a la ns (sd + 1) to he sw nh ki (fSel (fun h_ => h_ < nh ∧ hasP s (nI h_)) (fun h_ => heldI (te h_ - fWears (ki h_) (la 2))) te) mi (fSel (fun h_ => h_ < nh ∧ hasP s (nI h_)) (fun h_ => ar h_ ||| onlyI (nI sd)) ar) z]) := by
  refine Ct.of "GooseArms$Court" [some (.ref (a 0)), some (.int s), none] (by decide +kernel) rfl (Nat.le_of_ble_eq_true rfl) rfl ?_
  have cut_2_ : ∀ (n_2_ : Nat) (k : Nat) (te1 : Nat → Int32) (ar1 : Nat → Int32), (nh - k < n_2_) → (hk : k ≤ nh) → (hte : te1 = fSel (fun h_ => h_ < k ∧ hasP s (nI h_)) (fun h_ => heldI (te h_ - fWears (ki h_) (la 2))) te) → (har : ar1 = fSel (fun h_ => h_ < k ∧ hasP s (nI h_)) (fun h_ => ar h_ ||| onlyI (nI sd)) ar) → J l G (bd G 2 none none (wF [wCt G a la ns (sd + 1) to he sw nh ki (fSel (fun h_ => h_ < nh ∧ hasP s (nI h_)) (fun h_ => heldI (te h_ - fWears (ki h_) (la 2))) te) mi (fSel (fun h_ => h_ < nh ∧ hasP s (nI h_)) (fun h_ => ar h_ ||| onlyI (nI sd)) ar) z])) cX0_sayNext 3 "GooseArms$Court" 2 [some (.ref (a 0)), some (.int s), some (.int (nI k))] [] (wF [wCt G a la ns sd to he sw nh ki te1 mi ar1 z]) := by
    intro n_2_
    induction n_2_ with
    | zero => intro k te1 ar1 m_2_; exact absurd m_2_ (Nat.not_lt_zero _)
    | succ n_2_ ih_2_ =>
      intro k te1 ar1 m_2_ hk hte har
      refine J_iload_n 2 2 dX0_sayNext_2 rfl rfl ?_
      refine J_aload_n 3 0 dX0_sayNext_3 rfl rfl ?_
      refine g_52 (v := .int (nI nh)) 4 0 rfl rfl dX0_sayNext_4 ?_
      refine J_icmp_ge (tgt := 61) 7 dX0_sayNext_7 (by decide) (fun c_1_ => ?_) (fun c_1_ => ?_)
      · skip
        have c_1_ : nh ≤ k := (nI_leI (a := nh) (b := k) (by omega) (by omega)).mp c_1_
        refine J_aload_n 61 0 dX0_sayNext_61 rfl rfl ?_
        refine J_dup 62 dX0_sayNext_62 rfl ?_
        refine g_44 (v := .int (nI sd)) 63 0 rfl rfl dX0_sayNext_63 ?_
        refine J_iconst (v := 1) 66 dX0_sayNext_66 rfl ?_
        refine J_iadd 67 dX0_sayNext_67 ?_
        refine J_topi (y := nI (sd + 1)) 68 (nI_add sd 1) ?_
        refine p_44 (ws' := (wF [wCt G a la ns (sd + 1) to he sw nh ki te1 mi ar1 z])) 68 0 rfl rfl rfl (Nat.le_of_ble_eq_true rfl) rfl dX0_sayNext_68 ?_
        exact J_vret 71 dX0_sayNext_71 rfl (cg2 (fun (x0_ : Nat → Int32) (x1_ : Nat → Int32) => (wF [wCt G a la ns (sd + 1) to he sw nh ki x0_ mi x1_ z])) te1 (fSel (fun h_ => h_ < nh ∧ hasP s (nI h_)) (fun h_ => heldI (te h_ - fWears (ki h_) (la 2))) te) ar1 (fSel (fun h_ => h_ < nh ∧ hasP s (nI h_)) (fun h_ => ar h_ ||| onlyI (nI sd)) ar) (by rw [hte, show k = nh by omega]) (by rw [har, show k = nh by omega]))
      · skip
        have c_1_ : ¬ nh ≤ k := fun z_ => c_1_ ((nI_leI (a := nh) (b := k) (by omega) (by omega)).mpr z_)
        refine J_iload_n 10 1 dX0_sayNext_10 rfl rfl ?_
        refine J_iload_n 11 2 dX0_sayNext_11 rfl rfl ?_
        refine kb_RX0_63 (bs' := [wCt G a la ns sd to he sw nh ki te1 mi ar1 z]) (rest := []) (st' := [.int (bI (hasP s (nI k)))]) 12 (c_X5_has l G s (nI k) ) [] rfl rfl [] rfl rfl rfl rfl rfl rfl (Nat.le_of_ble_eq_true rfl) rfl dX0_sayNext_12 ?_
        refine J_ifB_eq (tgt := 55) 15 dX0_sayNext_15 (by decide) (fun c_2_ => ?_) (fun c_2_ => ?_)
        · skip
          refine J_iinc (v := nI (k + 1)) (lv' := [some (.ref (a 0)), some (.int s), some (.int (nI (k + 1)))]) 55 dX0_sayNext_55 rfl (nI_add _ 1) (by decide) rfl ?_
          refine J_goto (tgt := 2) 58 dX0_sayNext_58 (by decide) ?_
          exact ih_2_ (k + 1) te1 ar1 (by omega) (by first | assumption | omega | rfl) (by first | exact fSel_0 | exact fSel_st hte (by assumption) (by rw [fSel_at hte]) | exact fSel_sf hte (by assumption)) (by first | exact fSel_0 | exact fSel_st har (by assumption) (by rw [fSel_at har]) | exact fSel_sf har (by assumption))
        · skip
          refine J_aload_n 18 0 dX0_sayNext_18 rfl rfl ?_
          refine g_61 (v := .ref (a 8)) 19 0 rfl rfl dX0_sayNext_19 ?_
          refine J_iload_n 22 2 dX0_sayNext_22 rfl rfl ?_
          refine J_dup2 23 dX0_sayNext_23 rfl rfl ?_
          refine J_iald 24 8 k rfl rfl (by omega) (by decide) dX0_sayNext_24 ?_
          refine J_aload_n 25 0 dX0_sayNext_25 rfl rfl ?_
          refine g_44 (v := .int (nI sd)) 26 0 rfl rfl dX0_sayNext_26 ?_
          refine kb_RX0_75 (bs' := [wCt G a la ns sd to he sw nh ki te1 mi ar1 z]) (rest := [.int (ar1 k), .int (nI k), .ref (a 8)]) (st' := [.int (onlyI (nI sd)), .int (ar1 k), .int (nI k), .ref (a 8)]) 29 (c_X5_only l G (nI sd) ) [] rfl rfl [] rfl rfl rfl rfl rfl rfl (Nat.le_of_ble_eq_true rfl) rfl dX0_sayNext_29 ?_
          refine J_ior 32 dX0_sayNext_32 ?_
          refine J_iast (ws' := (wF [wCt G a la ns sd to he sw nh ki te1 mi (upd ar1 k ((ar1 k) ||| (onlyI (nI sd)))) z])) 33 8 k rfl rfl (by omega) (by decide) rfl dX0_sayNext_33 ?_
          refine J_aload_n 34 0 dX0_sayNext_34 rfl rfl ?_
          refine g_57 (v := .ref (a 6)) 35 0 rfl rfl dX0_sayNext_35 ?_
          refine J_iload_n 38 2 dX0_sayNext_38 rfl rfl ?_
          refine J_aload_n 39 0 dX0_sayNext_39 rfl rfl ?_
          refine g_57 (v := .ref (a 6)) 40 0 rfl rfl dX0_sayNext_40 ?_
          refine J_iload_n 43 2 dX0_sayNext_43 rfl rfl ?_
          refine J_iald 44 6 k rfl rfl (by omega) (by decide) dX0_sayNext_44 ?_
          refine J_aload_n 45 0 dX0_sayNext_45 rfl rfl ?_
          refine J_iload_n 46 2 dX0_sayNext_46 rfl rfl ?_
          refine kb_RX0_78 (bs' := [wCt G a la ns sd to he sw nh ki te1 mi (upd ar1 k ((ar1 k) ||| (onlyI (nI sd)))) z]) (rest := [.int (te1 k), .int (nI k), .ref (a 6)]) (st' := [.int (fWears (ki k) (la 2)), .int (te1 k), .int (nI k), .ref (a 6)]) 47 (c_X0_wears l G k a la ns sd to he sw nh ki te1 mi (upd ar1 k ((ar1 k) ||| (onlyI (nI sd)))) z (by omega)) [0] 0 rfl rfl rfl [[a 0, a 1, a 2, a 3, a 4, a 5, a 6, a 7, a 8]] rfl rfl rfl rfl rfl rfl (Nat.le_of_ble_eq_true rfl) rfl dX0_sayNext_47 ?_
          refine J_isub 50 dX0_sayNext_50 ?_
          refine kb_RX0_81 (bs' := [wCt G a la ns sd to he sw nh ki te1 mi (upd ar1 k ((ar1 k) ||| (onlyI (nI sd)))) z]) (rest := [.int (nI k), .ref (a 6)]) (st' := [.int (heldI ((te1 k) - (fWears (ki k) (la 2)))), .int (nI k), .ref (a 6)]) 51 (c_X5_heldTender l G ((te1 k) - (fWears (ki k) (la 2))) ) [] rfl rfl [] rfl rfl rfl rfl rfl rfl (Nat.le_of_ble_eq_true rfl) rfl dX0_sayNext_51 ?_
          refine J_iast (ws' := (wF [wCt G a la ns sd to he sw nh ki (upd te1 k (heldI ((te1 k) - (fWears (ki k) (la 2))))) mi (upd ar1 k ((ar1 k) ||| (onlyI (nI sd)))) z])) 54 6 k rfl rfl (by omega) (by decide) rfl dX0_sayNext_54 ?_
          refine J_iinc (v := nI (k + 1)) (lv' := [some (.ref (a 0)), some (.int s), some (.int (nI (k + 1)))]) 55 dX0_sayNext_55 rfl (nI_add _ 1) (by decide) rfl ?_
          refine J_goto (tgt := 2) 58 dX0_sayNext_58 (by decide) ?_
          exact ih_2_ (k + 1) (upd te1 k (heldI ((te1 k) - (fWears (ki k) (la 2))))) (upd ar1 k ((ar1 k) ||| (onlyI (nI sd)))) (by omega) (by first | assumption | omega | rfl) (by first | exact fSel_0 | exact fSel_st hte (by assumption) (by rw [fSel_at hte]) | exact fSel_sf hte (by assumption)) (by first | exact fSel_0 | exact fSel_st har (by assumption) (by rw [fSel_at har]) | exact fSel_sf har (by assumption))
  refine J_iconst (v := 0) 0 dX0_sayNext_0 rfl ?_
  refine J_istore_n (lv' := [some (.ref (a 0)), some (.int s), some (.int 0)]) 1 2 dX0_sayNext_1 rfl (by decide) rfl ?_
  exact cut_2_ ((nh - 0) + 1) 0 te ar (Nat.lt_succ_self _) (by first | assumption | omega | rfl) (by first | exact fSel_0 | exact fSel_st hte (by assumption) (by rw [fSel_at hte]) | exact fSel_sf hte (by assumption)) (by first | exact fSel_0 | exact fSel_st har (by assumption) (by rw [fSel_at har]) | exact fSel_sf har (by assumption))
set_option maxRecDepth 100000 in
set_option maxHeartbeats 4000000 in
theorem c_X0_sayMore (l : Launch) (G : Gd) (n : Nat) (L : Int32) (a : Nat → Nat) (la : Nat → Int32) (ns : Nat) (sd : Nat) (to : Nat → Int32) (he : Nat → Int32) (sw : Nat → Int32) (nh : Nat) (ki : Nat → Int32) (te : Nat → Int32) (mi : Nat → Int32) (ar : Nat → Int32) (z : Int32) (hnh : nh ≤ 8) (hns : ns ≤ 12) (hsd : sd ≤ ns) (hn : n < 2147483648) : Ct l G yX0_sayMore cX0_sayMore 5 (some (FieldType.int)) 3 [.ref (a 0), .int (nI n), .int L] (wF [wCt G a la ns sd to he sw nh ki te mi ar z]) (some (.int (nI (min n (ns - sd))))) (wF [wCt G a la ns (sd + min n (ns - sd)) to he sw nh ki (fTe (fun h_ => h_ < nh ∧ hasP L (nI h_)) la ki mi te ar to he sw sd (min n (ns - sd))) mi (fAr (fun h_ => h_ < nh ∧ hasP L (nI h_)) la ki mi te ar to he sw sd (min n (ns - sd))) z]) := by
  refine Ct.of "GooseArms$Court" [some (.ref (a 0)), some (.int (nI n)), some (.int L), none, none] (by decide +kernel) rfl (Nat.le_of_ble_eq_true rfl) rfl ?_
  have cut_12_ : ∀ (n_12_ : Nat) (k : Nat) (te1 : Nat → Int32) (ar1 : Nat → Int32) (sd1 : Nat), (min n (ns - sd) - k < n_12_) → (hk : k ≤ min n (ns - sd)) → (hte : te1 = fTe (fun h_ => h_ < nh ∧ hasP L (nI h_)) la ki mi te ar to he sw sd k) → (har : ar1 = fAr (fun h_ => h_ < nh ∧ hasP L (nI h_)) la ki mi te ar to he sw sd k) → (hs1 : sd1 = sd + k) → J l G (bd G 3 (some (FieldType.int)) (some (.int (nI (min n (ns - sd))))) (wF [wCt G a la ns (sd + min n (ns - sd)) to he sw nh ki (fTe (fun h_ => h_ < nh ∧ hasP L (nI h_)) la ki mi te ar to he sw sd (min n (ns - sd))) mi (fAr (fun h_ => h_ < nh ∧ hasP L (nI h_)) la ki mi te ar to he sw sd (min n (ns - sd))) z])) cX0_sayMore 5 "GooseArms$Court" 12 [some (.ref (a 0)), some (.int (nI n)), some (.int L), some (.int (nI (min n (ns - sd)))), some (.int (nI k))] [] (wF [wCt G a la ns sd1 to he sw nh ki te1 mi ar1 z]) := by
    intro n_12_
    induction n_12_ with
    | zero => intro k te1 ar1 sd1 m_12_; exact absurd m_12_ (Nat.not_lt_zero _)
    | succ n_12_ ih_12_ =>
      intro k te1 ar1 sd1 m_12_ hk hte har hs1
      refine J_iload 12 dX0_sayMore_12 rfl ?_
      refine J_iload_n 14 3 dX0_sayMore_14 rfl rfl ?_
      refine J_icmp_ge (tgt := 33) 15 dX0_sayMore_15 (by decide) (fun c_1_ => ?_) (fun c_1_ => ?_)
      · skip
        have c_1_ : (min n (ns - sd)) ≤ k := (nI_leI (a := (min n (ns - sd))) (b := k) (by omega) (by omega)).mp c_1_
        refine J_iload_n 33 3 dX0_sayMore_33 rfl rfl ?_
        exact J_iret 34 dX0_sayMore_34 rfl (cg3 (fun (x0_ : Nat) (x1_ : Nat → Int32) (x2_ : Nat → Int32) => (wF [wCt G a la ns x0_ to he sw nh ki x1_ mi x2_ z])) sd1 (sd + min n (ns - sd)) te1 (fTe (fun h_ => h_ < nh ∧ hasP L (nI h_)) la ki mi te ar to he sw sd (min n (ns - sd))) ar1 (fAr (fun h_ => h_ < nh ∧ hasP L (nI h_)) la ki mi te ar to he sw sd (min n (ns - sd))) (by omega) (by rw [hte, show k = min n (ns - sd) by omega]) (by rw [har, show k = min n (ns - sd) by omega]))
      · skip
        have c_1_ : ¬ (min n (ns - sd)) ≤ k := fun z_ => c_1_ ((nI_leI (a := (min n (ns - sd))) (b := k) (by omega) (by omega)).mpr z_)
        refine J_aload_n 18 0 dX0_sayMore_18 rfl rfl ?_
        refine J_aload_n 19 0 dX0_sayMore_19 rfl rfl ?_
        refine J_iload_n 20 2 dX0_sayMore_20 rfl rfl ?_
        refine kb_RX0_93 (bs' := [wCt G a la ns sd1 to he sw nh ki te1 mi ar1 z]) (rest := [.ref (a 0)]) (st' := [.int (fMask (fun h_ => hasP L (nI h_) ∧ fUp la ki mi te1 to he sw sd1 h_) nh), .ref (a 0)]) 21 (c_X0_raisedNext l G L a la ns sd1 to he sw nh ki te1 mi ar1 z (by omega) (by omega) (by omega)) [0] 0 rfl rfl rfl [[a 0, a 1, a 2, a 3, a 4, a 5, a 6, a 7, a 8]] rfl rfl rfl rfl rfl rfl (Nat.le_of_ble_eq_true rfl) rfl dX0_sayMore_21 ?_
        refine kb_RX0_96 (bs' := [wCt G a la ns (sd1 + 1) to he sw nh ki (fSel (fun h_ => h_ < nh ∧ hasP (fMask (fun h_ => hasP L (nI h_) ∧ fUp la ki mi te1 to he sw sd1 h_) nh) (nI h_)) (fun h_ => heldI (te1 h_ - fWears (ki h_) (la 2))) te1) mi (fSel (fun h_ => h_ < nh ∧ hasP (fMask (fun h_ => hasP L (nI h_) ∧ fUp la ki mi te1 to he sw sd1 h_) nh) (nI h_)) (fun h_ => ar1 h_ ||| onlyI (nI sd1)) ar1) z]) (rest := []) (st' := []) 24 (c_X0_sayNext l G (fMask (fun h_ => hasP L (nI h_) ∧ fUp la ki mi te1 to he sw sd1 h_) nh) a la ns sd1 to he sw nh ki te1 mi ar1 z (by omega)) [0] 0 rfl rfl rfl [[a 0, a 1, a 2, a 3, a 4, a 5, a 6, a 7, a 8]] rfl rfl rfl rfl rfl rfl (Nat.le_of_ble_eq_true rfl) rfl dX0_sayMore_24 ?_
        refine J_iinc (v := nI (k + 1)) (lv' := [some (.ref (a 0)), some (.int (nI n)), some (.int L), some (.int (nI (min n (ns - sd)))), some (.int (nI (k + 1)))]) 27 dX0_sayMore_27 rfl (nI_add _ 1) (by decide) rfl ?_
        refine J_goto (tgt := 12) 30 dX0_sayMore_30 (by decide) ?_
        exact ih_12_ (k + 1) (fSel (fun h_ => h_ < nh ∧ hasP (fMask (fun h_ => hasP L (nI h_) ∧ fUp la ki mi te1 to he sw sd1 h_) nh) (nI h_)) (fun h_ => heldI (te1 h_ - fWears (ki h_) (la 2))) te1) (fSel (fun h_ => h_ < nh ∧ hasP (fMask (fun h_ => hasP L (nI h_) ∧ fUp la ki mi te1 to he sw sd1 h_) nh) (nI h_)) (fun h_ => ar1 h_ ||| onlyI (nI sd1)) ar1) (sd1 + 1) (by omega) (by first | assumption | omega | rfl) (by first | exact fTe_0 | exact (fTA_s hte har hs1 (fun h_ => by rw [fMask_has8 hnh]; exact and_assoc.symm)).1) (by first | exact fAr_0 | exact (fTA_s hte har hs1 (fun h_ => by rw [fMask_has8 hnh]; exact and_assoc.symm)).2) (by first | assumption | omega | rfl)
  refine J_iload_n 0 1 dX0_sayMore_0 rfl rfl ?_
  refine J_aload_n 1 0 dX0_sayMore_1 rfl rfl ?_
  refine kb_RX0_84 (bs' := [wCt G a la ns sd to he sw nh ki te mi ar z]) (rest := [.int (nI n)]) (st' := [.int (nI (ns - sd)), .int (nI n)]) 2 (c_X0_left l G a la ns sd to he sw nh ki te mi ar z (by omega)) [0] 0 rfl rfl rfl [[a 0, a 1, a 2, a 3, a 4, a 5, a 6, a 7, a 8]] rfl rfl rfl rfl rfl rfl (Nat.le_of_ble_eq_true rfl) rfl dX0_sayMore_2 ?_
  refine J_min 5 w_478 w_479 w_13 w_480 rfl (Nat.le_of_ble_eq_true rfl) dX0_sayMore_5 ?_
  refine J_topi (y := nI (min n (ns - sd))) 8 (min_nI hn (by omega)) ?_
  refine J_istore_n (lv' := [some (.ref (a 0)), some (.int (nI n)), some (.int L), some (.int (nI (min n (ns - sd)))), none]) 8 3 dX0_sayMore_8 rfl (by decide) rfl ?_
  refine J_iconst (v := 0) 9 dX0_sayMore_9 rfl ?_
  refine J_istore (lv' := [some (.ref (a 0)), some (.int (nI n)), some (.int L), some (.int (nI (min n (ns - sd)))), some (.int 0)]) 10 dX0_sayMore_10 (by decide) rfl ?_
  exact cut_12_ ((min n (ns - sd) - 0) + 1) 0 te ar sd (Nat.lt_succ_self _) (by first | assumption | omega | rfl) (by first | exact fTe_0 | exact (fTA_s hte har hs1 (fun h_ => by rw [fMask_has8 hnh]; exact and_assoc.symm)).1) (by first | exact fAr_0 | exact (fTA_s hte har hs1 (fun h_ => by rw [fMask_has8 hnh]; exact and_assoc.symm)).2) (by first | assumption | omega | rfl)
set_option maxRecDepth 100000 in
set_option maxHeartbeats 4000000 in
theorem c_X0_draws (l : Launch) (G : Gd) (a : Nat → Nat) (la : Nat → Int32) (ns : Nat) (sd : Nat) (to : Nat → Int32) (he : Nat → Int32) (sw : Nat → Int32) (nh : Nat) (ki : Nat → Int32) (te : Nat → Int32) (mi : Nat → Int32) (ar : Nat → Int32) (z : Int32)  : Ct l G yX0_draws cX0_draws 1 (some (FieldType.int)) 0 [.ref (a 0)] (wF [wCt G a la ns sd to he sw nh ki te mi ar z]) (some (.int (fDr z))) (wF [wCt G a la ns sd to he sw nh ki te mi ar (fZ z)]) := by
  refine Ct.of "GooseArms$Court" [some (.ref (a 0))] (by decide +kernel) rfl (Nat.le_of_ble_eq_true rfl) rfl ?_
  refine J_aload_n 0 0 dX0_draws_0 rfl rfl ?_
  refine J_aload_n 1 0 dX0_draws_1 rfl rfl ?_
  refine g_63 (v := .int z) 2 0 rfl rfl dX0_draws_2 ?_
  refine J_ldc (v := 1103515245) 5 w_520 dX0_draws_5 ?_
  refine J_imul 7 dX0_draws_7 ?_
  refine J_sipush (v := 12345) 8 dX0_draws_8 rfl ?_
  refine J_iadd 11 dX0_draws_11 ?_
  refine p_63 (ws' := (wF [wCt G a la ns sd to he sw nh ki te mi ar ((z * 1103515245) + 12345)])) 12 0 rfl rfl rfl (Nat.le_of_ble_eq_true rfl) rfl dX0_draws_12 ?_
  refine J_aload_n 15 0 dX0_draws_15 rfl rfl ?_
  refine g_63 (v := .int ((z * 1103515245) + 12345)) 16 0 rfl rfl dX0_draws_16 ?_
  refine J_bipush (v := 16) 19 dX0_draws_19 rfl ?_
  refine J_iushr 21 dX0_draws_21 ?_
  exact J_iret 22 dX0_draws_22 (congrArg (fun x_ => some (Value.int x_)) (by first | rfl | omega | grind)) (cg1 (fun (x0_ : Int32) => (wF [wCt G a la ns sd to he sw nh ki te mi ar x0_])) ((z * 1103515245) + 12345) (fZ z) (by first | rfl | omega | grind))
set_option maxRecDepth 100000 in
set_option maxHeartbeats 4000000 in
theorem c_X0_drawnSet_0 (l : Launch) (G : Gd) (a : Nat → Nat) (la : Nat → Int32) (ns : Nat) (sd : Nat) (to : Nat → Int32) (he : Nat → Int32) (sw : Nat → Int32) (nh : Nat) (ki : Nat → Int32) (te : Nat → Int32) (mi : Nat → Int32) (ar : Nat → Int32) (z : Int32) (h0 : nh = 0) : Ct l G yX0_drawnSet cX0_drawnSet 2 (some (FieldType.int)) 1 [.ref (a 0)] (wF [wCt G a la ns sd to he sw nh ki te mi ar z]) (some (.int 0)) (wF [wCt G a la ns sd to he sw nh ki te mi ar z]) := by
  refine Ct.of "GooseArms$Court" [some (.ref (a 0)), none] (by decide +kernel) rfl (Nat.le_of_ble_eq_true rfl) rfl ?_
  refine J_aload_n 0 0 dX0_drawnSet_0 rfl rfl ?_
  refine g_52 (v := .int (nI nh)) 1 0 rfl rfl dX0_drawnSet_1 ?_
  refine J_if_ne (tgt := 9) 4 dX0_drawnSet_4 (by decide) (fun c_1_ => ?_) (fun c_1_ => ?_)
  · skip
    have c_1_ : ¬ nh = 0 := fun z_ => c_1_ ((nI_eq (a := nh) (b := 0) (by omega) (by omega)).mpr z_)
    exact absurd h0 c_1_
  · skip
    have c_1_ : nh = 0 := (nI_eq (a := nh) (b := 0) (by omega) (by omega)).mp c_1_
    refine J_iconst (v := 0) 7 dX0_drawnSet_7 rfl ?_
    exact J_iret 8 dX0_drawnSet_8 rfl rfl
set_option maxRecDepth 100000 in
set_option maxHeartbeats 4000000 in
theorem c_X0_drawnSet (l : Launch) (G : Gd) (a : Nat → Nat) (la : Nat → Int32) (ns : Nat) (sd : Nat) (to : Nat → Int32) (he : Nat → Int32) (sw : Nat → Int32) (nh : Nat) (ki : Nat → Int32) (te : Nat → Int32) (mi : Nat → Int32) (ar : Nat → Int32) (z : Int32) (h0 : 0 < nh) (hnh : nh ≤ 8) : Ct l G yX0_drawnSet cX0_drawnSet 2 (some (FieldType.int)) 1 [.ref (a 0)] (wF [wCt G a la ns sd to he sw nh ki te mi ar z]) (some (.int (fDrawn z (la 3) nh))) (wF [wCt G a la ns sd to he sw nh ki te mi ar (fZ (fZ z))]) := by
  refine Ct.of "GooseArms$Court" [some (.ref (a 0)), none] (by decide +kernel) rfl (Nat.le_of_ble_eq_true rfl) rfl ?_
  refine J_aload_n 0 0 dX0_drawnSet_0 rfl rfl ?_
  refine g_52 (v := .int (nI nh)) 1 0 rfl rfl dX0_drawnSet_1 ?_
  refine J_if_ne (tgt := 9) 4 dX0_drawnSet_4 (by decide) (fun c_1_ => ?_) (fun c_1_ => ?_)
  · skip
    have c_1_ : ¬ nh = 0 := fun z_ => c_1_ ((nI_eq (a := nh) (b := 0) (by omega) (by omega)).mpr z_)
    refine J_aload_n 9 0 dX0_drawnSet_9 rfl rfl ?_
    refine kb_RX0_101 (bs' := [wCt G a la ns sd to he sw nh ki te mi ar (fZ z)]) (rest := []) (st' := [.int (fDr z)]) 10 (c_X0_draws l G a la ns sd to he sw nh ki te mi ar z ) [0] 0 rfl rfl rfl [[a 0, a 1, a 2, a 3, a 4, a 5, a 6, a 7, a 8]] rfl rfl rfl rfl rfl rfl (Nat.le_of_ble_eq_true rfl) rfl dX0_drawnSet_10 ?_
    refine J_aload_n 13 0 dX0_drawnSet_13 rfl rfl ?_
    refine g_52 (v := .int (nI nh)) 14 0 rfl rfl dX0_drawnSet_14 ?_
    refine J_irem 17 dX0_drawnSet_17 (nI_ne0 h0 (by omega)) ?_
    refine J_istore_n (lv' := [some (.ref (a 0)), some (.int ((fDr z) - (fDr z) / (nI nh) * (nI nh)))]) 18 1 dX0_drawnSet_18 rfl (by decide) rfl ?_
    refine J_aload_n 19 0 dX0_drawnSet_19 rfl rfl ?_
    refine kb_RX0_101 (bs' := [wCt G a la ns sd to he sw nh ki te mi ar (fZ (fZ z))]) (rest := []) (st' := [.int (fDr (fZ z))]) 20 (c_X0_draws l G a la ns sd to he sw nh ki te mi ar (fZ z) ) [0] 0 rfl rfl rfl [[a 0, a 1, a 2, a 3, a 4, a 5, a 6, a 7, a 8]] rfl rfl rfl rfl rfl rfl (Nat.le_of_ble_eq_true rfl) rfl dX0_drawnSet_20 ?_
    refine J_bipush (v := 100) 23 dX0_drawnSet_23 rfl ?_
    refine J_irem 25 dX0_drawnSet_25 (by decide) ?_
    refine J_aload_n 26 0 dX0_drawnSet_26 rfl rfl ?_
    refine g_38 (v := .ref (a 1)) 27 0 rfl rfl dX0_drawnSet_27 ?_
    refine J_iconst (v := 3) 30 dX0_drawnSet_30 rfl ?_
    refine J_iald 31 1 3 rfl rfl (by omega) (by decide) dX0_drawnSet_31 ?_
    refine J_icmp_ge (tgt := 42) 32 dX0_drawnSet_32 (by decide) (fun c_2_ => ?_) (fun c_2_ => ?_)
    · skip
      refine J_iconst (v := 0) 42 dX0_drawnSet_42 rfl ?_
      exact J_iret 43 dX0_drawnSet_43 (congrArg (fun x_ => some (Value.int x_)) (by unfold fDrawn fRem; first | exact (if_neg (Int32.not_lt.mpr (by assumption))).symm | exact (if_pos (Int32.not_le.mp (by assumption))).symm)) rfl
    · skip
      refine J_iload_n 35 1 dX0_drawnSet_35 rfl rfl ?_
      refine kb_RX0_75 (bs' := [wCt G a la ns sd to he sw nh ki te mi ar (fZ (fZ z))]) (rest := []) (st' := [.int (onlyI ((fDr z) - (fDr z) / (nI nh) * (nI nh)))]) 36 (c_X5_only l G ((fDr z) - (fDr z) / (nI nh) * (nI nh)) ) [] rfl rfl [] rfl rfl rfl rfl rfl rfl (Nat.le_of_ble_eq_true rfl) rfl dX0_drawnSet_36 ?_
      refine J_goto (tgt := 43) 39 dX0_drawnSet_39 (by decide) ?_
      exact J_iret 43 dX0_drawnSet_43 (congrArg (fun x_ => some (Value.int x_)) (by unfold fDrawn fRem; first | exact (if_neg (Int32.not_lt.mpr (by assumption))).symm | exact (if_pos (Int32.not_le.mp (by assumption))).symm)) rfl
  · skip
    have c_1_ : nh = 0 := (nI_eq (a := nh) (b := 0) (by omega) (by omega)).mp c_1_
    omega
set_option maxRecDepth 100000 in
set_option maxHeartbeats 4000000 in
theorem c_X0_raisedBy (l : Launch) (G : Gd) (i : Nat) (a : Nat → Nat) (la : Nat → Int32) (ns : Nat) (sd : Nat) (to : Nat → Int32) (he : Nat → Int32) (sw : Nat → Int32) (nh : Nat) (ki : Nat → Int32) (te : Nat → Int32) (mi : Nat → Int32) (ar : Nat → Int32) (z : Int32) (hnh : nh ≤ 8) : Ct l G yX0_raisedBy cX0_raisedBy 4 (some (FieldType.int)) 1 [.ref (a 0), .int (nI i)] (wF [wCt G a la ns sd to he sw nh ki te mi ar z]) (some (.int (fMask (fun h_ => hasP (ar h_) (nI i)) nh))) (wF [wCt G a la ns sd to he sw nh ki te mi ar z]) := by
  refine Ct.of "GooseArms$Court" [some (.ref (a 0)), some (.int (nI i)), none, none] (by decide +kernel) rfl (Nat.le_of_ble_eq_true rfl) rfl ?_
  have cut_4_ : ∀ (n_4_ : Nat) (k : Nat) (x : Int32), (nh - k < n_4_) → (hk : k ≤ nh) → (hx : x = fMask (fun h_ => hasP (ar h_) (nI i)) k) → J l G (bd G 1 (some (FieldType.int)) (some (.int (fMask (fun h_ => hasP (ar h_) (nI i)) nh))) (wF [wCt G a la ns sd to he sw nh ki te mi ar z])) cX0_raisedBy 4 "GooseArms$Court" 4 [some (.ref (a 0)), some (.int (nI i)), some (.int x), some (.int (nI k))] [] (wF [wCt G a la ns sd to he sw nh ki te mi ar z]) := by
    intro n_4_
    induction n_4_ with
    | zero => intro k x m_4_; exact absurd m_4_ (Nat.not_lt_zero _)
    | succ n_4_ ih_4_ =>
      intro k x m_4_ hk hx
      refine J_iload_n 4 3 dX0_raisedBy_4 rfl rfl ?_
      refine J_aload_n 5 0 dX0_raisedBy_5 rfl rfl ?_
      refine g_52 (v := .int (nI nh)) 6 0 rfl rfl dX0_raisedBy_6 ?_
      refine J_icmp_ge (tgt := 38) 9 dX0_raisedBy_9 (by decide) (fun c_1_ => ?_) (fun c_1_ => ?_)
      · skip
        have c_1_ : nh ≤ k := (nI_leI (a := nh) (b := k) (by omega) (by omega)).mp c_1_
        refine J_iload_n 38 2 dX0_raisedBy_38 rfl rfl ?_
        exact J_iret 39 dX0_raisedBy_39 (congrArg (fun x_ => some (Value.int x_)) (by rw [hx, show k = nh by omega])) rfl
      · skip
        have c_1_ : ¬ nh ≤ k := fun z_ => c_1_ ((nI_leI (a := nh) (b := k) (by omega) (by omega)).mpr z_)
        refine J_aload_n 12 0 dX0_raisedBy_12 rfl rfl ?_
        refine g_61 (v := .ref (a 8)) 13 0 rfl rfl dX0_raisedBy_13 ?_
        refine J_iload_n 16 3 dX0_raisedBy_16 rfl rfl ?_
        refine J_iald 17 8 k rfl rfl (by omega) (by decide) dX0_raisedBy_17 ?_
        refine J_iload_n 18 1 dX0_raisedBy_18 rfl rfl ?_
        refine kb_RX0_63 (bs' := [wCt G a la ns sd to he sw nh ki te mi ar z]) (rest := []) (st' := [.int (bI (hasP (ar k) (nI i)))]) 19 (c_X5_has l G (ar k) (nI i) ) [] rfl rfl [] rfl rfl rfl rfl rfl rfl (Nat.le_of_ble_eq_true rfl) rfl dX0_raisedBy_19 ?_
        refine J_ifB_eq (tgt := 32) 22 dX0_raisedBy_22 (by decide) (fun c_2_ => ?_) (fun c_2_ => ?_)
        · skip
          refine J_iinc (v := nI (k + 1)) (lv' := [some (.ref (a 0)), some (.int (nI i)), some (.int x), some (.int (nI (k + 1)))]) 32 dX0_raisedBy_32 rfl (nI_add _ 1) (by decide) rfl ?_
          refine J_goto (tgt := 4) 35 dX0_raisedBy_35 (by decide) ?_
          exact ih_4_ (k + 1) x (by omega) (by first | assumption | omega | rfl) (by first | rfl | exact fMask_st hx (by assumption) | exact fMask_sf hx (by assumption))
        · skip
          refine J_iload_n 25 2 dX0_raisedBy_25 rfl rfl ?_
          refine J_iload_n 26 3 dX0_raisedBy_26 rfl rfl ?_
          refine kb_RX0_75 (bs' := [wCt G a la ns sd to he sw nh ki te mi ar z]) (rest := [.int x]) (st' := [.int (onlyI (nI k)), .int x]) 27 (c_X5_only l G (nI k) ) [] rfl rfl [] rfl rfl rfl rfl rfl rfl (Nat.le_of_ble_eq_true rfl) rfl dX0_raisedBy_27 ?_
          refine J_ior 30 dX0_raisedBy_30 ?_
          refine J_istore_n (lv' := [some (.ref (a 0)), some (.int (nI i)), some (.int (x ||| (onlyI (nI k)))), some (.int (nI k))]) 31 2 dX0_raisedBy_31 rfl (by decide) rfl ?_
          refine J_iinc (v := nI (k + 1)) (lv' := [some (.ref (a 0)), some (.int (nI i)), some (.int (x ||| (onlyI (nI k)))), some (.int (nI (k + 1)))]) 32 dX0_raisedBy_32 rfl (nI_add _ 1) (by decide) rfl ?_
          refine J_goto (tgt := 4) 35 dX0_raisedBy_35 (by decide) ?_
          exact ih_4_ (k + 1) (x ||| (onlyI (nI k))) (by omega) (by first | assumption | omega | rfl) (by first | rfl | exact fMask_st hx (by assumption) | exact fMask_sf hx (by assumption))
  refine J_iconst (v := 0) 0 dX0_raisedBy_0 rfl ?_
  refine J_istore_n (lv' := [some (.ref (a 0)), some (.int (nI i)), some (.int 0), none]) 1 2 dX0_raisedBy_1 rfl (by decide) rfl ?_
  refine J_iconst (v := 0) 2 dX0_raisedBy_2 rfl ?_
  refine J_istore_n (lv' := [some (.ref (a 0)), some (.int (nI i)), some (.int 0), some (.int 0)]) 3 3 dX0_raisedBy_3 rfl (by decide) rfl ?_
  exact cut_4_ ((nh - 0) + 1) 0 0 (Nat.lt_succ_self _) (by first | assumption | omega | rfl) (by first | rfl | exact fMask_st hx (by assumption) | exact fMask_sf hx (by assumption))
set_option maxRecDepth 100000 in
set_option maxHeartbeats 4000000 in
theorem c_X0_rightOf (l : Launch) (G : Gd) (h : Nat) (a : Nat → Nat) (la : Nat → Int32) (ns : Nat) (sd : Nat) (to : Nat → Int32) (he : Nat → Int32) (sw : Nat → Int32) (nh : Nat) (ki : Nat → Int32) (te : Nat → Int32) (mi : Nat → Int32) (ar : Nat → Int32) (z : Int32) (hh : h < 8) (hns : ns ≤ 12) : Ct l G yX0_rightOf cX0_rightOf 4 (some (FieldType.int)) 1 [.ref (a 0), .int (nI h)] (wF [wCt G a la ns sd to he sw nh ki te mi ar z]) (some (.int (nI (fCnt (fun s_ => hasP (ar h) (nI s_) ↔ sw s_ = 1) ns)))) (wF [wCt G a la ns sd to he sw nh ki te mi ar z]) := by
  refine Ct.of "GooseArms$Court" [some (.ref (a 0)), some (.int (nI h)), none, none] (by decide +kernel) rfl (Nat.le_of_ble_eq_true rfl) rfl ?_
  have cut_4_ : ∀ (n_4_ : Nat) (k : Nat) (x : Nat), (ns - k < n_4_) → (hk : k ≤ ns) → (hx : x = fCnt (fun s_ => hasP (ar h) (nI s_) ↔ sw s_ = 1) k) → J l G (bd G 1 (some (FieldType.int)) (some (.int (nI (fCnt (fun s_ => hasP (ar h) (nI s_) ↔ sw s_ = 1) ns)))) (wF [wCt G a la ns sd to he sw nh ki te mi ar z])) cX0_rightOf 4 "GooseArms$Court" 4 [some (.ref (a 0)), some (.int (nI h)), some (.int (nI x)), some (.int (nI k))] [] (wF [wCt G a la ns sd to he sw nh ki te mi ar z]) := by
    intro n_4_
    induction n_4_ with
    | zero => intro k x m_4_; exact absurd m_4_ (Nat.not_lt_zero _)
    | succ n_4_ ih_4_ =>
      intro k x m_4_ hk hx
      refine J_iload_n 4 3 dX0_rightOf_4 rfl rfl ?_
      refine J_aload_n 5 0 dX0_rightOf_5 rfl rfl ?_
      refine g_41 (v := .int (nI ns)) 6 0 rfl rfl dX0_rightOf_6 ?_
      refine J_icmp_ge (tgt := 49) 9 dX0_rightOf_9 (by decide) (fun c_1_ => ?_) (fun c_1_ => ?_)
      · skip
        have c_1_ : ns ≤ k := (nI_leI (a := ns) (b := k) (by omega) (by omega)).mp c_1_
        refine J_iload_n 49 2 dX0_rightOf_49 rfl rfl ?_
        exact J_iret 50 dX0_rightOf_50 (congrArg (fun x_ => some (Value.int x_)) (by rw [hx, show k = ns by omega])) rfl
      · skip
        have c_1_ : ¬ ns ≤ k := fun z_ => c_1_ ((nI_leI (a := ns) (b := k) (by omega) (by omega)).mpr z_)
        refine J_aload_n 12 0 dX0_rightOf_12 rfl rfl ?_
        refine g_61 (v := .ref (a 8)) 13 0 rfl rfl dX0_rightOf_13 ?_
        refine J_iload_n 16 1 dX0_rightOf_16 rfl rfl ?_
        refine J_iald 17 8 h rfl rfl (by omega) (by decide) dX0_rightOf_17 ?_
        refine J_iload_n 18 3 dX0_rightOf_18 rfl rfl ?_
        refine kb_RX0_63 (bs' := [wCt G a la ns sd to he sw nh ki te mi ar z]) (rest := []) (st' := [.int (bI (hasP (ar h) (nI k)))]) 19 (c_X5_has l G (ar h) (nI k) ) [] rfl rfl [] rfl rfl rfl rfl rfl rfl (Nat.le_of_ble_eq_true rfl) rfl dX0_rightOf_19 ?_
        refine J_aload_n 22 0 dX0_rightOf_22 rfl rfl ?_
        refine g_50 (v := .ref (a 4)) 23 0 rfl rfl dX0_rightOf_23 ?_
        refine J_iload_n 26 3 dX0_rightOf_26 rfl rfl ?_
        refine J_iald 27 4 k rfl rfl (by omega) (by decide) dX0_rightOf_27 ?_
        refine J_iconst (v := 1) 28 dX0_rightOf_28 rfl ?_
        refine J_icmp_ne (tgt := 36) 29 dX0_rightOf_29 (by decide) (fun c_2_ => ?_) (fun c_2_ => ?_)
        · skip
          refine J_iconst (v := 0) 36 dX0_rightOf_36 rfl ?_
          refine J_icmp_ne (tgt := 43) 37 dX0_rightOf_37 (by decide) (fun c_3_ => ?_) (fun c_3_ => ?_)
          · skip
            refine J_iinc (v := nI (k + 1)) (lv' := [some (.ref (a 0)), some (.int (nI h)), some (.int (nI x)), some (.int (nI (k + 1)))]) 43 dX0_rightOf_43 rfl (nI_add _ 1) (by decide) rfl ?_
            refine J_goto (tgt := 4) 46 dX0_rightOf_46 (by decide) ?_
            exact ih_4_ (k + 1) x (by omega) (by first | assumption | omega | rfl) (by first | rfl | exact fCnt_st hx (rO_1 (by assumption) (by assumption)) | exact fCnt_st hx (rO_3 (by assumption) (by assumption)) | exact fCnt_sf hx (rO_2 (by assumption) (by assumption)) | exact fCnt_sf hx (rO_4 (by assumption) (by assumption)))
          · skip
            refine J_iinc (v := nI (x + 1)) (lv' := [some (.ref (a 0)), some (.int (nI h)), some (.int (nI (x + 1))), some (.int (nI k))]) 40 dX0_rightOf_40 rfl (nI_add _ 1) (by decide) rfl ?_
            refine J_iinc (v := nI (k + 1)) (lv' := [some (.ref (a 0)), some (.int (nI h)), some (.int (nI (x + 1))), some (.int (nI (k + 1)))]) 43 dX0_rightOf_43 rfl (nI_add _ 1) (by decide) rfl ?_
            refine J_goto (tgt := 4) 46 dX0_rightOf_46 (by decide) ?_
            exact ih_4_ (k + 1) (x + 1) (by omega) (by first | assumption | omega | rfl) (by first | rfl | exact fCnt_st hx (rO_1 (by assumption) (by assumption)) | exact fCnt_st hx (rO_3 (by assumption) (by assumption)) | exact fCnt_sf hx (rO_2 (by assumption) (by assumption)) | exact fCnt_sf hx (rO_4 (by assumption) (by assumption)))
        · skip
          refine J_iconst (v := 1) 32 dX0_rightOf_32 rfl ?_
          refine J_goto (tgt := 37) 33 dX0_rightOf_33 (by decide) ?_
          refine J_icmp_ne (tgt := 43) 37 dX0_rightOf_37 (by decide) (fun c_4_ => ?_) (fun c_4_ => ?_)
          · skip
            refine J_iinc (v := nI (k + 1)) (lv' := [some (.ref (a 0)), some (.int (nI h)), some (.int (nI x)), some (.int (nI (k + 1)))]) 43 dX0_rightOf_43 rfl (nI_add _ 1) (by decide) rfl ?_
            refine J_goto (tgt := 4) 46 dX0_rightOf_46 (by decide) ?_
            exact ih_4_ (k + 1) x (by omega) (by first | assumption | omega | rfl) (by first | rfl | exact fCnt_st hx (rO_1 (by assumption) (by assumption)) | exact fCnt_st hx (rO_3 (by assumption) (by assumption)) | exact fCnt_sf hx (rO_2 (by assumption) (by assumption)) | exact fCnt_sf hx (rO_4 (by assumption) (by assumption)))
          · skip
            refine J_iinc (v := nI (x + 1)) (lv' := [some (.ref (a 0)), some (.int (nI h)), some (.int (nI (x + 1))), some (.int (nI k))]) 40 dX0_rightOf_40 rfl (nI_add _ 1) (by decide) rfl ?_
            refine J_iinc (v := nI (k + 1)) (lv' := [some (.ref (a 0)), some (.int (nI h)), some (.int (nI (x + 1))), some (.int (nI (k + 1)))]) 43 dX0_rightOf_43 rfl (nI_add _ 1) (by decide) rfl ?_
            refine J_goto (tgt := 4) 46 dX0_rightOf_46 (by decide) ?_
            exact ih_4_ (k + 1) (x + 1) (by omega) (by first | assumption | omega | rfl) (by first | rfl | exact fCnt_st hx (rO_1 (by assumption) (by assumption)) | exact fCnt_st hx (rO_3 (by assumption) (by assumption)) | exact fCnt_sf hx (rO_2 (by assumption) (by assumption)) | exact fCnt_sf hx (rO_4 (by assumption) (by assumption)))
  refine J_iconst (v := 0) 0 dX0_rightOf_0 rfl ?_
  refine J_istore_n (lv' := [some (.ref (a 0)), some (.int (nI h)), some (.int 0), none]) 1 2 dX0_rightOf_1 rfl (by decide) rfl ?_
  refine J_iconst (v := 0) 2 dX0_rightOf_2 rfl ?_
  refine J_istore_n (lv' := [some (.ref (a 0)), some (.int (nI h)), some (.int 0), some (.int 0)]) 3 3 dX0_rightOf_3 rfl (by decide) rfl ?_
  exact cut_4_ ((ns - 0) + 1) 0 0 (Nat.lt_succ_self _) (by first | assumption | omega | rfl) (by first | rfl | exact fCnt_st hx (rO_1 (by assumption) (by assumption)) | exact fCnt_st hx (rO_3 (by assumption) (by assumption)) | exact fCnt_sf hx (rO_2 (by assumption) (by assumption)) | exact fCnt_sf hx (rO_4 (by assumption) (by assumption)))
set_option maxRecDepth 100000 in
set_option maxHeartbeats 4000000 in
theorem c_X0_swornSet (l : Launch) (G : Gd) (a : Nat → Nat) (la : Nat → Int32) (ns : Nat) (sd : Nat) (to : Nat → Int32) (he : Nat → Int32) (sw : Nat → Int32) (nh : Nat) (ki : Nat → Int32) (te : Nat → Int32) (mi : Nat → Int32) (ar : Nat → Int32) (z : Int32) (hns : ns ≤ 12) : Ct l G yX0_swornSet cX0_swornSet 3 (some (FieldType.int)) 1 [.ref (a 0)] (wF [wCt G a la ns sd to he sw nh ki te mi ar z]) (some (.int (fMask (fun s_ => sw s_ = 1) ns))) (wF [wCt G a la ns sd to he sw nh ki te mi ar z]) := by
  refine Ct.of "GooseArms$Court" [some (.ref (a 0)), none, none] (by decide +kernel) rfl (Nat.le_of_ble_eq_true rfl) rfl ?_
  have cut_4_ : ∀ (n_4_ : Nat) (k : Nat) (x : Int32), (ns - k < n_4_) → (hk : k ≤ ns) → (hx : x = fMask (fun s_ => sw s_ = 1) k) → J l G (bd G 1 (some (FieldType.int)) (some (.int (fMask (fun s_ => sw s_ = 1) ns))) (wF [wCt G a la ns sd to he sw nh ki te mi ar z])) cX0_swornSet 3 "GooseArms$Court" 4 [some (.ref (a 0)), some (.int x), some (.int (nI k))] [] (wF [wCt G a la ns sd to he sw nh ki te mi ar z]) := by
    intro n_4_
    induction n_4_ with
    | zero => intro k x m_4_; exact absurd m_4_ (Nat.not_lt_zero _)
    | succ n_4_ ih_4_ =>
      intro k x m_4_ hk hx
      refine J_iload_n 4 2 dX0_swornSet_4 rfl rfl ?_
      refine J_aload_n 5 0 dX0_swornSet_5 rfl rfl ?_
      refine g_41 (v := .int (nI ns)) 6 0 rfl rfl dX0_swornSet_6 ?_
      refine J_icmp_ge (tgt := 35) 9 dX0_swornSet_9 (by decide) (fun c_1_ => ?_) (fun c_1_ => ?_)
      · skip
        have c_1_ : ns ≤ k := (nI_leI (a := ns) (b := k) (by omega) (by omega)).mp c_1_
        refine J_iload_n 35 1 dX0_swornSet_35 rfl rfl ?_
        exact J_iret 36 dX0_swornSet_36 (congrArg (fun x_ => some (Value.int x_)) (by rw [hx, show k = ns by omega])) rfl
      · skip
        have c_1_ : ¬ ns ≤ k := fun z_ => c_1_ ((nI_leI (a := ns) (b := k) (by omega) (by omega)).mpr z_)
        refine J_aload_n 12 0 dX0_swornSet_12 rfl rfl ?_
        refine g_50 (v := .ref (a 4)) 13 0 rfl rfl dX0_swornSet_13 ?_
        refine J_iload_n 16 2 dX0_swornSet_16 rfl rfl ?_
        refine J_iald 17 4 k rfl rfl (by omega) (by decide) dX0_swornSet_17 ?_
        refine J_iconst (v := 1) 18 dX0_swornSet_18 rfl ?_
        refine J_icmp_ne (tgt := 29) 19 dX0_swornSet_19 (by decide) (fun c_2_ => ?_) (fun c_2_ => ?_)
        · skip
          refine J_iinc (v := nI (k + 1)) (lv' := [some (.ref (a 0)), some (.int x), some (.int (nI (k + 1)))]) 29 dX0_swornSet_29 rfl (nI_add _ 1) (by decide) rfl ?_
          refine J_goto (tgt := 4) 32 dX0_swornSet_32 (by decide) ?_
          exact ih_4_ (k + 1) x (by omega) (by first | assumption | omega | rfl) (by first | rfl | exact fMask_st hx (by assumption) | exact fMask_sf hx (by assumption))
        · skip
          refine J_iload_n 22 1 dX0_swornSet_22 rfl rfl ?_
          refine J_iload_n 23 2 dX0_swornSet_23 rfl rfl ?_
          refine kb_RX0_75 (bs' := [wCt G a la ns sd to he sw nh ki te mi ar z]) (rest := [.int x]) (st' := [.int (onlyI (nI k)), .int x]) 24 (c_X5_only l G (nI k) ) [] rfl rfl [] rfl rfl rfl rfl rfl rfl (Nat.le_of_ble_eq_true rfl) rfl dX0_swornSet_24 ?_
          refine J_ior 27 dX0_swornSet_27 ?_
          refine J_istore_n (lv' := [some (.ref (a 0)), some (.int (x ||| (onlyI (nI k)))), some (.int (nI k))]) 28 1 dX0_swornSet_28 rfl (by decide) rfl ?_
          refine J_iinc (v := nI (k + 1)) (lv' := [some (.ref (a 0)), some (.int (x ||| (onlyI (nI k)))), some (.int (nI (k + 1)))]) 29 dX0_swornSet_29 rfl (nI_add _ 1) (by decide) rfl ?_
          refine J_goto (tgt := 4) 32 dX0_swornSet_32 (by decide) ?_
          exact ih_4_ (k + 1) (x ||| (onlyI (nI k))) (by omega) (by first | assumption | omega | rfl) (by first | rfl | exact fMask_st hx (by assumption) | exact fMask_sf hx (by assumption))
  refine J_iconst (v := 0) 0 dX0_swornSet_0 rfl ?_
  refine J_istore_n (lv' := [some (.ref (a 0)), some (.int 0), none]) 1 1 dX0_swornSet_1 rfl (by decide) rfl ?_
  refine J_iconst (v := 0) 2 dX0_swornSet_2 rfl ?_
  refine J_istore_n (lv' := [some (.ref (a 0)), some (.int 0), some (.int 0)]) 3 2 dX0_swornSet_3 rfl (by decide) rfl ?_
  exact cut_4_ ((ns - 0) + 1) 0 0 (Nat.lt_succ_self _) (by first | assumption | omega | rfl) (by first | rfl | exact fMask_st hx (by assumption) | exact fMask_sf hx (by assumption))
set_option maxRecDepth 100000 in
set_option maxHeartbeats 4000000 in
theorem c_X0_tenderOfAll (l : Launch) (G : Gd) (a : Nat → Nat) (la : Nat → Int32) (ns : Nat) (sd : Nat) (to : Nat → Int32) (he : Nat → Int32) (sw : Nat → Int32) (nh : Nat) (ki : Nat → Int32) (te : Nat → Int32) (mi : Nat → Int32) (ar : Nat → Int32) (z : Int32) (hnh : nh ≤ 8) : Ct l G yX0_tenderOfAll cX0_tenderOfAll 3 (some (FieldType.int)) 1 [.ref (a 0)] (wF [wCt G a la ns sd to he sw nh ki te mi ar z]) (some (.int (fSum te nh))) (wF [wCt G a la ns sd to he sw nh ki te mi ar z]) := by
  refine Ct.of "GooseArms$Court" [some (.ref (a 0)), none, none] (by decide +kernel) rfl (Nat.le_of_ble_eq_true rfl) rfl ?_
  have cut_4_ : ∀ (n_4_ : Nat) (k : Nat) (x : Int32), (nh - k < n_4_) → (hk : k ≤ nh) → (hx : x = fSum te k) → J l G (bd G 1 (some (FieldType.int)) (some (.int (fSum te nh))) (wF [wCt G a la ns sd to he sw nh ki te mi ar z])) cX0_tenderOfAll 3 "GooseArms$Court" 4 [some (.ref (a 0)), some (.int x), some (.int (nI k))] [] (wF [wCt G a la ns sd to he sw nh ki te mi ar z]) := by
    intro n_4_
    induction n_4_ with
    | zero => intro k x m_4_; exact absurd m_4_ (Nat.not_lt_zero _)
    | succ n_4_ ih_4_ =>
      intro k x m_4_ hk hx
      refine J_iload_n 4 2 dX0_tenderOfAll_4 rfl rfl ?_
      refine J_aload_n 5 0 dX0_tenderOfAll_5 rfl rfl ?_
      refine g_52 (v := .int (nI nh)) 6 0 rfl rfl dX0_tenderOfAll_6 ?_
      refine J_icmp_ge (tgt := 27) 9 dX0_tenderOfAll_9 (by decide) (fun c_1_ => ?_) (fun c_1_ => ?_)
      · skip
        have c_1_ : nh ≤ k := (nI_leI (a := nh) (b := k) (by omega) (by omega)).mp c_1_
        refine J_iload_n 27 1 dX0_tenderOfAll_27 rfl rfl ?_
        exact J_iret 28 dX0_tenderOfAll_28 (congrArg (fun x_ => some (Value.int x_)) (by rw [hx, show k = nh by omega])) rfl
      · skip
        have c_1_ : ¬ nh ≤ k := fun z_ => c_1_ ((nI_leI (a := nh) (b := k) (by omega) (by omega)).mpr z_)
        refine J_iload_n 12 1 dX0_tenderOfAll_12 rfl rfl ?_
        refine J_aload_n 13 0 dX0_tenderOfAll_13 rfl rfl ?_
        refine g_57 (v := .ref (a 6)) 14 0 rfl rfl dX0_tenderOfAll_14 ?_
        refine J_iload_n 17 2 dX0_tenderOfAll_17 rfl rfl ?_
        refine J_iald 18 6 k rfl rfl (by omega) (by decide) dX0_tenderOfAll_18 ?_
        refine J_iadd 19 dX0_tenderOfAll_19 ?_
        refine J_istore_n (lv' := [some (.ref (a 0)), some (.int (x + (te k))), some (.int (nI k))]) 20 1 dX0_tenderOfAll_20 rfl (by decide) rfl ?_
        refine J_iinc (v := nI (k + 1)) (lv' := [some (.ref (a 0)), some (.int (x + (te k))), some (.int (nI (k + 1)))]) 21 dX0_tenderOfAll_21 rfl (nI_add _ 1) (by decide) rfl ?_
        refine J_goto (tgt := 4) 24 dX0_tenderOfAll_24 (by decide) ?_
        exact ih_4_ (k + 1) (x + (te k)) (by omega) (by first | assumption | omega | rfl) (by first | rfl | exact hx ▸ rfl)
  refine J_iconst (v := 0) 0 dX0_tenderOfAll_0 rfl ?_
  refine J_istore_n (lv' := [some (.ref (a 0)), some (.int 0), none]) 1 1 dX0_tenderOfAll_1 rfl (by decide) rfl ?_
  refine J_iconst (v := 0) 2 dX0_tenderOfAll_2 rfl ?_
  refine J_istore_n (lv' := [some (.ref (a 0)), some (.int 0), some (.int 0)]) 3 2 dX0_tenderOfAll_3 rfl (by decide) rfl ?_
  exact cut_4_ ((nh - 0) + 1) 0 0 (Nat.lt_succ_self _) (by first | assumption | omega | rfl) (by first | rfl | exact hx ▸ rfl)
set_option maxRecDepth 100000 in
set_option maxHeartbeats 4000000 in
theorem c_X0_marked (l : Launch) (G : Gd) (a : Nat → Nat) (la : Nat → Int32) (ns : Nat) (sd : Nat) (to : Nat → Int32) (he : Nat → Int32) (sw : Nat → Int32) (nh : Nat) (ki : Nat → Int32) (te : Nat → Int32) (mi : Nat → Int32) (ar : Nat → Int32) (z : Int32) (hnh : nh ≤ 8) : Ct l G yX0_marked cX0_marked 3 (some (FieldType.int)) 1 [.ref (a 0)] (wF [wCt G a la ns sd to he sw nh ki te mi ar z]) (some (.int (fMask (fun h_ => ¬ ar h_ = 0) nh))) (wF [wCt G a la ns sd to he sw nh ki te mi ar z]) := by
  refine Ct.of "GooseArms$Court" [some (.ref (a 0)), none, none] (by decide +kernel) rfl (Nat.le_of_ble_eq_true rfl) rfl ?_
  have cut_4_ : ∀ (n_4_ : Nat) (k : Nat) (x : Int32), (nh - k < n_4_) → (hk : k ≤ nh) → (hx : x = fMask (fun h_ => ¬ ar h_ = 0) k) → J l G (bd G 1 (some (FieldType.int)) (some (.int (fMask (fun h_ => ¬ ar h_ = 0) nh))) (wF [wCt G a la ns sd to he sw nh ki te mi ar z])) cX0_marked 3 "GooseArms$Court" 4 [some (.ref (a 0)), some (.int x), some (.int (nI k))] [] (wF [wCt G a la ns sd to he sw nh ki te mi ar z]) := by
    intro n_4_
    induction n_4_ with
    | zero => intro k x m_4_; exact absurd m_4_ (Nat.not_lt_zero _)
    | succ n_4_ ih_4_ =>
      intro k x m_4_ hk hx
      refine J_iload_n 4 2 dX0_marked_4 rfl rfl ?_
      refine J_aload_n 5 0 dX0_marked_5 rfl rfl ?_
      refine g_52 (v := .int (nI nh)) 6 0 rfl rfl dX0_marked_6 ?_
      refine J_icmp_ge (tgt := 34) 9 dX0_marked_9 (by decide) (fun c_1_ => ?_) (fun c_1_ => ?_)
      · skip
        have c_1_ : nh ≤ k := (nI_leI (a := nh) (b := k) (by omega) (by omega)).mp c_1_
        refine J_iload_n 34 1 dX0_marked_34 rfl rfl ?_
        exact J_iret 35 dX0_marked_35 (congrArg (fun x_ => some (Value.int x_)) (by rw [hx, show k = nh by omega])) rfl
      · skip
        have c_1_ : ¬ nh ≤ k := fun z_ => c_1_ ((nI_leI (a := nh) (b := k) (by omega) (by omega)).mpr z_)
        refine J_aload_n 12 0 dX0_marked_12 rfl rfl ?_
        refine g_61 (v := .ref (a 8)) 13 0 rfl rfl dX0_marked_13 ?_
        refine J_iload_n 16 2 dX0_marked_16 rfl rfl ?_
        refine J_iald 17 8 k rfl rfl (by omega) (by decide) dX0_marked_17 ?_
        refine J_if_eq (tgt := 28) 18 dX0_marked_18 (by decide) (fun c_2_ => ?_) (fun c_2_ => ?_)
        · skip
          refine J_iinc (v := nI (k + 1)) (lv' := [some (.ref (a 0)), some (.int x), some (.int (nI (k + 1)))]) 28 dX0_marked_28 rfl (nI_add _ 1) (by decide) rfl ?_
          refine J_goto (tgt := 4) 31 dX0_marked_31 (by decide) ?_
          exact ih_4_ (k + 1) x (by omega) (by first | assumption | omega | rfl) (by first | rfl | exact fMask_st hx (by assumption) | exact fMask_sf hx (fun z_ => z_ (by assumption)))
        · skip
          refine J_iload_n 21 1 dX0_marked_21 rfl rfl ?_
          refine J_iload_n 22 2 dX0_marked_22 rfl rfl ?_
          refine kb_RX0_75 (bs' := [wCt G a la ns sd to he sw nh ki te mi ar z]) (rest := [.int x]) (st' := [.int (onlyI (nI k)), .int x]) 23 (c_X5_only l G (nI k) ) [] rfl rfl [] rfl rfl rfl rfl rfl rfl (Nat.le_of_ble_eq_true rfl) rfl dX0_marked_23 ?_
          refine J_ior 26 dX0_marked_26 ?_
          refine J_istore_n (lv' := [some (.ref (a 0)), some (.int (x ||| (onlyI (nI k)))), some (.int (nI k))]) 27 1 dX0_marked_27 rfl (by decide) rfl ?_
          refine J_iinc (v := nI (k + 1)) (lv' := [some (.ref (a 0)), some (.int (x ||| (onlyI (nI k)))), some (.int (nI (k + 1)))]) 28 dX0_marked_28 rfl (nI_add _ 1) (by decide) rfl ?_
          refine J_goto (tgt := 4) 31 dX0_marked_31 (by decide) ?_
          exact ih_4_ (k + 1) (x ||| (onlyI (nI k))) (by omega) (by first | assumption | omega | rfl) (by first | rfl | exact fMask_st hx (by assumption) | exact fMask_sf hx (fun z_ => z_ (by assumption)))
  refine J_iconst (v := 0) 0 dX0_marked_0 rfl ?_
  refine J_istore_n (lv' := [some (.ref (a 0)), some (.int 0), none]) 1 1 dX0_marked_1 rfl (by decide) rfl ?_
  refine J_iconst (v := 0) 2 dX0_marked_2 rfl ?_
  refine J_istore_n (lv' := [some (.ref (a 0)), some (.int 0), some (.int 0)]) 3 2 dX0_marked_3 rfl (by decide) rfl ?_
  exact cut_4_ ((nh - 0) + 1) 0 0 (Nat.lt_succ_self _) (by first | assumption | omega | rfl) (by first | rfl | exact fMask_st hx (by assumption) | exact fMask_sf hx (fun z_ => z_ (by assumption)))
set_option maxRecDepth 100000 in
set_option maxHeartbeats 4000000 in
theorem c_X0_sameArms (l : Launch) (G : Gd) (v : Int32) (a : Nat → Nat) (la : Nat → Int32) (ns : Nat) (sd : Nat) (to : Nat → Int32) (he : Nat → Int32) (sw : Nat → Int32) (nh : Nat) (ki : Nat → Int32) (te : Nat → Int32) (mi : Nat → Int32) (ar : Nat → Int32) (z : Int32) (hnh : nh ≤ 8) : Ct l G yX0_sameArms cX0_sameArms 4 (some (FieldType.int)) 1 [.ref (a 0), .int v] (wF [wCt G a la ns sd to he sw nh ki te mi ar z]) (some (.int (nI (fCnt (fun h_ => ar h_ = v) nh)))) (wF [wCt G a la ns sd to he sw nh ki te mi ar z]) := by
  refine Ct.of "GooseArms$Court" [some (.ref (a 0)), some (.int v), none, none] (by decide +kernel) rfl (Nat.le_of_ble_eq_true rfl) rfl ?_
  have cut_4_ : ∀ (n_4_ : Nat) (k : Nat) (x : Nat), (nh - k < n_4_) → (hk : k ≤ nh) → (hx : x = fCnt (fun h_ => ar h_ = v) k) → J l G (bd G 1 (some (FieldType.int)) (some (.int (nI (fCnt (fun h_ => ar h_ = v) nh)))) (wF [wCt G a la ns sd to he sw nh ki te mi ar z])) cX0_sameArms 4 "GooseArms$Court" 4 [some (.ref (a 0)), some (.int v), some (.int (nI x)), some (.int (nI k))] [] (wF [wCt G a la ns sd to he sw nh ki te mi ar z]) := by
    intro n_4_
    induction n_4_ with
    | zero => intro k x m_4_; exact absurd m_4_ (Nat.not_lt_zero _)
    | succ n_4_ ih_4_ =>
      intro k x m_4_ hk hx
      refine J_iload_n 4 3 dX0_sameArms_4 rfl rfl ?_
      refine J_aload_n 5 0 dX0_sameArms_5 rfl rfl ?_
      refine g_52 (v := .int (nI nh)) 6 0 rfl rfl dX0_sameArms_6 ?_
      refine J_icmp_ge (tgt := 31) 9 dX0_sameArms_9 (by decide) (fun c_1_ => ?_) (fun c_1_ => ?_)
      · skip
        have c_1_ : nh ≤ k := (nI_leI (a := nh) (b := k) (by omega) (by omega)).mp c_1_
        refine J_iload_n 31 2 dX0_sameArms_31 rfl rfl ?_
        exact J_iret 32 dX0_sameArms_32 (congrArg (fun x_ => some (Value.int x_)) (by rw [hx, show k = nh by omega])) rfl
      · skip
        have c_1_ : ¬ nh ≤ k := fun z_ => c_1_ ((nI_leI (a := nh) (b := k) (by omega) (by omega)).mpr z_)
        refine J_aload_n 12 0 dX0_sameArms_12 rfl rfl ?_
        refine g_61 (v := .ref (a 8)) 13 0 rfl rfl dX0_sameArms_13 ?_
        refine J_iload_n 16 3 dX0_sameArms_16 rfl rfl ?_
        refine J_iald 17 8 k rfl rfl (by omega) (by decide) dX0_sameArms_17 ?_
        refine J_iload_n 18 1 dX0_sameArms_18 rfl rfl ?_
        refine J_icmp_ne (tgt := 25) 19 dX0_sameArms_19 (by decide) (fun c_2_ => ?_) (fun c_2_ => ?_)
        · skip
          refine J_iinc (v := nI (k + 1)) (lv' := [some (.ref (a 0)), some (.int v), some (.int (nI x)), some (.int (nI (k + 1)))]) 25 dX0_sameArms_25 rfl (nI_add _ 1) (by decide) rfl ?_
          refine J_goto (tgt := 4) 28 dX0_sameArms_28 (by decide) ?_
          exact ih_4_ (k + 1) x (by omega) (by first | assumption | omega | rfl) (by first | rfl | exact fCnt_st hx (by assumption) | exact fCnt_sf hx (by assumption))
        · skip
          refine J_iinc (v := nI (x + 1)) (lv' := [some (.ref (a 0)), some (.int v), some (.int (nI (x + 1))), some (.int (nI k))]) 22 dX0_sameArms_22 rfl (nI_add _ 1) (by decide) rfl ?_
          refine J_iinc (v := nI (k + 1)) (lv' := [some (.ref (a 0)), some (.int v), some (.int (nI (x + 1))), some (.int (nI (k + 1)))]) 25 dX0_sameArms_25 rfl (nI_add _ 1) (by decide) rfl ?_
          refine J_goto (tgt := 4) 28 dX0_sameArms_28 (by decide) ?_
          exact ih_4_ (k + 1) (x + 1) (by omega) (by first | assumption | omega | rfl) (by first | rfl | exact fCnt_st hx (by assumption) | exact fCnt_sf hx (by assumption))
  refine J_iconst (v := 0) 0 dX0_sameArms_0 rfl ?_
  refine J_istore_n (lv' := [some (.ref (a 0)), some (.int v), some (.int 0), none]) 1 2 dX0_sameArms_1 rfl (by decide) rfl ?_
  refine J_iconst (v := 0) 2 dX0_sameArms_2 rfl ?_
  refine J_istore_n (lv' := [some (.ref (a 0)), some (.int v), some (.int 0), some (.int 0)]) 3 3 dX0_sameArms_3 rfl (by decide) rfl ?_
  exact cut_4_ ((nh - 0) + 1) 0 0 (Nat.lt_succ_self _) (by first | assumption | omega | rfl) (by first | rfl | exact fCnt_st hx (by assumption) | exact fCnt_sf hx (by assumption))
set_option maxRecDepth 100000 in
set_option maxHeartbeats 4000000 in
theorem c_X0_armsTogether (l : Launch) (G : Gd) (s : Int32) (a : Nat → Nat) (la : Nat → Int32) (ns : Nat) (sd : Nat) (to : Nat → Int32) (he : Nat → Int32) (sw : Nat → Int32) (nh : Nat) (ki : Nat → Int32) (te : Nat → Int32) (mi : Nat → Int32) (ar : Nat → Int32) (z : Int32) (hnh : nh ≤ 8) : Ct l G yX0_armsTogether cX0_armsTogether 4 (some (FieldType.int)) 1 [.ref (a 0), .int s] (wF [wCt G a la ns sd to he sw nh ki te mi ar z]) (some (.int (fOr (fun h_ => hasP s (nI h_)) ar nh))) (wF [wCt G a la ns sd to he sw nh ki te mi ar z]) := by
  refine Ct.of "GooseArms$Court" [some (.ref (a 0)), some (.int s), none, none] (by decide +kernel) rfl (Nat.le_of_ble_eq_true rfl) rfl ?_
  have cut_4_ : ∀ (n_4_ : Nat) (k : Nat) (x : Int32), (nh - k < n_4_) → (hk : k ≤ nh) → (hx : x = fOr (fun h_ => hasP s (nI h_)) ar k) → J l G (bd G 1 (some (FieldType.int)) (some (.int (fOr (fun h_ => hasP s (nI h_)) ar nh))) (wF [wCt G a la ns sd to he sw nh ki te mi ar z])) cX0_armsTogether 4 "GooseArms$Court" 4 [some (.ref (a 0)), some (.int s), some (.int x), some (.int (nI k))] [] (wF [wCt G a la ns sd to he sw nh ki te mi ar z]) := by
    intro n_4_
    induction n_4_ with
    | zero => intro k x m_4_; exact absurd m_4_ (Nat.not_lt_zero _)
    | succ n_4_ ih_4_ =>
      intro k x m_4_ hk hx
      refine J_iload_n 4 3 dX0_armsTogether_4 rfl rfl ?_
      refine J_aload_n 5 0 dX0_armsTogether_5 rfl rfl ?_
      refine g_52 (v := .int (nI nh)) 6 0 rfl rfl dX0_armsTogether_6 ?_
      refine J_icmp_ge (tgt := 35) 9 dX0_armsTogether_9 (by decide) (fun c_1_ => ?_) (fun c_1_ => ?_)
      · skip
        have c_1_ : nh ≤ k := (nI_leI (a := nh) (b := k) (by omega) (by omega)).mp c_1_
        refine J_iload_n 35 2 dX0_armsTogether_35 rfl rfl ?_
        exact J_iret 36 dX0_armsTogether_36 (congrArg (fun x_ => some (Value.int x_)) (by rw [hx, show k = nh by omega])) rfl
      · skip
        have c_1_ : ¬ nh ≤ k := fun z_ => c_1_ ((nI_leI (a := nh) (b := k) (by omega) (by omega)).mpr z_)
        refine J_iload_n 12 1 dX0_armsTogether_12 rfl rfl ?_
        refine J_iload_n 13 3 dX0_armsTogether_13 rfl rfl ?_
        refine kb_RX0_63 (bs' := [wCt G a la ns sd to he sw nh ki te mi ar z]) (rest := []) (st' := [.int (bI (hasP s (nI k)))]) 14 (c_X5_has l G s (nI k) ) [] rfl rfl [] rfl rfl rfl rfl rfl rfl (Nat.le_of_ble_eq_true rfl) rfl dX0_armsTogether_14 ?_
        refine J_ifB_eq (tgt := 29) 17 dX0_armsTogether_17 (by decide) (fun c_2_ => ?_) (fun c_2_ => ?_)
        · skip
          refine J_iinc (v := nI (k + 1)) (lv' := [some (.ref (a 0)), some (.int s), some (.int x), some (.int (nI (k + 1)))]) 29 dX0_armsTogether_29 rfl (nI_add _ 1) (by decide) rfl ?_
          refine J_goto (tgt := 4) 32 dX0_armsTogether_32 (by decide) ?_
          exact ih_4_ (k + 1) x (by omega) (by first | assumption | omega | rfl) (by first | rfl | exact fOr_st hx (by assumption) | exact fOr_sf hx (by assumption))
        · skip
          refine J_iload_n 20 2 dX0_armsTogether_20 rfl rfl ?_
          refine J_aload_n 21 0 dX0_armsTogether_21 rfl rfl ?_
          refine g_61 (v := .ref (a 8)) 22 0 rfl rfl dX0_armsTogether_22 ?_
          refine J_iload_n 25 3 dX0_armsTogether_25 rfl rfl ?_
          refine J_iald 26 8 k rfl rfl (by omega) (by decide) dX0_armsTogether_26 ?_
          refine J_ior 27 dX0_armsTogether_27 ?_
          refine J_istore_n (lv' := [some (.ref (a 0)), some (.int s), some (.int (x ||| (ar k))), some (.int (nI k))]) 28 2 dX0_armsTogether_28 rfl (by decide) rfl ?_
          refine J_iinc (v := nI (k + 1)) (lv' := [some (.ref (a 0)), some (.int s), some (.int (x ||| (ar k))), some (.int (nI (k + 1)))]) 29 dX0_armsTogether_29 rfl (nI_add _ 1) (by decide) rfl ?_
          refine J_goto (tgt := 4) 32 dX0_armsTogether_32 (by decide) ?_
          exact ih_4_ (k + 1) (x ||| (ar k)) (by omega) (by first | assumption | omega | rfl) (by first | rfl | exact fOr_st hx (by assumption) | exact fOr_sf hx (by assumption))
  refine J_iconst (v := 0) 0 dX0_armsTogether_0 rfl ?_
  refine J_istore_n (lv' := [some (.ref (a 0)), some (.int s), some (.int 0), none]) 1 2 dX0_armsTogether_1 rfl (by decide) rfl ?_
  refine J_iconst (v := 0) 2 dX0_armsTogether_2 rfl ?_
  refine J_istore_n (lv' := [some (.ref (a 0)), some (.int s), some (.int 0), some (.int 0)]) 3 3 dX0_armsTogether_3 rfl (by decide) rfl ?_
  exact cut_4_ ((nh - 0) + 1) 0 0 (Nat.lt_succ_self _) (by first | assumption | omega | rfl) (by first | rfl | exact fOr_st hx (by assumption) | exact fOr_sf hx (by assumption))
set_option maxRecDepth 100000 in
set_option maxHeartbeats 4000000 in
theorem c_X0_swaps (l : Launch) (G : Gd) (i : Nat) (j : Nat) (a : Nat) (f : Nat → Int32) (hi : i < 12) (hj : j < 12) : Ct l G yX0_swaps cX0_swaps 4 none 0 [.ref a, .int (nI i), .int (nI j)] (wF [wI G a 12 f]) none (wF [wI G a 12 (fSw f i j)]) := by
  refine Ct.of "GooseArms$Court" [some (.ref a), some (.int (nI i)), some (.int (nI j)), none] (by decide +kernel) rfl (Nat.le_of_ble_eq_true rfl) rfl ?_
  refine J_aload_n 0 0 dX0_swaps_0 rfl rfl ?_
  refine J_iload_n 1 1 dX0_swaps_1 rfl rfl ?_
  refine J_iald 2 0 i rfl rfl (by omega) (by decide) dX0_swaps_2 ?_
  refine J_istore_n (lv' := [some (.ref a), some (.int (nI i)), some (.int (nI j)), some (.int (f i))]) 3 3 dX0_swaps_3 rfl (by decide) rfl ?_
  refine J_aload_n 4 0 dX0_swaps_4 rfl rfl ?_
  refine J_iload_n 5 1 dX0_swaps_5 rfl rfl ?_
  refine J_aload_n 6 0 dX0_swaps_6 rfl rfl ?_
  refine J_iload_n 7 2 dX0_swaps_7 rfl rfl ?_
  refine J_iald 8 0 j rfl rfl (by omega) (by decide) dX0_swaps_8 ?_
  refine J_iast (ws' := (wF [wI G a 12 (upd f i (f j))])) 9 0 i rfl rfl (by omega) (by decide) rfl dX0_swaps_9 ?_
  refine J_aload_n 10 0 dX0_swaps_10 rfl rfl ?_
  refine J_iload_n 11 2 dX0_swaps_11 rfl rfl ?_
  refine J_iload_n 12 3 dX0_swaps_12 rfl rfl ?_
  refine J_iast (ws' := (wF [wI G a 12 (upd (upd f i (f j)) j (f i))])) 13 0 j rfl rfl (by omega) (by decide) rfl dX0_swaps_13 ?_
  exact J_vret 14 dX0_swaps_14 rfl (cg1 (fun (x0_ : Nat → Int32) => (wF [wI G a 12 x0_])) (upd (upd f i (f j)) j (f i)) (fSw f i j) rfl)
set_option maxRecDepth 100000 in
set_option maxHeartbeats 4000000 in
theorem c_X0_changePlaces (l : Launch) (G : Gd) (i : Nat) (j : Nat) (a : Nat → Nat) (la : Nat → Int32) (ns : Nat) (sd : Nat) (to : Nat → Int32) (he : Nat → Int32) (sw : Nat → Int32) (nh : Nat) (ki : Nat → Int32) (te : Nat → Int32) (mi : Nat → Int32) (ar : Nat → Int32) (z : Int32) (hi : i < 12) (hj : j < 12) : Ct l G yX0_changePlaces cX0_changePlaces 3 none 1 [.ref (a 0), .int (nI i), .int (nI j)] (wF [wCt G a la ns sd to he sw nh ki te mi ar z]) none (wF [wCt G a la ns sd (fSw to i j) (fSw he i j) (fSw sw i j) nh ki te mi ar z]) := by
  refine Ct.of "GooseArms$Court" [some (.ref (a 0)), some (.int (nI i)), some (.int (nI j))] (by decide +kernel) rfl (Nat.le_of_ble_eq_true rfl) rfl ?_
  refine J_aload_n 0 0 dX0_changePlaces_0 rfl rfl ?_
  refine g_46 (v := .ref (a 2)) 1 0 rfl rfl dX0_changePlaces_1 ?_
  refine J_iload_n 4 1 dX0_changePlaces_4 rfl rfl ?_
  refine J_iload_n 5 2 dX0_changePlaces_5 rfl rfl ?_
  refine k_RX0_104 (ws' := (wF [wCt G a la ns sd (fSw to i j) he sw nh ki te mi ar z])) (rest := []) (st' := []) 6 (c_X0_swaps l G i j (a 2) to (by omega) (by omega)) [2] rfl rfl [(a 2)] rfl rfl rfl rfl rfl rfl (Nat.le_of_ble_eq_true rfl) rfl dX0_changePlaces_6 ?_
  refine J_aload_n 9 0 dX0_changePlaces_9 rfl rfl ?_
  refine g_48 (v := .ref (a 3)) 10 0 rfl rfl dX0_changePlaces_10 ?_
  refine J_iload_n 13 1 dX0_changePlaces_13 rfl rfl ?_
  refine J_iload_n 14 2 dX0_changePlaces_14 rfl rfl ?_
  refine k_RX0_104 (ws' := (wF [wCt G a la ns sd (fSw to i j) (fSw he i j) sw nh ki te mi ar z])) (rest := []) (st' := []) 15 (c_X0_swaps l G i j (a 3) he (by omega) (by omega)) [3] rfl rfl [(a 3)] rfl rfl rfl rfl rfl rfl (Nat.le_of_ble_eq_true rfl) rfl dX0_changePlaces_15 ?_
  refine J_aload_n 18 0 dX0_changePlaces_18 rfl rfl ?_
  refine g_50 (v := .ref (a 4)) 19 0 rfl rfl dX0_changePlaces_19 ?_
  refine J_iload_n 22 1 dX0_changePlaces_22 rfl rfl ?_
  refine J_iload_n 23 2 dX0_changePlaces_23 rfl rfl ?_
  refine k_RX0_104 (ws' := (wF [wCt G a la ns sd (fSw to i j) (fSw he i j) (fSw sw i j) nh ki te mi ar z])) (rest := []) (st' := []) 24 (c_X0_swaps l G i j (a 4) sw (by omega) (by omega)) [4] rfl rfl [(a 4)] rfl rfl rfl rfl rfl rfl (Nat.le_of_ble_eq_true rfl) rfl dX0_changePlaces_24 ?_
  exact J_vret 27 dX0_changePlaces_27 rfl rfl
