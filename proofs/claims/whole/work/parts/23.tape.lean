set_option maxRecDepth 100000 in
set_option maxHeartbeats 4000000 in
theorem c_X4_isLetter (l : Launch) (G : Gd) (v : Int32)  : Ct l G yX4_isLetter cX4_isLetter 1 (some (FieldType.boolean)) 0 [.int v] (wF []) (some (.int (bI (97 ≤ v ∧ v ≤ 122)))) (wF []) := by
  refine Ct.of "GooseArms$Tape" [some (.int v)] (by decide +kernel) rfl (Nat.le_of_ble_eq_true rfl) rfl ?_
  refine J_iload_n 0 0 dX4_isLetter_0 rfl rfl ?_
  refine J_bipush (v := 97) 1 dX4_isLetter_1 rfl ?_
  refine J_icmp_lt (tgt := 16) 3 dX4_isLetter_3 (by decide) (fun c_1_ => ?_) (fun c_1_ => ?_)
  · skip
    refine J_iconst (v := 0) 16 dX4_isLetter_16 rfl ?_
    exact J_zret 17 rfl dX4_isLetter_17 (congrArg (fun x_ => some (Value.int x_)) (bI_f (by first | omega | grind)).symm) rfl
  · skip
    refine J_iload_n 6 0 dX4_isLetter_6 rfl rfl ?_
    refine J_bipush (v := 122) 7 dX4_isLetter_7 rfl ?_
    refine J_icmp_gt (tgt := 16) 9 dX4_isLetter_9 (by decide) (fun c_2_ => ?_) (fun c_2_ => ?_)
    · skip
      refine J_iconst (v := 0) 16 dX4_isLetter_16 rfl ?_
      exact J_zret 17 rfl dX4_isLetter_17 (congrArg (fun x_ => some (Value.int x_)) (bI_f (by first | omega | grind)).symm) rfl
    · skip
      refine J_iconst (v := 1) 12 dX4_isLetter_12 rfl ?_
      refine J_goto (tgt := 17) 13 dX4_isLetter_13 (by decide) ?_
      exact J_zret 17 rfl dX4_isLetter_17 (congrArg (fun x_ => some (Value.int x_)) (bI_t (by first | omega | grind)).symm) rfl
set_option maxRecDepth 100000 in
set_option maxHeartbeats 4000000 in
theorem c_X4_isDigit (l : Launch) (G : Gd) (v : Int32)  : Ct l G yX4_isDigit cX4_isDigit 1 (some (FieldType.boolean)) 0 [.int v] (wF []) (some (.int (bI (48 ≤ v ∧ v ≤ 57)))) (wF []) := by
  refine Ct.of "GooseArms$Tape" [some (.int v)] (by decide +kernel) rfl (Nat.le_of_ble_eq_true rfl) rfl ?_
  refine J_iload_n 0 0 dX4_isDigit_0 rfl rfl ?_
  refine J_bipush (v := 48) 1 dX4_isDigit_1 rfl ?_
  refine J_icmp_lt (tgt := 16) 3 dX4_isDigit_3 (by decide) (fun c_1_ => ?_) (fun c_1_ => ?_)
  · skip
    refine J_iconst (v := 0) 16 dX4_isDigit_16 rfl ?_
    exact J_zret 17 rfl dX4_isDigit_17 (congrArg (fun x_ => some (Value.int x_)) (bI_f (by first | omega | grind)).symm) rfl
  · skip
    refine J_iload_n 6 0 dX4_isDigit_6 rfl rfl ?_
    refine J_bipush (v := 57) 7 dX4_isDigit_7 rfl ?_
    refine J_icmp_gt (tgt := 16) 9 dX4_isDigit_9 (by decide) (fun c_2_ => ?_) (fun c_2_ => ?_)
    · skip
      refine J_iconst (v := 0) 16 dX4_isDigit_16 rfl ?_
      exact J_zret 17 rfl dX4_isDigit_17 (congrArg (fun x_ => some (Value.int x_)) (bI_f (by first | omega | grind)).symm) rfl
    · skip
      refine J_iconst (v := 1) 12 dX4_isDigit_12 rfl ?_
      refine J_goto (tgt := 17) 13 dX4_isDigit_13 (by decide) ?_
      exact J_zret 17 rfl dX4_isDigit_17 (congrArg (fun x_ => some (Value.int x_)) (bI_t (by first | omega | grind)).symm) rfl
set_option maxRecDepth 100000 in
set_option maxHeartbeats 4000000 in
theorem c_X4_takes (l : Launch) (G : Gd) (e : Int64) (n : Nat) (a : Nat) (by_ : Nat) (ln : Nat) (st : Nat) (en : Nat) (so : Int32) (va : Int32) (fa : Int32) (f : Nat → Int32) (hn : ln + n ≤ 200) : Ct l G yX4_takes cX4_takes 5 (some (FieldType.boolean)) 0 [.ref a, .long e, .int (nI n)] (wF [wTp a by_ ln st en so va fa, wB G by_ 200 f]) (some (.int 1)) (wF [wTp a by_ (ln + n) st en so va fa, wB G by_ 200 (fPutB f ln e n)]) := by
  refine Ct.of "GooseArms$Tape" [some (.ref a), some (.long e), none, some (.int (nI n)), none] (by decide +kernel) rfl (Nat.le_of_ble_eq_true rfl) rfl ?_
  have cut_17_ : ∀ (n_17_ : Nat) (k : Nat) (ln1 : Nat) (f1 : Nat → Int32), (n - k < n_17_) → (hk : k ≤ n) → (hl : ln1 = ln + k) → (hf : f1 = fPutB f ln e k) → J l G (bd G 0 (some (FieldType.boolean)) (some (.int 1)) (wF [wTp a by_ (ln + n) st en so va fa, wB G by_ 200 (fPutB f ln e n)])) cX4_takes 5 "GooseArms$Tape" 17 [some (.ref a), some (.long e), none, some (.int (nI n)), some (.int (nI k))] [] (wF [wTp a by_ ln1 st en so va fa, wB G by_ 200 f1]) := by
    intro n_17_
    induction n_17_ with
    | zero => intro k ln1 f1 m_17_; exact absurd m_17_ (Nat.not_lt_zero _)
    | succ n_17_ ih_17_ =>
      intro k ln1 f1 m_17_ hk hl hf
      refine J_iload 17 dX4_takes_17 rfl ?_
      refine J_iload_n 19 3 dX4_takes_19 rfl rfl ?_
      refine J_icmp_ge (tgt := 57) 20 dX4_takes_20 (by decide) (fun c_1_ => ?_) (fun c_1_ => ?_)
      · skip
        have c_1_ : n ≤ k := (nI_leI (a := n) (b := k) (by omega) (by omega)).mp c_1_
        refine J_iconst (v := 1) 57 dX4_takes_57 rfl ?_
        exact J_zret 58 rfl dX4_takes_58 rfl (cg2 (fun (x0_ : Nat) (x1_ : Nat → Int32) => (wF [wTp a by_ x0_ st en so va fa, wB G by_ 200 x1_])) ln1 (ln + n) f1 (fPutB f ln e n) (by omega) (by rw [hf, show k = n by omega]))
      · skip
        have c_1_ : ¬ n ≤ k := fun z_ => c_1_ ((nI_leI (a := n) (b := k) (by omega) (by omega)).mpr z_)
        refine J_aload_n 23 0 dX4_takes_23 rfl rfl ?_
        refine g_97 (v := .ref by_) 24 0 rfl rfl dX4_takes_24 ?_
        refine J_aload_n 27 0 dX4_takes_27 rfl rfl ?_
        refine g_98 (v := .int (nI ln1)) 28 0 rfl rfl dX4_takes_28 ?_
        refine J_lload_n 31 1 dX4_takes_31 rfl rfl ?_
        refine J_bipush (v := 8) 32 dX4_takes_32 rfl ?_
        refine J_iload 34 dX4_takes_34 rfl ?_
        refine J_imul 36 dX4_takes_36 ?_
        refine J_topi (y := nI (8 * k)) 37 (pk_mul 8 k) ?_
        refine J_lushr 37 dX4_takes_37 ?_
        refine J_l2i 38 dX4_takes_38 ?_
        refine J_i2b 39 dX4_takes_39 ?_
        refine J_bast (ws' := (wF [wTp a by_ ln1 st en so va fa, wB G by_ 200 (upd f1 ln1 (vp_nar .byte ((((e.toUInt64 >>> ((nI (8 * k)).toInt64.toUInt64 &&& Int64.toUInt64 63)).toInt64).toInt32).toInt8.toInt32)))])) 40 1 ln1 rfl rfl (by omega) (by decide) rfl dX4_takes_40 ?_
        refine J_aload_n 41 0 dX4_takes_41 rfl rfl ?_
        refine J_dup 42 dX4_takes_42 rfl ?_
        refine g_98 (v := .int (nI ln1)) 43 0 rfl rfl dX4_takes_43 ?_
        refine J_iconst (v := 1) 46 dX4_takes_46 rfl ?_
        refine J_iadd 47 dX4_takes_47 ?_
        refine J_topi (y := nI (ln1 + 1)) 48 (nI_add ln1 1) ?_
        refine p_98 (ws' := (wF [wTp a by_ (ln1 + 1) st en so va fa, wB G by_ 200 (upd f1 ln1 (vp_nar .byte ((((e.toUInt64 >>> ((nI (8 * k)).toInt64.toUInt64 &&& Int64.toUInt64 63)).toInt64).toInt32).toInt8.toInt32)))])) 48 0 rfl rfl rfl (Nat.le_of_ble_eq_true rfl) rfl dX4_takes_48 ?_
        refine J_iinc (v := nI (k + 1)) (lv' := [some (.ref a), some (.long e), none, some (.int (nI n)), some (.int (nI (k + 1)))]) 51 dX4_takes_51 rfl (nI_add _ 1) (by decide) rfl ?_
        refine J_goto (tgt := 17) 54 dX4_takes_54 (by decide) ?_
        exact ih_17_ (k + 1) (ln1 + 1) (upd f1 ln1 (vp_nar .byte ((((e.toUInt64 >>> ((nI (8 * k)).toInt64.toUInt64 &&& Int64.toUInt64 63)).toInt64).toInt32).toInt8.toInt32))) (by omega) (by first | assumption | omega | rfl) (by first | assumption | omega | rfl) (by first | exact (funext fun j_ => (if_neg (fun z_ => by omega)).symm) | (subst hl; exact fPutB_s hf (pk_vb _)))
  refine J_aload_n 0 0 dX4_takes_0 rfl rfl ?_
  refine g_98 (v := .int (nI ln)) 1 0 rfl rfl dX4_takes_1 ?_
  refine J_iload_n 4 3 dX4_takes_4 rfl rfl ?_
  refine J_iadd 5 dX4_takes_5 ?_
  refine J_topi (y := nI (ln + n)) 6 (nI_add ln n) ?_
  refine J_sipush (v := 200) 6 dX4_takes_6 rfl ?_
  refine J_icmp_le (tgt := 14) 9 dX4_takes_9 (by decide) (fun c_2_ => ?_) (fun c_2_ => ?_)
  · skip
    have c_2_ : (ln + n) ≤ 200 := (nI_leI (a := (ln + n)) (b := 200) (by omega) (by omega)).mp c_2_
    refine J_iconst (v := 0) 14 dX4_takes_14 rfl ?_
    refine J_istore (lv' := [some (.ref a), some (.long e), none, some (.int (nI n)), some (.int 0)]) 15 dX4_takes_15 (by decide) rfl ?_
    exact cut_17_ ((n - 0) + 1) 0 ln f (Nat.lt_succ_self _) (by first | assumption | omega | rfl) (by first | assumption | omega | rfl) (by first | exact (funext fun j_ => (if_neg (fun z_ => by omega)).symm) | (subst hl; exact fPutB_s hf (pk_vb _)))
  · skip
    have c_2_ : ¬ (ln + n) ≤ 200 := fun z_ => c_2_ ((nI_leI (a := (ln + n)) (b := 200) (by omega) (by omega)).mpr z_)
    omega
set_option maxRecDepth 100000 in
set_option maxHeartbeats 4000000 in
theorem c_X4_takes_full (l : Launch) (G : Gd) (e : Int64) (n : Nat) (a : Nat) (by_ : Nat) (ln : Nat) (st : Nat) (en : Nat) (so : Int32) (va : Int32) (fa : Int32) (f : Nat → Int32) (hn : 200 < ln + n) (hb : ln + n < 2147483648) : Ct l G yX4_takes cX4_takes 5 (some (FieldType.boolean)) 0 [.ref a, .long e, .int (nI n)] (wF [wTp a by_ ln st en so va fa, wB G by_ 200 f]) (some (.int 0)) (wF [wTp a by_ ln st en so va fa, wB G by_ 200 f]) := by
  refine Ct.of "GooseArms$Tape" [some (.ref a), some (.long e), none, some (.int (nI n)), none] (by decide +kernel) rfl (Nat.le_of_ble_eq_true rfl) rfl ?_
  refine J_aload_n 0 0 dX4_takes_0 rfl rfl ?_
  refine g_98 (v := .int (nI ln)) 1 0 rfl rfl dX4_takes_1 ?_
  refine J_iload_n 4 3 dX4_takes_4 rfl rfl ?_
  refine J_iadd 5 dX4_takes_5 ?_
  refine J_topi (y := nI (ln + n)) 6 (nI_add ln n) ?_
  refine J_sipush (v := 200) 6 dX4_takes_6 rfl ?_
  refine J_icmp_le (tgt := 14) 9 dX4_takes_9 (by decide) (fun c_1_ => ?_) (fun c_1_ => ?_)
  · skip
    have c_1_ : (ln + n) ≤ 200 := (nI_leI (a := (ln + n)) (b := 200) (by omega) (by omega)).mp c_1_
    omega
  · skip
    have c_1_ : ¬ (ln + n) ≤ 200 := fun z_ => c_1_ ((nI_leI (a := (ln + n)) (b := 200) (by omega) (by omega)).mpr z_)
    refine J_iconst (v := 0) 12 dX4_takes_12 rfl ?_
    exact J_zret 13 rfl dX4_takes_13 rfl rfl
set_option maxRecDepth 100000 in
set_option maxHeartbeats 4000000 in
theorem c_X4_goesOn (l : Launch) (G : Gd) (a : Nat) (by_ : Nat) (ln : Nat) (st : Nat) (en : Nat) (so : Int32) (va : Int32) (fa : Int32) (f : Nat → Int32) (hen : en ≤ ln) (hln : ln ≤ 200) : Ct l G yX4_goesOn cX4_goesOn 1 none 1 [.ref a] (wF [wTp a by_ ln st en so va fa, wB G by_ 200 f]) none (wF [wTp a by_ ln ((tGo f ln (st, en, so, va, fa)).1) ((tGo f ln (st, en, so, va, fa)).2.1) ((tGo f ln (st, en, so, va, fa)).2.2.1) ((tGo f ln (st, en, so, va, fa)).2.2.2.1) ((tGo f ln (st, en, so, va, fa)).2.2.2.2), wB G by_ 200 f]) := by
  refine Ct.of "GooseArms$Tape" [some (.ref a)] (by decide +kernel) rfl (Nat.le_of_ble_eq_true rfl) rfl ?_
  have cut_272_ : ∀ (s : Nat) (e : Nat) (so1 : Int32) (va1 : Int32), (ht : tGo f ln (st, en, so, va, fa) = (s, e, so1, va1, fa)) → J l G (bd G 1 none none (wF [wTp a by_ ln ((tGo f ln (st, en, so, va, fa)).1) ((tGo f ln (st, en, so, va, fa)).2.1) ((tGo f ln (st, en, so, va, fa)).2.2.1) ((tGo f ln (st, en, so, va, fa)).2.2.2.1) ((tGo f ln (st, en, so, va, fa)).2.2.2.2), wB G by_ 200 f])) cX4_goesOn 1 "GooseArms$Tape" 272 [some (.ref a)] [] (wF [wTp a by_ ln s e so1 va1 fa, wB G by_ 200 f]) := by
    intro s e so1 va1 ht
    exact J_vret 272 dX4_goesOn_272 rfl (cg5 (fun (x0_ : Nat) (x1_ : Nat) (x2_ : Int32) (x3_ : Int32) (x4_ : Int32) => (wF [wTp a by_ ln x0_ x1_ x2_ x3_ x4_, wB G by_ 200 f])) s ((tGo f ln (st, en, so, va, fa)).1) e ((tGo f ln (st, en, so, va, fa)).2.1) so1 ((tGo f ln (st, en, so, va, fa)).2.2.1) va1 ((tGo f ln (st, en, so, va, fa)).2.2.2.1) fa ((tGo f ln (st, en, so, va, fa)).2.2.2.2) (by rw [ht]) (by rw [ht]) (by rw [ht]) (by rw [ht]) (by rw [ht]))
  have cut_93_ : ∀ (n_93_ : Nat) (s : Nat) (e : Nat), (ln - e < n_93_) → (hs : tSk f ln en = s) → (hsl : s < ln) → (hl : isL f s) → (hse1 : s ≤ e) → (hel : e ≤ ln) → (he : fRun (isL f) (ln - s) s = fRun (isL f) (ln - e) e) → J l G (bd G 1 none none (wF [wTp a by_ ln ((tGo f ln (st, en, so, va, fa)).1) ((tGo f ln (st, en, so, va, fa)).2.1) ((tGo f ln (st, en, so, va, fa)).2.2.1) ((tGo f ln (st, en, so, va, fa)).2.2.2.1) ((tGo f ln (st, en, so, va, fa)).2.2.2.2), wB G by_ 200 f])) cX4_goesOn 1 "GooseArms$Tape" 93 [some (.ref a)] [] (wF [wTp a by_ ln s e 1 va fa, wB G by_ 200 f]) := by
    intro n_93_
    induction n_93_ with
    | zero => intro s e m_93_; exact absurd m_93_ (Nat.not_lt_zero _)
    | succ n_93_ ih_93_ =>
      intro s e m_93_ hs hsl hl hse1 hel he
      refine J_aload_n 93 0 dX4_goesOn_93 rfl rfl ?_
      refine g_101 (v := .int (nI e)) 94 0 rfl rfl dX4_goesOn_94 ?_
      refine J_aload_n 97 0 dX4_goesOn_97 rfl rfl ?_
      refine g_98 (v := .int (nI ln)) 98 0 rfl rfl dX4_goesOn_98 ?_
      refine J_icmp_ge (tgt := 272) 101 dX4_goesOn_101 (by decide) (fun c_1_ => ?_) (fun c_1_ => ?_)
      · skip
        have c_1_ : ln ≤ e := (nI_leI (a := ln) (b := e) (by omega) (by omega)).mp c_1_
        exact cut_272_ s e 1 va (by first | exact tGo_e (t := (st, en, so, va, fa)) (hs.trans (fRun_ov (by omega))) (by omega) | exact tGo_l (t := (st, en, so, va, fa)) hs hsl hl (he.trans (fRun_ov (by omega))) | exact tGo_l (t := (st, en, so, va, fa)) hs hsl hl (he.trans (fRun_no (by assumption))) | exact tGo_d (t := (st, en, so, va, fa)) hs hsl hl hd (he.trans (fRun_ov (by omega))) hv.symm | exact tGo_d (t := (st, en, so, va, fa)) hs hsl hl hd (he.trans (fRun_no (by assumption))) hv.symm | exact tGo_o (t := (st, en, so, va, fa)) (hs.trans (fRun_no (by assumption))) (by omega) (by assumption) (by assumption) (if_pos (by assumption)) | exact tGo_o (t := (st, en, so, va, fa)) (hs.trans (fRun_no (by assumption))) (by omega) (by assumption) (by assumption) (if_neg (by assumption)) | (exfalso; omega))
      · skip
        have c_1_ : ¬ ln ≤ e := fun z_ => c_1_ ((nI_leI (a := ln) (b := e) (by omega) (by omega)).mpr z_)
        refine J_aload_n 104 0 dX4_goesOn_104 rfl rfl ?_
        refine g_97 (v := .ref by_) 105 0 rfl rfl dX4_goesOn_105 ?_
        refine J_aload_n 108 0 dX4_goesOn_108 rfl rfl ?_
        refine g_101 (v := .int (nI e)) 109 0 rfl rfl dX4_goesOn_109 ?_
        refine J_bald 112 1 e rfl rfl (by omega) (by decide) dX4_goesOn_112 ?_
        refine kb_RX4_105 (bs' := [wTp a by_ ln s e 1 va fa, wB G by_ 200 f]) (rest := []) (st' := [.int (bI (97 ≤ (f e) ∧ (f e) ≤ 122))]) 113 (c_X4_isLetter l G (f e) ) [] rfl rfl [] rfl rfl rfl rfl rfl rfl (Nat.le_of_ble_eq_true rfl) rfl dX4_goesOn_113 ?_
        refine J_ifB_eq (tgt := 272) 116 dX4_goesOn_116 (by decide) (fun c_2_ => ?_) (fun c_2_ => ?_)
        · skip
          exact cut_272_ s e 1 va (by first | exact tGo_e (t := (st, en, so, va, fa)) (hs.trans (fRun_ov (by omega))) (by omega) | exact tGo_l (t := (st, en, so, va, fa)) hs hsl hl (he.trans (fRun_ov (by omega))) | exact tGo_l (t := (st, en, so, va, fa)) hs hsl hl (he.trans (fRun_no (by assumption))) | exact tGo_d (t := (st, en, so, va, fa)) hs hsl hl hd (he.trans (fRun_ov (by omega))) hv.symm | exact tGo_d (t := (st, en, so, va, fa)) hs hsl hl hd (he.trans (fRun_no (by assumption))) hv.symm | exact tGo_o (t := (st, en, so, va, fa)) (hs.trans (fRun_no (by assumption))) (by omega) (by assumption) (by assumption) (if_pos (by assumption)) | exact tGo_o (t := (st, en, so, va, fa)) (hs.trans (fRun_no (by assumption))) (by omega) (by assumption) (by assumption) (if_neg (by assumption)) | (exfalso; omega))
        · skip
          refine J_aload_n 119 0 dX4_goesOn_119 rfl rfl ?_
          refine J_dup 120 dX4_goesOn_120 rfl ?_
          refine g_101 (v := .int (nI e)) 121 0 rfl rfl dX4_goesOn_121 ?_
          refine J_iconst (v := 1) 124 dX4_goesOn_124 rfl ?_
          refine J_iadd 125 dX4_goesOn_125 ?_
          refine J_topi (y := nI (e + 1)) 126 (nI_add e 1) ?_
          refine p_101 (ws' := (wF [wTp a by_ ln s (e + 1) 1 va fa, wB G by_ 200 f])) 126 0 rfl rfl rfl (Nat.le_of_ble_eq_true rfl) rfl dX4_goesOn_126 ?_
          refine J_goto (tgt := 93) 129 dX4_goesOn_129 (by decide) ?_
          exact ih_93_ s (e + 1) (by omega) (by first | assumption | exact hs.trans (fRun_no (by assumption)) | (exfalso; omega)) (by first | assumption | omega | rfl) (by assumption) (by first | assumption | omega | rfl) (by first | assumption | omega | rfl) (by first | rfl | exact he.trans (fRun_go (by omega) (by assumption)))
  have cut_157_ : ∀ (n_157_ : Nat) (s : Nat) (e : Nat) (va1 : Int32), (ln - e < n_157_) → (hs : tSk f ln en = s) → (hsl : s < ln) → (hl : ¬ isL f s) → (hd : isD f s) → (hse1 : s ≤ e) → (hel : e ≤ ln) → (he : fRun (isD f) (ln - s) s = fRun (isD f) (ln - e) e) → (hv : va1 = fVal f s (e - s)) → J l G (bd G 1 none none (wF [wTp a by_ ln ((tGo f ln (st, en, so, va, fa)).1) ((tGo f ln (st, en, so, va, fa)).2.1) ((tGo f ln (st, en, so, va, fa)).2.2.1) ((tGo f ln (st, en, so, va, fa)).2.2.2.1) ((tGo f ln (st, en, so, va, fa)).2.2.2.2), wB G by_ 200 f])) cX4_goesOn 1 "GooseArms$Tape" 157 [some (.ref a)] [] (wF [wTp a by_ ln s e 2 va1 fa, wB G by_ 200 f]) := by
    intro n_157_
    induction n_157_ with
    | zero => intro s e va1 m_157_; exact absurd m_157_ (Nat.not_lt_zero _)
    | succ n_157_ ih_157_ =>
      intro s e va1 m_157_ hs hsl hl hd hse1 hel he hv
      refine J_aload_n 157 0 dX4_goesOn_157 rfl rfl ?_
      refine g_101 (v := .int (nI e)) 158 0 rfl rfl dX4_goesOn_158 ?_
      refine J_aload_n 161 0 dX4_goesOn_161 rfl rfl ?_
      refine g_98 (v := .int (nI ln)) 162 0 rfl rfl dX4_goesOn_162 ?_
      refine J_icmp_ge (tgt := 272) 165 dX4_goesOn_165 (by decide) (fun c_3_ => ?_) (fun c_3_ => ?_)
      · skip
        have c_3_ : ln ≤ e := (nI_leI (a := ln) (b := e) (by omega) (by omega)).mp c_3_
        exact cut_272_ s e 2 va1 (by first | exact tGo_e (t := (st, en, so, va, fa)) (hs.trans (fRun_ov (by omega))) (by omega) | exact tGo_l (t := (st, en, so, va, fa)) hs hsl hl (he.trans (fRun_ov (by omega))) | exact tGo_l (t := (st, en, so, va, fa)) hs hsl hl (he.trans (fRun_no (by assumption))) | exact tGo_d (t := (st, en, so, va, fa)) hs hsl hl hd (he.trans (fRun_ov (by omega))) hv.symm | exact tGo_d (t := (st, en, so, va, fa)) hs hsl hl hd (he.trans (fRun_no (by assumption))) hv.symm | exact tGo_o (t := (st, en, so, va, fa)) (hs.trans (fRun_no (by assumption))) (by omega) (by assumption) (by assumption) (if_pos (by assumption)) | exact tGo_o (t := (st, en, so, va, fa)) (hs.trans (fRun_no (by assumption))) (by omega) (by assumption) (by assumption) (if_neg (by assumption)) | (exfalso; omega))
      · skip
        have c_3_ : ¬ ln ≤ e := fun z_ => c_3_ ((nI_leI (a := ln) (b := e) (by omega) (by omega)).mpr z_)
        refine J_aload_n 168 0 dX4_goesOn_168 rfl rfl ?_
        refine g_97 (v := .ref by_) 169 0 rfl rfl dX4_goesOn_169 ?_
        refine J_aload_n 172 0 dX4_goesOn_172 rfl rfl ?_
        refine g_101 (v := .int (nI e)) 173 0 rfl rfl dX4_goesOn_173 ?_
        refine J_bald 176 1 e rfl rfl (by omega) (by decide) dX4_goesOn_176 ?_
        refine kb_RX4_109 (bs' := [wTp a by_ ln s e 2 va1 fa, wB G by_ 200 f]) (rest := []) (st' := [.int (bI (48 ≤ (f e) ∧ (f e) ≤ 57))]) 177 (c_X4_isDigit l G (f e) ) [] rfl rfl [] rfl rfl rfl rfl rfl rfl (Nat.le_of_ble_eq_true rfl) rfl dX4_goesOn_177 ?_
        refine J_ifB_eq (tgt := 272) 180 dX4_goesOn_180 (by decide) (fun c_4_ => ?_) (fun c_4_ => ?_)
        · skip
          exact cut_272_ s e 2 va1 (by first | exact tGo_e (t := (st, en, so, va, fa)) (hs.trans (fRun_ov (by omega))) (by omega) | exact tGo_l (t := (st, en, so, va, fa)) hs hsl hl (he.trans (fRun_ov (by omega))) | exact tGo_l (t := (st, en, so, va, fa)) hs hsl hl (he.trans (fRun_no (by assumption))) | exact tGo_d (t := (st, en, so, va, fa)) hs hsl hl hd (he.trans (fRun_ov (by omega))) hv.symm | exact tGo_d (t := (st, en, so, va, fa)) hs hsl hl hd (he.trans (fRun_no (by assumption))) hv.symm | exact tGo_o (t := (st, en, so, va, fa)) (hs.trans (fRun_no (by assumption))) (by omega) (by assumption) (by assumption) (if_pos (by assumption)) | exact tGo_o (t := (st, en, so, va, fa)) (hs.trans (fRun_no (by assumption))) (by omega) (by assumption) (by assumption) (if_neg (by assumption)) | (exfalso; omega))
        · skip
          refine J_aload_n 183 0 dX4_goesOn_183 rfl rfl ?_
          refine J_aload_n 184 0 dX4_goesOn_184 rfl rfl ?_
          refine g_101 (v := .int (nI e)) 185 0 rfl rfl dX4_goesOn_185 ?_
          refine J_aload_n 188 0 dX4_goesOn_188 rfl rfl ?_
          refine g_100 (v := .int (nI s)) 189 0 rfl rfl dX4_goesOn_189 ?_
          refine J_isub 192 dX4_goesOn_192 ?_
          refine J_topi (y := nI (e - s)) 193 (pk_sub (by omega)) ?_
          refine J_iconst (v := 3) 193 dX4_goesOn_193 rfl ?_
          refine J_icmp_ge (tgt := 220) 194 dX4_goesOn_194 (by decide) (fun c_5_ => ?_) (fun c_5_ => ?_)
          · skip
            have c_5_ : 3 ≤ (e - s) := (nI_leI (a := 3) (b := (e - s)) (by omega) (by omega)).mp c_5_
            refine J_sipush (v := 1000) 220 dX4_goesOn_220 rfl ?_
            refine p_103 (ws' := (wF [wTp a by_ ln s e 2 1000 fa, wB G by_ 200 f])) 223 0 rfl rfl rfl (Nat.le_of_ble_eq_true rfl) rfl dX4_goesOn_223 ?_
            refine J_aload_n 226 0 dX4_goesOn_226 rfl rfl ?_
            refine J_dup 227 dX4_goesOn_227 rfl ?_
            refine g_101 (v := .int (nI e)) 228 0 rfl rfl dX4_goesOn_228 ?_
            refine J_iconst (v := 1) 231 dX4_goesOn_231 rfl ?_
            refine J_iadd 232 dX4_goesOn_232 ?_
            refine J_topi (y := nI (e + 1)) 233 (nI_add e 1) ?_
            refine p_101 (ws' := (wF [wTp a by_ ln s (e + 1) 2 1000 fa, wB G by_ 200 f])) 233 0 rfl rfl rfl (Nat.le_of_ble_eq_true rfl) rfl dX4_goesOn_233 ?_
            refine J_goto (tgt := 157) 236 dX4_goesOn_236 (by decide) ?_
            exact ih_157_ s (e + 1) 1000 (by omega) (by first | assumption | exact hs.trans (fRun_no (by assumption)) | (exfalso; omega)) (by first | assumption | omega | rfl) (by assumption) (by assumption) (by first | assumption | omega | rfl) (by first | assumption | omega | rfl) (by first | rfl | exact he.trans (fRun_go (by omega) (by assumption))) (by first | (rw [Nat.sub_self]; rfl) | exact fVal_st hv (by omega) (by omega) | exact fVal_sf (by omega) (by omega))
          · skip
            have c_5_ : ¬ 3 ≤ (e - s) := fun z_ => c_5_ ((nI_leI (a := 3) (b := (e - s)) (by omega) (by omega)).mpr z_)
            refine J_aload_n 197 0 dX4_goesOn_197 rfl rfl ?_
            refine g_103 (v := .int va1) 198 0 rfl rfl dX4_goesOn_198 ?_
            refine J_bipush (v := 10) 201 dX4_goesOn_201 rfl ?_
            refine J_imul 203 dX4_goesOn_203 ?_
            refine J_aload_n 204 0 dX4_goesOn_204 rfl rfl ?_
            refine g_97 (v := .ref by_) 205 0 rfl rfl dX4_goesOn_205 ?_
            refine J_aload_n 208 0 dX4_goesOn_208 rfl rfl ?_
            refine g_101 (v := .int (nI e)) 209 0 rfl rfl dX4_goesOn_209 ?_
            refine J_bald 212 1 e rfl rfl (by omega) (by decide) dX4_goesOn_212 ?_
            refine J_iadd 213 dX4_goesOn_213 ?_
            refine J_bipush (v := 48) 214 dX4_goesOn_214 rfl ?_
            refine J_isub 216 dX4_goesOn_216 ?_
            refine J_goto (tgt := 223) 217 dX4_goesOn_217 (by decide) ?_
            refine p_103 (ws' := (wF [wTp a by_ ln s e 2 (((va1 * 10) + (f e)) - 48) fa, wB G by_ 200 f])) 223 0 rfl rfl rfl (Nat.le_of_ble_eq_true rfl) rfl dX4_goesOn_223 ?_
            refine J_aload_n 226 0 dX4_goesOn_226 rfl rfl ?_
            refine J_dup 227 dX4_goesOn_227 rfl ?_
            refine g_101 (v := .int (nI e)) 228 0 rfl rfl dX4_goesOn_228 ?_
            refine J_iconst (v := 1) 231 dX4_goesOn_231 rfl ?_
            refine J_iadd 232 dX4_goesOn_232 ?_
            refine J_topi (y := nI (e + 1)) 233 (nI_add e 1) ?_
            refine p_101 (ws' := (wF [wTp a by_ ln s (e + 1) 2 (((va1 * 10) + (f e)) - 48) fa, wB G by_ 200 f])) 233 0 rfl rfl rfl (Nat.le_of_ble_eq_true rfl) rfl dX4_goesOn_233 ?_
            refine J_goto (tgt := 157) 236 dX4_goesOn_236 (by decide) ?_
            exact ih_157_ s (e + 1) (((va1 * 10) + (f e)) - 48) (by omega) (by first | assumption | exact hs.trans (fRun_no (by assumption)) | (exfalso; omega)) (by first | assumption | omega | rfl) (by assumption) (by assumption) (by first | assumption | omega | rfl) (by first | assumption | omega | rfl) (by first | rfl | exact he.trans (fRun_go (by omega) (by assumption))) (by first | (rw [Nat.sub_self]; rfl) | exact fVal_st hv (by omega) (by omega) | exact fVal_sf (by omega) (by omega))
  have cut_8_ : ∀ (n_8_ : Nat) (s : Nat), (ln - s < n_8_) → (hsl : s ≤ ln) → (hes : en ≤ s) → (hs : tSk f ln en = fRun (isW f) (ln - s) s) → J l G (bd G 1 none none (wF [wTp a by_ ln ((tGo f ln (st, en, so, va, fa)).1) ((tGo f ln (st, en, so, va, fa)).2.1) ((tGo f ln (st, en, so, va, fa)).2.2.1) ((tGo f ln (st, en, so, va, fa)).2.2.2.1) ((tGo f ln (st, en, so, va, fa)).2.2.2.2), wB G by_ 200 f])) cX4_goesOn 1 "GooseArms$Tape" 8 [some (.ref a)] [] (wF [wTp a by_ ln s en so va fa, wB G by_ 200 f]) := by
    intro n_8_
    induction n_8_ with
    | zero => intro s m_8_; exact absurd m_8_ (Nat.not_lt_zero _)
    | succ n_8_ ih_8_ =>
      intro s m_8_ hsl hes hs
      refine J_aload_n 8 0 dX4_goesOn_8 rfl rfl ?_
      refine g_100 (v := .int (nI s)) 9 0 rfl rfl dX4_goesOn_9 ?_
      refine J_aload_n 12 0 dX4_goesOn_12 rfl rfl ?_
      refine g_98 (v := .int (nI ln)) 13 0 rfl rfl dX4_goesOn_13 ?_
      refine J_icmp_ge (tgt := 46) 16 dX4_goesOn_16 (by decide) (fun c_6_ => ?_) (fun c_6_ => ?_)
      · skip
        have c_6_ : ln ≤ s := (nI_leI (a := ln) (b := s) (by omega) (by omega)).mp c_6_
        refine J_aload_n 46 0 dX4_goesOn_46 rfl rfl ?_
        refine J_aload_n 47 0 dX4_goesOn_47 rfl rfl ?_
        refine g_100 (v := .int (nI s)) 48 0 rfl rfl dX4_goesOn_48 ?_
        refine p_101 (ws' := (wF [wTp a by_ ln s s so va fa, wB G by_ 200 f])) 51 0 rfl rfl rfl (Nat.le_of_ble_eq_true rfl) rfl dX4_goesOn_51 ?_
        refine J_aload_n 54 0 dX4_goesOn_54 rfl rfl ?_
        refine g_100 (v := .int (nI s)) 55 0 rfl rfl dX4_goesOn_55 ?_
        refine J_aload_n 58 0 dX4_goesOn_58 rfl rfl ?_
        refine g_98 (v := .int (nI ln)) 59 0 rfl rfl dX4_goesOn_59 ?_
        refine J_icmp_lt (tgt := 73) 62 dX4_goesOn_62 (by decide) (fun c_7_ => ?_) (fun c_7_ => ?_)
        · skip
          have c_7_ : s < ln := (nI_ltI (a := s) (b := ln) (by omega) (by omega)).mp c_7_
          refine J_aload_n 73 0 dX4_goesOn_73 rfl rfl ?_
          refine g_97 (v := .ref by_) 74 0 rfl rfl dX4_goesOn_74 ?_
          refine J_aload_n 77 0 dX4_goesOn_77 rfl rfl ?_
          refine g_100 (v := .int (nI s)) 78 0 rfl rfl dX4_goesOn_78 ?_
          refine J_bald 81 1 s rfl rfl (by omega) (by decide) dX4_goesOn_81 ?_
          refine kb_RX4_105 (bs' := [wTp a by_ ln s s so va fa, wB G by_ 200 f]) (rest := []) (st' := [.int (bI (97 ≤ (f s) ∧ (f s) ≤ 122))]) 82 (c_X4_isLetter l G (f s) ) [] rfl rfl [] rfl rfl rfl rfl rfl rfl (Nat.le_of_ble_eq_true rfl) rfl dX4_goesOn_82 ?_
          refine J_ifB_eq (tgt := 132) 85 dX4_goesOn_85 (by decide) (fun c_8_ => ?_) (fun c_8_ => ?_)
          · skip
            refine J_aload_n 132 0 dX4_goesOn_132 rfl rfl ?_
            refine g_97 (v := .ref by_) 133 0 rfl rfl dX4_goesOn_133 ?_
            refine J_aload_n 136 0 dX4_goesOn_136 rfl rfl ?_
            refine g_100 (v := .int (nI s)) 137 0 rfl rfl dX4_goesOn_137 ?_
            refine J_bald 140 1 s rfl rfl (by omega) (by decide) dX4_goesOn_140 ?_
            refine kb_RX4_109 (bs' := [wTp a by_ ln s s so va fa, wB G by_ 200 f]) (rest := []) (st' := [.int (bI (48 ≤ (f s) ∧ (f s) ≤ 57))]) 141 (c_X4_isDigit l G (f s) ) [] rfl rfl [] rfl rfl rfl rfl rfl rfl (Nat.le_of_ble_eq_true rfl) rfl dX4_goesOn_141 ?_
            refine J_ifB_eq (tgt := 239) 144 dX4_goesOn_144 (by decide) (fun c_9_ => ?_) (fun c_9_ => ?_)
            · skip
              refine J_aload_n 239 0 dX4_goesOn_239 rfl rfl ?_
              refine J_aload_n 240 0 dX4_goesOn_240 rfl rfl ?_
              refine g_97 (v := .ref by_) 241 0 rfl rfl dX4_goesOn_241 ?_
              refine J_aload_n 244 0 dX4_goesOn_244 rfl rfl ?_
              refine g_100 (v := .int (nI s)) 245 0 rfl rfl dX4_goesOn_245 ?_
              refine J_bald 248 1 s rfl rfl (by omega) (by decide) dX4_goesOn_248 ?_
              refine J_bipush (v := 59) 249 dX4_goesOn_249 rfl ?_
              refine J_icmp_ne (tgt := 258) 251 dX4_goesOn_251 (by decide) (fun c_10_ => ?_) (fun c_10_ => ?_)
              · skip
                refine J_iconst (v := 4) 258 dX4_goesOn_258 rfl ?_
                refine p_102 (ws' := (wF [wTp a by_ ln s s 4 va fa, wB G by_ 200 f])) 259 0 rfl rfl rfl (Nat.le_of_ble_eq_true rfl) rfl dX4_goesOn_259 ?_
                refine J_aload_n 262 0 dX4_goesOn_262 rfl rfl ?_
                refine J_aload_n 263 0 dX4_goesOn_263 rfl rfl ?_
                refine g_100 (v := .int (nI s)) 264 0 rfl rfl dX4_goesOn_264 ?_
                refine J_iconst (v := 1) 267 dX4_goesOn_267 rfl ?_
                refine J_iadd 268 dX4_goesOn_268 ?_
                refine J_topi (y := nI (s + 1)) 269 (nI_add s 1) ?_
                refine p_101 (ws' := (wF [wTp a by_ ln s (s + 1) 4 va fa, wB G by_ 200 f])) 269 0 rfl rfl rfl (Nat.le_of_ble_eq_true rfl) rfl dX4_goesOn_269 ?_
                exact cut_272_ s (s + 1) 4 va (by first | exact tGo_e (t := (st, en, so, va, fa)) (hs.trans (fRun_ov (by omega))) (by omega) | exact tGo_l (t := (st, en, so, va, fa)) hs hsl hl (he.trans (fRun_ov (by omega))) | exact tGo_l (t := (st, en, so, va, fa)) hs hsl hl (he.trans (fRun_no (by assumption))) | exact tGo_d (t := (st, en, so, va, fa)) hs hsl hl hd (he.trans (fRun_ov (by omega))) hv.symm | exact tGo_d (t := (st, en, so, va, fa)) hs hsl hl hd (he.trans (fRun_no (by assumption))) hv.symm | exact tGo_o (t := (st, en, so, va, fa)) (hs.trans (fRun_no (by assumption))) (by omega) (by assumption) (by assumption) (if_pos (by assumption)) | exact tGo_o (t := (st, en, so, va, fa)) (hs.trans (fRun_no (by assumption))) (by omega) (by assumption) (by assumption) (if_neg (by assumption)) | (exfalso; omega))
              · skip
                refine J_iconst (v := 3) 254 dX4_goesOn_254 rfl ?_
                refine J_goto (tgt := 259) 255 dX4_goesOn_255 (by decide) ?_
                refine p_102 (ws' := (wF [wTp a by_ ln s s 3 va fa, wB G by_ 200 f])) 259 0 rfl rfl rfl (Nat.le_of_ble_eq_true rfl) rfl dX4_goesOn_259 ?_
                refine J_aload_n 262 0 dX4_goesOn_262 rfl rfl ?_
                refine J_aload_n 263 0 dX4_goesOn_263 rfl rfl ?_
                refine g_100 (v := .int (nI s)) 264 0 rfl rfl dX4_goesOn_264 ?_
                refine J_iconst (v := 1) 267 dX4_goesOn_267 rfl ?_
                refine J_iadd 268 dX4_goesOn_268 ?_
                refine J_topi (y := nI (s + 1)) 269 (nI_add s 1) ?_
                refine p_101 (ws' := (wF [wTp a by_ ln s (s + 1) 3 va fa, wB G by_ 200 f])) 269 0 rfl rfl rfl (Nat.le_of_ble_eq_true rfl) rfl dX4_goesOn_269 ?_
                exact cut_272_ s (s + 1) 3 va (by first | exact tGo_e (t := (st, en, so, va, fa)) (hs.trans (fRun_ov (by omega))) (by omega) | exact tGo_l (t := (st, en, so, va, fa)) hs hsl hl (he.trans (fRun_ov (by omega))) | exact tGo_l (t := (st, en, so, va, fa)) hs hsl hl (he.trans (fRun_no (by assumption))) | exact tGo_d (t := (st, en, so, va, fa)) hs hsl hl hd (he.trans (fRun_ov (by omega))) hv.symm | exact tGo_d (t := (st, en, so, va, fa)) hs hsl hl hd (he.trans (fRun_no (by assumption))) hv.symm | exact tGo_o (t := (st, en, so, va, fa)) (hs.trans (fRun_no (by assumption))) (by omega) (by assumption) (by assumption) (if_pos (by assumption)) | exact tGo_o (t := (st, en, so, va, fa)) (hs.trans (fRun_no (by assumption))) (by omega) (by assumption) (by assumption) (if_neg (by assumption)) | (exfalso; omega))
            · skip
              refine J_aload_n 147 0 dX4_goesOn_147 rfl rfl ?_
              refine J_iconst (v := 2) 148 dX4_goesOn_148 rfl ?_
              refine p_102 (ws' := (wF [wTp a by_ ln s s 2 va fa, wB G by_ 200 f])) 149 0 rfl rfl rfl (Nat.le_of_ble_eq_true rfl) rfl dX4_goesOn_149 ?_
              refine J_aload_n 152 0 dX4_goesOn_152 rfl rfl ?_
              refine J_iconst (v := 0) 153 dX4_goesOn_153 rfl ?_
              refine p_103 (ws' := (wF [wTp a by_ ln s s 2 0 fa, wB G by_ 200 f])) 154 0 rfl rfl rfl (Nat.le_of_ble_eq_true rfl) rfl dX4_goesOn_154 ?_
              exact cut_157_ ((ln - s) + 1) s s 0 (Nat.lt_succ_self _) (by first | assumption | exact hs.trans (fRun_no (by assumption)) | (exfalso; omega)) (by first | assumption | omega | rfl) (by assumption) (by assumption) (by first | assumption | omega | rfl) (by first | assumption | omega | rfl) (by first | rfl | exact he.trans (fRun_go (by omega) (by assumption))) (by first | (rw [Nat.sub_self]; rfl) | exact fVal_st hv (by omega) (by omega) | exact fVal_sf (by omega) (by omega))
          · skip
            refine J_aload_n 88 0 dX4_goesOn_88 rfl rfl ?_
            refine J_iconst (v := 1) 89 dX4_goesOn_89 rfl ?_
            refine p_102 (ws' := (wF [wTp a by_ ln s s 1 va fa, wB G by_ 200 f])) 90 0 rfl rfl rfl (Nat.le_of_ble_eq_true rfl) rfl dX4_goesOn_90 ?_
            exact cut_93_ ((ln - s) + 1) s s (Nat.lt_succ_self _) (by first | assumption | exact hs.trans (fRun_no (by assumption)) | (exfalso; omega)) (by first | assumption | omega | rfl) (by assumption) (by first | assumption | omega | rfl) (by first | assumption | omega | rfl) (by first | rfl | exact he.trans (fRun_go (by omega) (by assumption)))
        · skip
          have c_7_ : ¬ s < ln := fun z_ => c_7_ ((nI_ltI (a := s) (b := ln) (by omega) (by omega)).mpr z_)
          refine J_aload_n 65 0 dX4_goesOn_65 rfl rfl ?_
          refine J_iconst (v := 0) 66 dX4_goesOn_66 rfl ?_
          refine p_102 (ws' := (wF [wTp a by_ ln s s 0 va fa, wB G by_ 200 f])) 67 0 rfl rfl rfl (Nat.le_of_ble_eq_true rfl) rfl dX4_goesOn_67 ?_
          refine J_goto (tgt := 272) 70 dX4_goesOn_70 (by decide) ?_
          exact cut_272_ s s 0 va (by first | exact tGo_e (t := (st, en, so, va, fa)) (hs.trans (fRun_ov (by omega))) (by omega) | exact tGo_l (t := (st, en, so, va, fa)) hs hsl hl (he.trans (fRun_ov (by omega))) | exact tGo_l (t := (st, en, so, va, fa)) hs hsl hl (he.trans (fRun_no (by assumption))) | exact tGo_d (t := (st, en, so, va, fa)) hs hsl hl hd (he.trans (fRun_ov (by omega))) hv.symm | exact tGo_d (t := (st, en, so, va, fa)) hs hsl hl hd (he.trans (fRun_no (by assumption))) hv.symm | exact tGo_o (t := (st, en, so, va, fa)) (hs.trans (fRun_no (by assumption))) (by omega) (by assumption) (by assumption) (if_pos (by assumption)) | exact tGo_o (t := (st, en, so, va, fa)) (hs.trans (fRun_no (by assumption))) (by omega) (by assumption) (by assumption) (if_neg (by assumption)) | (exfalso; omega))
      · skip
        have c_6_ : ¬ ln ≤ s := fun z_ => c_6_ ((nI_leI (a := ln) (b := s) (by omega) (by omega)).mpr z_)
        refine J_aload_n 19 0 dX4_goesOn_19 rfl rfl ?_
        refine g_97 (v := .ref by_) 20 0 rfl rfl dX4_goesOn_20 ?_
        refine J_aload_n 23 0 dX4_goesOn_23 rfl rfl ?_
        refine g_100 (v := .int (nI s)) 24 0 rfl rfl dX4_goesOn_24 ?_
        refine J_bald 27 1 s rfl rfl (by omega) (by decide) dX4_goesOn_27 ?_
        refine J_bipush (v := 32) 28 dX4_goesOn_28 rfl ?_
        refine J_icmp_ne (tgt := 46) 30 dX4_goesOn_30 (by decide) (fun c_11_ => ?_) (fun c_11_ => ?_)
        · skip
          refine J_aload_n 46 0 dX4_goesOn_46 rfl rfl ?_
          refine J_aload_n 47 0 dX4_goesOn_47 rfl rfl ?_
          refine g_100 (v := .int (nI s)) 48 0 rfl rfl dX4_goesOn_48 ?_
          refine p_101 (ws' := (wF [wTp a by_ ln s s so va fa, wB G by_ 200 f])) 51 0 rfl rfl rfl (Nat.le_of_ble_eq_true rfl) rfl dX4_goesOn_51 ?_
          refine J_aload_n 54 0 dX4_goesOn_54 rfl rfl ?_
          refine g_100 (v := .int (nI s)) 55 0 rfl rfl dX4_goesOn_55 ?_
          refine J_aload_n 58 0 dX4_goesOn_58 rfl rfl ?_
          refine g_98 (v := .int (nI ln)) 59 0 rfl rfl dX4_goesOn_59 ?_
          refine J_icmp_lt (tgt := 73) 62 dX4_goesOn_62 (by decide) (fun c_12_ => ?_) (fun c_12_ => ?_)
          · skip
            have c_12_ : s < ln := (nI_ltI (a := s) (b := ln) (by omega) (by omega)).mp c_12_
            refine J_aload_n 73 0 dX4_goesOn_73 rfl rfl ?_
            refine g_97 (v := .ref by_) 74 0 rfl rfl dX4_goesOn_74 ?_
            refine J_aload_n 77 0 dX4_goesOn_77 rfl rfl ?_
            refine g_100 (v := .int (nI s)) 78 0 rfl rfl dX4_goesOn_78 ?_
            refine J_bald 81 1 s rfl rfl (by omega) (by decide) dX4_goesOn_81 ?_
            refine kb_RX4_105 (bs' := [wTp a by_ ln s s so va fa, wB G by_ 200 f]) (rest := []) (st' := [.int (bI (97 ≤ (f s) ∧ (f s) ≤ 122))]) 82 (c_X4_isLetter l G (f s) ) [] rfl rfl [] rfl rfl rfl rfl rfl rfl (Nat.le_of_ble_eq_true rfl) rfl dX4_goesOn_82 ?_
            refine J_ifB_eq (tgt := 132) 85 dX4_goesOn_85 (by decide) (fun c_13_ => ?_) (fun c_13_ => ?_)
            · skip
              refine J_aload_n 132 0 dX4_goesOn_132 rfl rfl ?_
              refine g_97 (v := .ref by_) 133 0 rfl rfl dX4_goesOn_133 ?_
              refine J_aload_n 136 0 dX4_goesOn_136 rfl rfl ?_
              refine g_100 (v := .int (nI s)) 137 0 rfl rfl dX4_goesOn_137 ?_
              refine J_bald 140 1 s rfl rfl (by omega) (by decide) dX4_goesOn_140 ?_
              refine kb_RX4_109 (bs' := [wTp a by_ ln s s so va fa, wB G by_ 200 f]) (rest := []) (st' := [.int (bI (48 ≤ (f s) ∧ (f s) ≤ 57))]) 141 (c_X4_isDigit l G (f s) ) [] rfl rfl [] rfl rfl rfl rfl rfl rfl (Nat.le_of_ble_eq_true rfl) rfl dX4_goesOn_141 ?_
              refine J_ifB_eq (tgt := 239) 144 dX4_goesOn_144 (by decide) (fun c_14_ => ?_) (fun c_14_ => ?_)
              · skip
                refine J_aload_n 239 0 dX4_goesOn_239 rfl rfl ?_
                refine J_aload_n 240 0 dX4_goesOn_240 rfl rfl ?_
                refine g_97 (v := .ref by_) 241 0 rfl rfl dX4_goesOn_241 ?_
                refine J_aload_n 244 0 dX4_goesOn_244 rfl rfl ?_
                refine g_100 (v := .int (nI s)) 245 0 rfl rfl dX4_goesOn_245 ?_
                refine J_bald 248 1 s rfl rfl (by omega) (by decide) dX4_goesOn_248 ?_
                refine J_bipush (v := 59) 249 dX4_goesOn_249 rfl ?_
                refine J_icmp_ne (tgt := 258) 251 dX4_goesOn_251 (by decide) (fun c_15_ => ?_) (fun c_15_ => ?_)
                · skip
                  refine J_iconst (v := 4) 258 dX4_goesOn_258 rfl ?_
                  refine p_102 (ws' := (wF [wTp a by_ ln s s 4 va fa, wB G by_ 200 f])) 259 0 rfl rfl rfl (Nat.le_of_ble_eq_true rfl) rfl dX4_goesOn_259 ?_
                  refine J_aload_n 262 0 dX4_goesOn_262 rfl rfl ?_
                  refine J_aload_n 263 0 dX4_goesOn_263 rfl rfl ?_
                  refine g_100 (v := .int (nI s)) 264 0 rfl rfl dX4_goesOn_264 ?_
                  refine J_iconst (v := 1) 267 dX4_goesOn_267 rfl ?_
                  refine J_iadd 268 dX4_goesOn_268 ?_
                  refine J_topi (y := nI (s + 1)) 269 (nI_add s 1) ?_
                  refine p_101 (ws' := (wF [wTp a by_ ln s (s + 1) 4 va fa, wB G by_ 200 f])) 269 0 rfl rfl rfl (Nat.le_of_ble_eq_true rfl) rfl dX4_goesOn_269 ?_
                  exact cut_272_ s (s + 1) 4 va (by first | exact tGo_e (t := (st, en, so, va, fa)) (hs.trans (fRun_ov (by omega))) (by omega) | exact tGo_l (t := (st, en, so, va, fa)) hs hsl hl (he.trans (fRun_ov (by omega))) | exact tGo_l (t := (st, en, so, va, fa)) hs hsl hl (he.trans (fRun_no (by assumption))) | exact tGo_d (t := (st, en, so, va, fa)) hs hsl hl hd (he.trans (fRun_ov (by omega))) hv.symm | exact tGo_d (t := (st, en, so, va, fa)) hs hsl hl hd (he.trans (fRun_no (by assumption))) hv.symm | exact tGo_o (t := (st, en, so, va, fa)) (hs.trans (fRun_no (by assumption))) (by omega) (by assumption) (by assumption) (if_pos (by assumption)) | exact tGo_o (t := (st, en, so, va, fa)) (hs.trans (fRun_no (by assumption))) (by omega) (by assumption) (by assumption) (if_neg (by assumption)) | (exfalso; omega))
                · skip
                  refine J_iconst (v := 3) 254 dX4_goesOn_254 rfl ?_
                  refine J_goto (tgt := 259) 255 dX4_goesOn_255 (by decide) ?_
                  refine p_102 (ws' := (wF [wTp a by_ ln s s 3 va fa, wB G by_ 200 f])) 259 0 rfl rfl rfl (Nat.le_of_ble_eq_true rfl) rfl dX4_goesOn_259 ?_
                  refine J_aload_n 262 0 dX4_goesOn_262 rfl rfl ?_
                  refine J_aload_n 263 0 dX4_goesOn_263 rfl rfl ?_
                  refine g_100 (v := .int (nI s)) 264 0 rfl rfl dX4_goesOn_264 ?_
                  refine J_iconst (v := 1) 267 dX4_goesOn_267 rfl ?_
                  refine J_iadd 268 dX4_goesOn_268 ?_
                  refine J_topi (y := nI (s + 1)) 269 (nI_add s 1) ?_
                  refine p_101 (ws' := (wF [wTp a by_ ln s (s + 1) 3 va fa, wB G by_ 200 f])) 269 0 rfl rfl rfl (Nat.le_of_ble_eq_true rfl) rfl dX4_goesOn_269 ?_
                  exact cut_272_ s (s + 1) 3 va (by first | exact tGo_e (t := (st, en, so, va, fa)) (hs.trans (fRun_ov (by omega))) (by omega) | exact tGo_l (t := (st, en, so, va, fa)) hs hsl hl (he.trans (fRun_ov (by omega))) | exact tGo_l (t := (st, en, so, va, fa)) hs hsl hl (he.trans (fRun_no (by assumption))) | exact tGo_d (t := (st, en, so, va, fa)) hs hsl hl hd (he.trans (fRun_ov (by omega))) hv.symm | exact tGo_d (t := (st, en, so, va, fa)) hs hsl hl hd (he.trans (fRun_no (by assumption))) hv.symm | exact tGo_o (t := (st, en, so, va, fa)) (hs.trans (fRun_no (by assumption))) (by omega) (by assumption) (by assumption) (if_pos (by assumption)) | exact tGo_o (t := (st, en, so, va, fa)) (hs.trans (fRun_no (by assumption))) (by omega) (by assumption) (by assumption) (if_neg (by assumption)) | (exfalso; omega))
              · skip
                refine J_aload_n 147 0 dX4_goesOn_147 rfl rfl ?_
                refine J_iconst (v := 2) 148 dX4_goesOn_148 rfl ?_
                refine p_102 (ws' := (wF [wTp a by_ ln s s 2 va fa, wB G by_ 200 f])) 149 0 rfl rfl rfl (Nat.le_of_ble_eq_true rfl) rfl dX4_goesOn_149 ?_
                refine J_aload_n 152 0 dX4_goesOn_152 rfl rfl ?_
                refine J_iconst (v := 0) 153 dX4_goesOn_153 rfl ?_
                refine p_103 (ws' := (wF [wTp a by_ ln s s 2 0 fa, wB G by_ 200 f])) 154 0 rfl rfl rfl (Nat.le_of_ble_eq_true rfl) rfl dX4_goesOn_154 ?_
                exact cut_157_ ((ln - s) + 1) s s 0 (Nat.lt_succ_self _) (by first | assumption | exact hs.trans (fRun_no (by assumption)) | (exfalso; omega)) (by first | assumption | omega | rfl) (by assumption) (by assumption) (by first | assumption | omega | rfl) (by first | assumption | omega | rfl) (by first | rfl | exact he.trans (fRun_go (by omega) (by assumption))) (by first | (rw [Nat.sub_self]; rfl) | exact fVal_st hv (by omega) (by omega) | exact fVal_sf (by omega) (by omega))
            · skip
              refine J_aload_n 88 0 dX4_goesOn_88 rfl rfl ?_
              refine J_iconst (v := 1) 89 dX4_goesOn_89 rfl ?_
              refine p_102 (ws' := (wF [wTp a by_ ln s s 1 va fa, wB G by_ 200 f])) 90 0 rfl rfl rfl (Nat.le_of_ble_eq_true rfl) rfl dX4_goesOn_90 ?_
              exact cut_93_ ((ln - s) + 1) s s (Nat.lt_succ_self _) (by first | assumption | exact hs.trans (fRun_no (by assumption)) | (exfalso; omega)) (by first | assumption | omega | rfl) (by assumption) (by first | assumption | omega | rfl) (by first | assumption | omega | rfl) (by first | rfl | exact he.trans (fRun_go (by omega) (by assumption)))
          · skip
            have c_12_ : ¬ s < ln := fun z_ => c_12_ ((nI_ltI (a := s) (b := ln) (by omega) (by omega)).mpr z_)
            refine J_aload_n 65 0 dX4_goesOn_65 rfl rfl ?_
            refine J_iconst (v := 0) 66 dX4_goesOn_66 rfl ?_
            refine p_102 (ws' := (wF [wTp a by_ ln s s 0 va fa, wB G by_ 200 f])) 67 0 rfl rfl rfl (Nat.le_of_ble_eq_true rfl) rfl dX4_goesOn_67 ?_
            refine J_goto (tgt := 272) 70 dX4_goesOn_70 (by decide) ?_
            exact cut_272_ s s 0 va (by first | exact tGo_e (t := (st, en, so, va, fa)) (hs.trans (fRun_ov (by omega))) (by omega) | exact tGo_l (t := (st, en, so, va, fa)) hs hsl hl (he.trans (fRun_ov (by omega))) | exact tGo_l (t := (st, en, so, va, fa)) hs hsl hl (he.trans (fRun_no (by assumption))) | exact tGo_d (t := (st, en, so, va, fa)) hs hsl hl hd (he.trans (fRun_ov (by omega))) hv.symm | exact tGo_d (t := (st, en, so, va, fa)) hs hsl hl hd (he.trans (fRun_no (by assumption))) hv.symm | exact tGo_o (t := (st, en, so, va, fa)) (hs.trans (fRun_no (by assumption))) (by omega) (by assumption) (by assumption) (if_pos (by assumption)) | exact tGo_o (t := (st, en, so, va, fa)) (hs.trans (fRun_no (by assumption))) (by omega) (by assumption) (by assumption) (if_neg (by assumption)) | (exfalso; omega))
        · skip
          refine J_aload_n 33 0 dX4_goesOn_33 rfl rfl ?_
          refine J_dup 34 dX4_goesOn_34 rfl ?_
          refine g_100 (v := .int (nI s)) 35 0 rfl rfl dX4_goesOn_35 ?_
          refine J_iconst (v := 1) 38 dX4_goesOn_38 rfl ?_
          refine J_iadd 39 dX4_goesOn_39 ?_
          refine J_topi (y := nI (s + 1)) 40 (nI_add s 1) ?_
          refine p_100 (ws' := (wF [wTp a by_ ln (s + 1) en so va fa, wB G by_ 200 f])) 40 0 rfl rfl rfl (Nat.le_of_ble_eq_true rfl) rfl dX4_goesOn_40 ?_
          refine J_goto (tgt := 8) 43 dX4_goesOn_43 (by decide) ?_
          exact ih_8_ (s + 1) (by omega) (by first | assumption | omega | rfl) (by first | assumption | omega | rfl) (by first | rfl | exact hs.trans (fRun_go (by omega) (by assumption)))
  refine J_aload_n 0 0 dX4_goesOn_0 rfl rfl ?_
  refine J_aload_n 1 0 dX4_goesOn_1 rfl rfl ?_
  refine g_101 (v := .int (nI en)) 2 0 rfl rfl dX4_goesOn_2 ?_
  refine p_100 (ws' := (wF [wTp a by_ ln en en so va fa, wB G by_ 200 f])) 5 0 rfl rfl rfl (Nat.le_of_ble_eq_true rfl) rfl dX4_goesOn_5 ?_
  exact cut_8_ ((ln - en) + 1) en (Nat.lt_succ_self _) (by first | assumption | omega | rfl) (by first | assumption | omega | rfl) (by first | rfl | exact hs.trans (fRun_go (by omega) (by assumption)))
set_option maxRecDepth 100000 in
set_option maxHeartbeats 4000000 in
theorem c_X4_isName (l : Launch) (G : Gd) (i : Nat) (a : Nat) (by_ : Nat) (ln : Nat) (st : Nat) (en : Nat) (so : Int32) (va : Int32) (fa : Int32) (f : Nat → Int32) (hi : i < 15) (hse : st ≤ en) (hen : en ≤ ln) (hln : ln ≤ 200) : Ct l G yX4_isName cX4_isName 3 (some (FieldType.boolean)) 4 [.ref a, .ref (G.2.2 (10 + i))] (wF [wTp a by_ ln st en so va fa, wB G by_ 200 f]) (some (.int (bI (tNam f i st en so)))) (wF [wTp a by_ ln st en so va fa, wB G by_ 200 f]) := by
  refine Ct.of "GooseArms$Tape" [some (.ref a), some (.ref (G.2.2 (10 + i))), none] (by decide +kernel) rfl (Nat.le_of_ble_eq_true rfl) rfl ?_
  have hK_ := kSl_ok i hi
  have cut_28_ : ∀ (n_28_ : Nat) (k : Nat), (kSl.getD i 0 - k < n_28_) → (hk : k ≤ kSl.getD i 0) → (hall : ∀ j, j < k → f (st + j) = ch i j) → (hs1 : so = 1) → (hl1 : en - st = kSl.getD i 0) → J l G (bd G 4 (some (FieldType.boolean)) (some (.int (bI (tNam f i st en so)))) (wF [wTp a by_ ln st en so va fa, wB G by_ 200 f])) cX4_isName 3 "GooseArms$Tape" 28 [some (.ref a), some (.ref (G.2.2 (10 + i))), some (.int (nI k))] [] (wF [wTp a by_ ln st en so va fa, wB G by_ 200 f]) := by
    intro n_28_
    induction n_28_ with
    | zero => intro k m_28_; exact absurd m_28_ (Nat.not_lt_zero _)
    | succ n_28_ ih_28_ =>
      intro k m_28_ hk hall hs1 hl1
      refine J_iload_n 28 2 dX4_isName_28 rfl rfl ?_
      refine J_aload_n 29 1 dX4_isName_29 rfl rfl ?_
      refine J_callS0 (rest := [.int (nI k)]) (st' := [.int (nI (kSl.getD i 0)), .int (nI k)]) 30 (by omega) rfl (c_length l G i (by omega)) w_279 w_280 w_281 w_9 w_282 okY_length rfl rfl rfl (Nat.le_of_ble_eq_true rfl) rfl dX4_isName_30 ?_
      refine J_icmp_ge (tgt := 63) 33 dX4_isName_33 (by decide) (fun c_1_ => ?_) (fun c_1_ => ?_)
      · skip
        have c_1_ : (kSl.getD i 0) ≤ k := (nI_leI (a := (kSl.getD i 0)) (b := k) (by omega) (by omega)).mp c_1_
        refine J_iconst (v := 1) 63 dX4_isName_63 rfl ?_
        exact J_zret 64 rfl dX4_isName_64 (congrArg (fun x_ => some (Value.int x_)) (bI_t ⟨hs1, hl1, fun j hj => hall j (by omega)⟩).symm) rfl
      · skip
        have c_1_ : ¬ (kSl.getD i 0) ≤ k := fun z_ => c_1_ ((nI_leI (a := (kSl.getD i 0)) (b := k) (by omega) (by omega)).mpr z_)
        refine J_aload_n 36 0 dX4_isName_36 rfl rfl ?_
        refine g_97 (v := .ref by_) 37 0 rfl rfl dX4_isName_37 ?_
        refine J_aload_n 40 0 dX4_isName_40 rfl rfl ?_
        refine g_100 (v := .int (nI st)) 41 0 rfl rfl dX4_isName_41 ?_
        refine J_iload_n 44 2 dX4_isName_44 rfl rfl ?_
        refine J_iadd 45 dX4_isName_45 ?_
        refine J_topi (y := nI (st + k)) 46 (nI_add st k) ?_
        refine J_bald 46 1 (st + k) rfl rfl (by omega) (by decide) dX4_isName_46 ?_
        refine J_aload_n 47 1 dX4_isName_47 rfl rfl ?_
        refine J_iload_n 48 2 dX4_isName_48 rfl rfl ?_
        refine J_callS0 (rest := [.int (f (st + k))]) (st' := [.int (ch i k), .int (f (st + k))]) 49 (by omega) rfl (c_charAt l G i k (by omega) (by omega)) w_289 w_290 w_291 w_9 w_292 okY_charAt rfl rfl rfl (Nat.le_of_ble_eq_true rfl) rfl dX4_isName_49 ?_
        refine J_icmp_eq (tgt := 57) 52 dX4_isName_52 (by decide) (fun c_2_ => ?_) (fun c_2_ => ?_)
        · skip
          refine J_iinc (v := nI (k + 1)) (lv' := [some (.ref a), some (.ref (G.2.2 (10 + i))), some (.int (nI (k + 1)))]) 57 dX4_isName_57 rfl (nI_add _ 1) (by decide) rfl ?_
          refine J_goto (tgt := 28) 60 dX4_isName_60 (by decide) ?_
          exact ih_28_ (k + 1) (by omega) (by first | assumption | omega | rfl) (by first | exact (fun j hj => absurd hj (Nat.not_lt_zero _)) | exact lt_s hall (by assumption)) (by first | assumption | omega | rfl) (by first | assumption | omega | rfl)
        · skip
          refine J_iconst (v := 0) 55 dX4_isName_55 rfl ?_
          exact J_zret 56 rfl dX4_isName_56 (congrArg (fun x_ => some (Value.int x_)) (bI_f (fun z_ => absurd (z_.2.2 k (by omega)) (by assumption))).symm) rfl
  refine J_aload_n 0 0 dX4_isName_0 rfl rfl ?_
  refine g_102 (v := .int so) 1 0 rfl rfl dX4_isName_1 ?_
  refine J_iconst (v := 1) 4 dX4_isName_4 rfl ?_
  refine J_icmp_ne (tgt := 24) 5 dX4_isName_5 (by decide) (fun c_3_ => ?_) (fun c_3_ => ?_)
  · skip
    refine J_iconst (v := 0) 24 dX4_isName_24 rfl ?_
    exact J_zret 25 rfl dX4_isName_25 (congrArg (fun x_ => some (Value.int x_)) (bI_f (fun z_ => by first | exact absurd z_.1 (by assumption) | exact absurd z_.2.1 (by assumption))).symm) rfl
  · skip
    refine J_aload_n 8 0 dX4_isName_8 rfl rfl ?_
    refine g_101 (v := .int (nI en)) 9 0 rfl rfl dX4_isName_9 ?_
    refine J_aload_n 12 0 dX4_isName_12 rfl rfl ?_
    refine g_100 (v := .int (nI st)) 13 0 rfl rfl dX4_isName_13 ?_
    refine J_isub 16 dX4_isName_16 ?_
    refine J_topi (y := nI (en - st)) 17 (pk_sub hse) ?_
    refine J_aload_n 17 1 dX4_isName_17 rfl rfl ?_
    refine J_callS0 (rest := [.int (nI (en - st))]) (st' := [.int (nI (kSl.getD i 0)), .int (nI (en - st))]) 18 (by omega) rfl (c_length l G i (by omega)) w_279 w_280 w_281 w_9 w_282 okY_length rfl rfl rfl (Nat.le_of_ble_eq_true rfl) rfl dX4_isName_18 ?_
    refine J_icmp_eq (tgt := 26) 21 dX4_isName_21 (by decide) (fun c_4_ => ?_) (fun c_4_ => ?_)
    · skip
      have c_4_ : (en - st) = (kSl.getD i 0) := (nI_eq (a := (en - st)) (b := (kSl.getD i 0)) (by omega) (by omega)).mp c_4_
      refine J_iconst (v := 0) 26 dX4_isName_26 rfl ?_
      refine J_istore_n (lv' := [some (.ref a), some (.ref (G.2.2 (10 + i))), some (.int 0)]) 27 2 dX4_isName_27 rfl (by decide) rfl ?_
      exact cut_28_ ((kSl.getD i 0 - 0) + 1) 0 (Nat.lt_succ_self _) (by first | assumption | omega | rfl) (by first | exact (fun j hj => absurd hj (Nat.not_lt_zero _)) | exact lt_s hall (by assumption)) (by first | assumption | omega | rfl) (by first | assumption | omega | rfl)
    · skip
      have c_4_ : ¬ (en - st) = (kSl.getD i 0) := fun z_ => c_4_ ((nI_eq (a := (en - st)) (b := (kSl.getD i 0)) (by omega) (by omega)).mpr z_)
      refine J_iconst (v := 0) 24 dX4_isName_24 rfl ?_
      exact J_zret 25 rfl dX4_isName_25 (congrArg (fun x_ => some (Value.int x_)) (bI_f (fun z_ => by first | exact absurd z_.1 (by assumption) | exact absurd z_.2.1 (by assumption))).symm) rfl
set_option maxRecDepth 100000 in
set_option maxHeartbeats 4000000 in
theorem c_X4_fails (l : Launch) (G : Gd) (a : Nat) (by_ : Nat) (ln : Nat) (st : Nat) (en : Nat) (so : Int32) (va : Int32) (fa : Int32)  : Ct l G yX4_fails cX4_fails 1 none 0 [.ref a] (wF [wTp a by_ ln st en so va fa]) none (wF [wTp a by_ ln st en so va (fFl st fa)]) := by
  refine Ct.of "GooseArms$Tape" [some (.ref a)] (by decide +kernel) rfl (Nat.le_of_ble_eq_true rfl) rfl ?_
  refine J_aload_n 0 0 dX4_fails_0 rfl rfl ?_
  refine g_104 (v := .int fa) 1 0 rfl rfl dX4_fails_1 ?_
  refine J_if_ge (tgt := 15) 4 dX4_fails_4 (by decide) (fun c_1_ => ?_) (fun c_1_ => ?_)
  · skip
    exact J_vret 15 dX4_fails_15 rfl (cg1 (fun (x0_ : Int32) => (wF [wTp a by_ ln st en so va x0_])) fa (fFl st fa) (by unfold fFl; first | exact (if_neg (Int32.not_lt.mpr (by assumption))).symm | exact (if_pos (Int32.not_le.mp (by assumption))).symm))
  · skip
    refine J_aload_n 7 0 dX4_fails_7 rfl rfl ?_
    refine J_aload_n 8 0 dX4_fails_8 rfl rfl ?_
    refine g_100 (v := .int (nI st)) 9 0 rfl rfl dX4_fails_9 ?_
    refine p_104 (ws' := (wF [wTp a by_ ln st en so va (nI st)])) 12 0 rfl rfl rfl (Nat.le_of_ble_eq_true rfl) rfl dX4_fails_12 ?_
    exact J_vret 15 dX4_fails_15 rfl (cg1 (fun (x0_ : Int32) => (wF [wTp a by_ ln st en so va x0_])) (nI st) (fFl st fa) (by unfold fFl; first | exact (if_neg (Int32.not_lt.mpr (by assumption))).symm | exact (if_pos (Int32.not_le.mp (by assumption))).symm))
set_option maxRecDepth 100000 in
set_option maxHeartbeats 4000000 in
theorem c_X4_number (l : Launch) (G : Gd) (most : Int32) (a : Nat) (by_ : Nat) (ln : Nat) (st : Nat) (en : Nat) (so : Int32) (va : Int32) (fa : Int32) (f : Nat → Int32) (hen : en ≤ ln) (hln : ln ≤ 200) (hse : st ≤ en) : Ct l G yX4_number cX4_number 3 (some (FieldType.int)) 2 [.ref a, .int most] (wF [wTp a by_ ln st en so va fa, wB G by_ 200 f]) (some (.int ((tNum f ln most (st, en, so, va, fa)).1))) (wF [wTp a by_ ln ((tNum f ln most (st, en, so, va, fa)).2.1) ((tNum f ln most (st, en, so, va, fa)).2.2.1) ((tNum f ln most (st, en, so, va, fa)).2.2.2.1) ((tNum f ln most (st, en, so, va, fa)).2.2.2.2.1) ((tNum f ln most (st, en, so, va, fa)).2.2.2.2.2), wB G by_ 200 f]) := by
  refine Ct.of "GooseArms$Tape" [some (.ref a), some (.int most), none] (by decide +kernel) rfl (Nat.le_of_ble_eq_true rfl) rfl ?_
  refine J_aload_n 0 0 dX4_number_0 rfl rfl ?_
  refine g_102 (v := .int so) 1 0 rfl rfl dX4_number_1 ?_
  refine J_iconst (v := 2) 4 dX4_number_4 rfl ?_
  refine J_icmp_ne (tgt := 16) 5 dX4_number_5 (by decide) (fun c_1_ => ?_) (fun c_1_ => ?_)
  · skip
    refine J_aload_n 16 0 dX4_number_16 rfl rfl ?_
    refine kb_RX4_74 (bs' := [wTp a by_ ln st en so va (fFl st fa), wB G by_ 200 f]) (rest := []) (st' := []) 17 (c_X4_fails l G a by_ ln st en so va fa ) [0] 0 rfl rfl rfl [[a]] rfl rfl rfl rfl rfl rfl (Nat.le_of_ble_eq_true rfl) rfl dX4_number_17 ?_
    refine J_iconst (v := 0) 20 dX4_number_20 rfl ?_
    have hN_ : tNum f ln most (st, en, so, va, fa) = (0, st, en, so, va, fFl st fa) := if_neg (fun z_ => by first | exact absurd z_.1 (by assumption) | exact absurd z_.2 (by assumption))
    exact J_iret 21 dX4_number_21 (congrArg (fun x_ => some (Value.int x_)) (by rw [hN_])) (cg5 (fun (x0_ : Nat) (x1_ : Nat) (x2_ : Int32) (x3_ : Int32) (x4_ : Int32) => (wF [wTp a by_ ln x0_ x1_ x2_ x3_ x4_, wB G by_ 200 f])) st ((tNum f ln most (st, en, so, va, fa)).2.1) en ((tNum f ln most (st, en, so, va, fa)).2.2.1) so ((tNum f ln most (st, en, so, va, fa)).2.2.2.1) va ((tNum f ln most (st, en, so, va, fa)).2.2.2.2.1) (fFl st fa) ((tNum f ln most (st, en, so, va, fa)).2.2.2.2.2) (by rw [hN_]) (by rw [hN_]) (by rw [hN_]) (by rw [hN_]) (by rw [hN_]))
  · skip
    refine J_aload_n 8 0 dX4_number_8 rfl rfl ?_
    refine g_103 (v := .int va) 9 0 rfl rfl dX4_number_9 ?_
    refine J_iload_n 12 1 dX4_number_12 rfl rfl ?_
    refine J_icmp_le (tgt := 22) 13 dX4_number_13 (by decide) (fun c_2_ => ?_) (fun c_2_ => ?_)
    · skip
      refine J_aload_n 22 0 dX4_number_22 rfl rfl ?_
      refine g_103 (v := .int va) 23 0 rfl rfl dX4_number_23 ?_
      refine J_istore_n (lv' := [some (.ref a), some (.int most), some (.int va)]) 26 2 dX4_number_26 rfl (by decide) rfl ?_
      refine J_aload_n 27 0 dX4_number_27 rfl rfl ?_
      refine kb_RX4_34 (bs' := [wTp a by_ ln ((tGo f ln (st, en, so, va, fa)).1) ((tGo f ln (st, en, so, va, fa)).2.1) ((tGo f ln (st, en, so, va, fa)).2.2.1) ((tGo f ln (st, en, so, va, fa)).2.2.2.1) ((tGo f ln (st, en, so, va, fa)).2.2.2.2), wB G by_ 200 f]) (rest := []) (st' := []) 28 (c_X4_goesOn l G a by_ ln st en so va fa f (by omega) (by omega)) [0, 1] 0 rfl rfl rfl [[a], [by_]] rfl rfl rfl rfl rfl rfl (Nat.le_of_ble_eq_true rfl) rfl dX4_number_28 ?_
      obtain ⟨⟨st_28, en_28, so_28, va_28, fa_28⟩, hT_28⟩ : ∃ t_, tGo f ln (st, en, so, va, fa) = t_ := ⟨_, rfl⟩
      refine J_ws (ws' := (wF [wTp a by_ ln st_28 en_28 so_28 va_28 fa_28, wB G by_ 200 f])) 31 (by rw [hT_28]) ?_
      have hle_28 := tGo_le hT_28 (by first | omega | (dsimp only; omega))
      refine J_iload_n 31 2 dX4_number_31 rfl rfl ?_
      have hN_ : tNum f ln most (st, en, so, va, fa) = (va, st_28, en_28, so_28, va_28, fa_28) := (if_pos ⟨by assumption, by assumption⟩).trans (by rw [hT_28])
      exact J_iret 32 dX4_number_32 (congrArg (fun x_ => some (Value.int x_)) (by rw [hN_])) (cg5 (fun (x0_ : Nat) (x1_ : Nat) (x2_ : Int32) (x3_ : Int32) (x4_ : Int32) => (wF [wTp a by_ ln x0_ x1_ x2_ x3_ x4_, wB G by_ 200 f])) st_28 ((tNum f ln most (st, en, so, va, fa)).2.1) en_28 ((tNum f ln most (st, en, so, va, fa)).2.2.1) so_28 ((tNum f ln most (st, en, so, va, fa)).2.2.2.1) va_28 ((tNum f ln most (st, en, so, va, fa)).2.2.2.2.1) fa_28 ((tNum f ln most (st, en, so, va, fa)).2.2.2.2.2) (by rw [hN_]) (by rw [hN_]) (by rw [hN_]) (by rw [hN_]) (by rw [hN_]))
    · skip
      refine J_aload_n 16 0 dX4_number_16 rfl rfl ?_
      refine kb_RX4_74 (bs' := [wTp a by_ ln st en so va (fFl st fa), wB G by_ 200 f]) (rest := []) (st' := []) 17 (c_X4_fails l G a by_ ln st en so va fa ) [0] 0 rfl rfl rfl [[a]] rfl rfl rfl rfl rfl rfl (Nat.le_of_ble_eq_true rfl) rfl dX4_number_17 ?_
      refine J_iconst (v := 0) 20 dX4_number_20 rfl ?_
      have hN_ : tNum f ln most (st, en, so, va, fa) = (0, st, en, so, va, fFl st fa) := if_neg (fun z_ => by first | exact absurd z_.1 (by assumption) | exact absurd z_.2 (by assumption))
      exact J_iret 21 dX4_number_21 (congrArg (fun x_ => some (Value.int x_)) (by rw [hN_])) (cg5 (fun (x0_ : Nat) (x1_ : Nat) (x2_ : Int32) (x3_ : Int32) (x4_ : Int32) => (wF [wTp a by_ ln x0_ x1_ x2_ x3_ x4_, wB G by_ 200 f])) st ((tNum f ln most (st, en, so, va, fa)).2.1) en ((tNum f ln most (st, en, so, va, fa)).2.2.1) so ((tNum f ln most (st, en, so, va, fa)).2.2.2.1) va ((tNum f ln most (st, en, so, va, fa)).2.2.2.2.1) (fFl st fa) ((tNum f ln most (st, en, so, va, fa)).2.2.2.2.2) (by rw [hN_]) (by rw [hN_]) (by rw [hN_]) (by rw [hN_]) (by rw [hN_]))
set_option maxRecDepth 100000 in
set_option maxHeartbeats 4000000 in
theorem c_X4_numberAfter (l : Launch) (G : Gd) (i : Nat) (most : Int32) (wo : Int32) (a : Nat) (by_ : Nat) (ln : Nat) (st : Nat) (en : Nat) (so : Int32) (va : Int32) (fa : Int32) (f : Nat → Int32) (hi : i < 15) (hen : en ≤ ln) (hln : ln ≤ 200) (hse : st ≤ en) : Ct l G yX4_numberAfter cX4_numberAfter 4 (some (FieldType.int)) 5 [.ref a, .ref (G.2.2 (10 + i)), .int most, .int wo] (wF [wTp a by_ ln st en so va fa, wB G by_ 200 f]) (some (.int ((tNuA f ln i most wo (st, en, so, va, fa)).1))) (wF [wTp a by_ ln ((tNuA f ln i most wo (st, en, so, va, fa)).2.1) ((tNuA f ln i most wo (st, en, so, va, fa)).2.2.1) ((tNuA f ln i most wo (st, en, so, va, fa)).2.2.2.1) ((tNuA f ln i most wo (st, en, so, va, fa)).2.2.2.2.1) ((tNuA f ln i most wo (st, en, so, va, fa)).2.2.2.2.2), wB G by_ 200 f]) := by
  refine Ct.of "GooseArms$Tape" [some (.ref a), some (.ref (G.2.2 (10 + i))), some (.int most), some (.int wo)] (by decide +kernel) rfl (Nat.le_of_ble_eq_true rfl) rfl ?_
  refine J_aload_n 0 0 dX4_numberAfter_0 rfl rfl ?_
  refine J_aload_n 1 1 dX4_numberAfter_1 rfl rfl ?_
  refine kb_RX4_50 (bs' := [wTp a by_ ln st en so va fa, wB G by_ 200 f]) (rest := []) (st' := [.int (bI (tNam f i st en so))]) 2 (c_X4_isName l G i a by_ ln st en so va fa f (by omega) (by omega) (by omega) (by omega)) [0, 1] 0 rfl rfl rfl [[a], [by_]] rfl rfl rfl rfl rfl rfl (Nat.le_of_ble_eq_true rfl) rfl dX4_numberAfter_2 ?_
  refine J_ifB_ne (tgt := 10) 5 dX4_numberAfter_5 (by decide) (fun c_1_ => ?_) (fun c_1_ => ?_)
  · skip
    refine J_aload_n 10 0 dX4_numberAfter_10 rfl rfl ?_
    refine kb_RX4_34 (bs' := [wTp a by_ ln ((tGo f ln (st, en, so, va, fa)).1) ((tGo f ln (st, en, so, va, fa)).2.1) ((tGo f ln (st, en, so, va, fa)).2.2.1) ((tGo f ln (st, en, so, va, fa)).2.2.2.1) ((tGo f ln (st, en, so, va, fa)).2.2.2.2), wB G by_ 200 f]) (rest := []) (st' := []) 11 (c_X4_goesOn l G a by_ ln st en so va fa f (by omega) (by omega)) [0, 1] 0 rfl rfl rfl [[a], [by_]] rfl rfl rfl rfl rfl rfl (Nat.le_of_ble_eq_true rfl) rfl dX4_numberAfter_11 ?_
    obtain ⟨⟨st_11, en_11, so_11, va_11, fa_11⟩, hT_11⟩ : ∃ t_, tGo f ln (st, en, so, va, fa) = t_ := ⟨_, rfl⟩
    refine J_ws (ws' := (wF [wTp a by_ ln st_11 en_11 so_11 va_11 fa_11, wB G by_ 200 f])) 14 (by rw [hT_11]) ?_
    have hle_11 := tGo_le hT_11 (by first | omega | (dsimp only; omega))
    refine J_aload_n 14 0 dX4_numberAfter_14 rfl rfl ?_
    refine J_iload_n 15 2 dX4_numberAfter_15 rfl rfl ?_
    refine kb_RX4_70 (bs' := [wTp a by_ ln ((tNum f ln most (st_11, en_11, so_11, va_11, fa_11)).2.1) ((tNum f ln most (st_11, en_11, so_11, va_11, fa_11)).2.2.1) ((tNum f ln most (st_11, en_11, so_11, va_11, fa_11)).2.2.2.1) ((tNum f ln most (st_11, en_11, so_11, va_11, fa_11)).2.2.2.2.1) ((tNum f ln most (st_11, en_11, so_11, va_11, fa_11)).2.2.2.2.2), wB G by_ 200 f]) (rest := []) (st' := [.int ((tNum f ln most (st_11, en_11, so_11, va_11, fa_11)).1)]) 16 (c_X4_number l G most a by_ ln st_11 en_11 so_11 va_11 fa_11 f (by omega) (by omega) (by omega)) [0, 1] 0 rfl rfl rfl [[a], [by_]] rfl rfl rfl rfl rfl rfl (Nat.le_of_ble_eq_true rfl) rfl dX4_numberAfter_16 ?_
    obtain ⟨⟨rv_16, st_16, en_16, so_16, va_16, fa_16⟩, hT_16⟩ : ∃ t_, tNum f ln most (st_11, en_11, so_11, va_11, fa_11) = t_ := ⟨_, rfl⟩
    refine J_ws (ws' := (wF [wTp a by_ ln st_16 en_16 so_16 va_16 fa_16, wB G by_ 200 f])) 19 (by rw [hT_16]) ?_
    refine J_st (st' := [.int rv_16]) 19 (by rw [hT_16]) ?_
    have hle_16 := tNum_le hT_16 (by first | omega | (dsimp only; omega)) (by first | omega | (dsimp only; omega))
    have hN_ : tNuA f ln i most wo (st, en, so, va, fa) = (rv_16, st_16, en_16, so_16, va_16, fa_16) := (cif_t (by assumption)).trans (by rw [hT_11, hT_16])
    exact J_iret 19 dX4_numberAfter_19 (congrArg (fun x_ => some (Value.int x_)) (by rw [hN_])) (cg5 (fun (x0_ : Nat) (x1_ : Nat) (x2_ : Int32) (x3_ : Int32) (x4_ : Int32) => (wF [wTp a by_ ln x0_ x1_ x2_ x3_ x4_, wB G by_ 200 f])) st_16 ((tNuA f ln i most wo (st, en, so, va, fa)).2.1) en_16 ((tNuA f ln i most wo (st, en, so, va, fa)).2.2.1) so_16 ((tNuA f ln i most wo (st, en, so, va, fa)).2.2.2.1) va_16 ((tNuA f ln i most wo (st, en, so, va, fa)).2.2.2.2.1) fa_16 ((tNuA f ln i most wo (st, en, so, va, fa)).2.2.2.2.2) (by rw [hN_]) (by rw [hN_]) (by rw [hN_]) (by rw [hN_]) (by rw [hN_]))
  · skip
    refine J_iload_n 8 3 dX4_numberAfter_8 rfl rfl ?_
    have hN_ : tNuA f ln i most wo (st, en, so, va, fa) = (wo, st, en, so, va, fa) := cif_f (by assumption)
    exact J_iret 9 dX4_numberAfter_9 (congrArg (fun x_ => some (Value.int x_)) (by rw [hN_])) (cg5 (fun (x0_ : Nat) (x1_ : Nat) (x2_ : Int32) (x3_ : Int32) (x4_ : Int32) => (wF [wTp a by_ ln x0_ x1_ x2_ x3_ x4_, wB G by_ 200 f])) st ((tNuA f ln i most wo (st, en, so, va, fa)).2.1) en ((tNuA f ln i most wo (st, en, so, va, fa)).2.2.1) so ((tNuA f ln i most wo (st, en, so, va, fa)).2.2.2.1) va ((tNuA f ln i most wo (st, en, so, va, fa)).2.2.2.2.1) fa ((tNuA f ln i most wo (st, en, so, va, fa)).2.2.2.2.2) (by rw [hN_]) (by rw [hN_]) (by rw [hN_]) (by rw [hN_]) (by rw [hN_]))
set_option maxRecDepth 100000 in
set_option maxHeartbeats 4000000 in
theorem c_X4_stops (l : Launch) (G : Gd) (a : Nat) (by_ : Nat) (ln : Nat) (st : Nat) (en : Nat) (so : Int32) (va : Int32) (fa : Int32) (f : Nat → Int32) (hen : en ≤ ln) (hln : ln ≤ 200) (hse : st ≤ en) : Ct l G yX4_stops cX4_stops 1 none 2 [.ref a] (wF [wTp a by_ ln st en so va fa, wB G by_ 200 f]) none (wF [wTp a by_ ln ((tStp f ln (st, en, so, va, fa)).1) ((tStp f ln (st, en, so, va, fa)).2.1) ((tStp f ln (st, en, so, va, fa)).2.2.1) ((tStp f ln (st, en, so, va, fa)).2.2.2.1) ((tStp f ln (st, en, so, va, fa)).2.2.2.2), wB G by_ 200 f]) := by
  refine Ct.of "GooseArms$Tape" [some (.ref a)] (by decide +kernel) rfl (Nat.le_of_ble_eq_true rfl) rfl ?_
  refine J_aload_n 0 0 dX4_stops_0 rfl rfl ?_
  refine g_102 (v := .int so) 1 0 rfl rfl dX4_stops_1 ?_
  refine J_iconst (v := 3) 4 dX4_stops_4 rfl ?_
  refine J_icmp_ne (tgt := 15) 5 dX4_stops_5 (by decide) (fun c_1_ => ?_) (fun c_1_ => ?_)
  · skip
    refine J_aload_n 15 0 dX4_stops_15 rfl rfl ?_
    refine kb_RX4_74 (bs' := [wTp a by_ ln st en so va (fFl st fa), wB G by_ 200 f]) (rest := []) (st' := []) 16 (c_X4_fails l G a by_ ln st en so va fa ) [0] 0 rfl rfl rfl [[a]] rfl rfl rfl rfl rfl rfl (Nat.le_of_ble_eq_true rfl) rfl dX4_stops_16 ?_
    have hN_ : tStp f ln (st, en, so, va, fa) = (st, en, so, va, fFl st fa) := if_neg (by assumption)
    exact J_vret 19 dX4_stops_19 rfl (cg5 (fun (x0_ : Nat) (x1_ : Nat) (x2_ : Int32) (x3_ : Int32) (x4_ : Int32) => (wF [wTp a by_ ln x0_ x1_ x2_ x3_ x4_, wB G by_ 200 f])) st ((tStp f ln (st, en, so, va, fa)).1) en ((tStp f ln (st, en, so, va, fa)).2.1) so ((tStp f ln (st, en, so, va, fa)).2.2.1) va ((tStp f ln (st, en, so, va, fa)).2.2.2.1) (fFl st fa) ((tStp f ln (st, en, so, va, fa)).2.2.2.2) (by rw [hN_]) (by rw [hN_]) (by rw [hN_]) (by rw [hN_]) (by rw [hN_]))
  · skip
    refine J_aload_n 8 0 dX4_stops_8 rfl rfl ?_
    refine kb_RX4_34 (bs' := [wTp a by_ ln ((tGo f ln (st, en, so, va, fa)).1) ((tGo f ln (st, en, so, va, fa)).2.1) ((tGo f ln (st, en, so, va, fa)).2.2.1) ((tGo f ln (st, en, so, va, fa)).2.2.2.1) ((tGo f ln (st, en, so, va, fa)).2.2.2.2), wB G by_ 200 f]) (rest := []) (st' := []) 9 (c_X4_goesOn l G a by_ ln st en so va fa f (by omega) (by omega)) [0, 1] 0 rfl rfl rfl [[a], [by_]] rfl rfl rfl rfl rfl rfl (Nat.le_of_ble_eq_true rfl) rfl dX4_stops_9 ?_
    obtain ⟨⟨st_9, en_9, so_9, va_9, fa_9⟩, hT_9⟩ : ∃ t_, tGo f ln (st, en, so, va, fa) = t_ := ⟨_, rfl⟩
    refine J_ws (ws' := (wF [wTp a by_ ln st_9 en_9 so_9 va_9 fa_9, wB G by_ 200 f])) 12 (by rw [hT_9]) ?_
    have hle_9 := tGo_le hT_9 (by first | omega | (dsimp only; omega))
    refine J_goto (tgt := 19) 12 dX4_stops_12 (by decide) ?_
    have hN_ : tStp f ln (st, en, so, va, fa) = (st_9, en_9, so_9, va_9, fa_9) := (if_pos (by assumption)).trans (by rw [hT_9])
    exact J_vret 19 dX4_stops_19 rfl (cg5 (fun (x0_ : Nat) (x1_ : Nat) (x2_ : Int32) (x3_ : Int32) (x4_ : Int32) => (wF [wTp a by_ ln x0_ x1_ x2_ x3_ x4_, wB G by_ 200 f])) st_9 ((tStp f ln (st, en, so, va, fa)).1) en_9 ((tStp f ln (st, en, so, va, fa)).2.1) so_9 ((tStp f ln (st, en, so, va, fa)).2.2.1) va_9 ((tStp f ln (st, en, so, va, fa)).2.2.2.1) fa_9 ((tStp f ln (st, en, so, va, fa)).2.2.2.2) (by rw [hN_]) (by rw [hN_]) (by rw [hN_]) (by rw [hN_]) (by rw [hN_]))
set_option maxRecDepth 100000 in
set_option maxHeartbeats 4000000 in
theorem c_X4_tellsSaying (l : Launch) (G : Gd) (a : Nat) (by_ : Nat) (ln : Nat) (st : Nat) (en : Nat) (so : Int32) (va : Int32) (fa : Int32) (f : Nat → Int32) (c : Nat → Nat) (la : Nat → Int32) (ns : Nat) (sd : Nat) (to : Nat → Int32) (he : Nat → Int32) (sw : Nat → Int32) (nh : Nat) (ki : Nat → Int32) (te : Nat → Int32) (mi : Nat → Int32) (ar : Nat → Int32) (z : Int32) (hen : en ≤ ln) (hln : ln ≤ 200) (hse : st ≤ en) (hns : ns ≤ 12) : Ct l G yX4_tellsSaying cX4_tellsSaying 5 none 6 [.ref a, .ref (c 0)] (wF [wTp a by_ ln st en so va fa, wB G by_ 200 f, wCt G c la ns sd to he sw nh ki te mi ar z]) none (wF [wTp a by_ ln ((tSy f ln (st, en, so, va, fa) ns to he sw).1.1) ((tSy f ln (st, en, so, va, fa) ns to he sw).1.2.1) ((tSy f ln (st, en, so, va, fa) ns to he sw).1.2.2.1) ((tSy f ln (st, en, so, va, fa) ns to he sw).1.2.2.2.1) ((tSy f ln (st, en, so, va, fa) ns to he sw).1.2.2.2.2), wB G by_ 200 f, wCt G c la ((tSy f ln (st, en, so, va, fa) ns to he sw).2.1) sd ((tSy f ln (st, en, so, va, fa) ns to he sw).2.2.1) ((tSy f ln (st, en, so, va, fa) ns to he sw).2.2.2.1) ((tSy f ln (st, en, so, va, fa) ns to he sw).2.2.2.2) nh ki te mi ar z]) := by
  refine Ct.of "GooseArms$Tape" [some (.ref a), some (.ref (c 0)), none, none, none] (by decide +kernel) rfl (Nat.le_of_ble_eq_true rfl) rfl ?_
  refine J_aload_n 0 1 dX4_tellsSaying_0 rfl rfl ?_
  refine g_42 (v := .int (nI ns)) 1 2 rfl rfl dX4_tellsSaying_1 ?_
  refine J_bipush (v := 12) 4 dX4_tellsSaying_4 rfl ?_
  refine J_icmp_lt (tgt := 14) 6 dX4_tellsSaying_6 (by decide) (fun c_1_ => ?_) (fun c_1_ => ?_)
  · skip
    have c_1_ : ns < 12 := (nI_ltI (a := ns) (b := 12) (by omega) (by omega)).mp c_1_
    refine J_aload_n 14 0 dX4_tellsSaying_14 rfl rfl ?_
    refine kb_RX4_34 (bs' := [wTp a by_ ln ((tGo f ln (st, en, so, va, fa)).1) ((tGo f ln (st, en, so, va, fa)).2.1) ((tGo f ln (st, en, so, va, fa)).2.2.1) ((tGo f ln (st, en, so, va, fa)).2.2.2.1) ((tGo f ln (st, en, so, va, fa)).2.2.2.2), wB G by_ 200 f, wCt G c la ns sd to he sw nh ki te mi ar z]) (rest := []) (st' := []) 15 (c_X4_goesOn l G a by_ ln st en so va fa f (by omega) (by omega)) [0, 1] 0 rfl rfl rfl [[a], [by_]] rfl rfl rfl rfl rfl rfl (Nat.le_of_ble_eq_true rfl) rfl dX4_tellsSaying_15 ?_
    obtain ⟨⟨st_15, en_15, so_15, va_15, fa_15⟩, hT_15⟩ : ∃ t_, tGo f ln (st, en, so, va, fa) = t_ := ⟨_, rfl⟩
    refine J_ws (ws' := (wF [wTp a by_ ln st_15 en_15 so_15 va_15 fa_15, wB G by_ 200 f, wCt G c la ns sd to he sw nh ki te mi ar z])) 18 (by rw [hT_15]) ?_
    have hle_15 := tGo_le hT_15 (by first | omega | (dsimp only; omega))
    refine J_aload_n 18 0 dX4_tellsSaying_18 rfl rfl ?_
    refine J_bipush (v := 7) 19 dX4_tellsSaying_19 rfl ?_
    refine kb_RX4_70 (bs' := [wTp a by_ ln ((tNum f ln 7 (st_15, en_15, so_15, va_15, fa_15)).2.1) ((tNum f ln 7 (st_15, en_15, so_15, va_15, fa_15)).2.2.1) ((tNum f ln 7 (st_15, en_15, so_15, va_15, fa_15)).2.2.2.1) ((tNum f ln 7 (st_15, en_15, so_15, va_15, fa_15)).2.2.2.2.1) ((tNum f ln 7 (st_15, en_15, so_15, va_15, fa_15)).2.2.2.2.2), wB G by_ 200 f, wCt G c la ns sd to he sw nh ki te mi ar z]) (rest := []) (st' := [.int ((tNum f ln 7 (st_15, en_15, so_15, va_15, fa_15)).1)]) 21 (c_X4_number l G 7 a by_ ln st_15 en_15 so_15 va_15 fa_15 f (by omega) (by omega) (by omega)) [0, 1] 0 rfl rfl rfl [[a], [by_]] rfl rfl rfl rfl rfl rfl (Nat.le_of_ble_eq_true rfl) rfl dX4_tellsSaying_21 ?_
    obtain ⟨⟨rv_21, st_21, en_21, so_21, va_21, fa_21⟩, hT_21⟩ : ∃ t_, tNum f ln 7 (st_15, en_15, so_15, va_15, fa_15) = t_ := ⟨_, rfl⟩
    refine J_ws (ws' := (wF [wTp a by_ ln st_21 en_21 so_21 va_21 fa_21, wB G by_ 200 f, wCt G c la ns sd to he sw nh ki te mi ar z])) 24 (by rw [hT_21]) ?_
    refine J_st (st' := [.int rv_21]) 24 (by rw [hT_21]) ?_
    have hle_21 := tNum_le hT_21 (by first | omega | (dsimp only; omega)) (by first | omega | (dsimp only; omega))
    refine J_istore_n (lv' := [some (.ref a), some (.ref (c 0)), some (.int rv_21), none, none]) 24 2 dX4_tellsSaying_24 rfl (by decide) rfl ?_
    refine J_aload_n 25 0 dX4_tellsSaying_25 rfl rfl ?_
    refine J_ldcs 26 11 (by decide) rfl dX4_tellsSaying_26 ?_
    refine J_bipush (v := 9) 28 dX4_tellsSaying_28 rfl ?_
    refine J_iconst (v := 5) 30 dX4_tellsSaying_30 rfl ?_
    refine kb_RX4_85 (bs' := [wTp a by_ ln ((tNuA f ln 11 9 5 (st_21, en_21, so_21, va_21, fa_21)).2.1) ((tNuA f ln 11 9 5 (st_21, en_21, so_21, va_21, fa_21)).2.2.1) ((tNuA f ln 11 9 5 (st_21, en_21, so_21, va_21, fa_21)).2.2.2.1) ((tNuA f ln 11 9 5 (st_21, en_21, so_21, va_21, fa_21)).2.2.2.2.1) ((tNuA f ln 11 9 5 (st_21, en_21, so_21, va_21, fa_21)).2.2.2.2.2), wB G by_ 200 f, wCt G c la ns sd to he sw nh ki te mi ar z]) (rest := []) (st' := [.int ((tNuA f ln 11 9 5 (st_21, en_21, so_21, va_21, fa_21)).1)]) 31 (c_X4_numberAfter l G 11 9 5 a by_ ln st_21 en_21 so_21 va_21 fa_21 f (by omega) (by omega) (by omega) (by omega)) [0, 1] 0 rfl rfl rfl [[a], [by_]] rfl rfl rfl rfl rfl rfl (Nat.le_of_ble_eq_true rfl) rfl dX4_tellsSaying_31 ?_
    obtain ⟨⟨rv_31, st_31, en_31, so_31, va_31, fa_31⟩, hT_31⟩ : ∃ t_, tNuA f ln 11 9 5 (st_21, en_21, so_21, va_21, fa_21) = t_ := ⟨_, rfl⟩
    refine J_ws (ws' := (wF [wTp a by_ ln st_31 en_31 so_31 va_31 fa_31, wB G by_ 200 f, wCt G c la ns sd to he sw nh ki te mi ar z])) 34 (by rw [hT_31]) ?_
    refine J_st (st' := [.int rv_31]) 34 (by rw [hT_31]) ?_
    have hle_31 := tNuA_le hT_31 (by first | omega | (dsimp only; omega)) (by first | omega | (dsimp only; omega))
    refine J_istore_n (lv' := [some (.ref a), some (.ref (c 0)), some (.int rv_21), some (.int rv_31), none]) 34 3 dX4_tellsSaying_34 rfl (by decide) rfl ?_
    refine J_iconst (v := 0) 35 dX4_tellsSaying_35 rfl ?_
    refine J_istore (lv' := [some (.ref a), some (.ref (c 0)), some (.int rv_21), some (.int rv_31), some (.int 0)]) 36 dX4_tellsSaying_36 (by decide) rfl ?_
    refine J_aload_n 38 0 dX4_tellsSaying_38 rfl rfl ?_
    refine J_ldcs 39 12 (by decide) rfl dX4_tellsSaying_39 ?_
    refine kb_RX4_50 (bs' := [wTp a by_ ln st_31 en_31 so_31 va_31 fa_31, wB G by_ 200 f, wCt G c la ns sd to he sw nh ki te mi ar z]) (rest := []) (st' := [.int (bI (tNam f 12 st_31 en_31 so_31))]) 41 (c_X4_isName l G 12 a by_ ln st_31 en_31 so_31 va_31 fa_31 f (by omega) (by omega) (by omega) (by omega)) [0, 1] 0 rfl rfl rfl [[a], [by_]] rfl rfl rfl rfl rfl rfl (Nat.le_of_ble_eq_true rfl) rfl dX4_tellsSaying_41 ?_
    refine J_ifB_eq (tgt := 54) 44 dX4_tellsSaying_44 (by decide) (fun c_2_ => ?_) (fun c_2_ => ?_)
    · skip
      refine J_aload_n 54 1 dX4_tellsSaying_54 rfl rfl ?_
      refine J_iload_n 55 2 dX4_tellsSaying_55 rfl rfl ?_
      refine J_iload_n 56 3 dX4_tellsSaying_56 rfl rfl ?_
      refine J_iload 57 dX4_tellsSaying_57 rfl ?_
      refine kb_RX4_91 (bs' := [wTp a by_ ln st_31 en_31 so_31 va_31 fa_31, wB G by_ 200 f, wCt G c la (ns + 1) sd (upd to ns rv_21) (upd he ns rv_31) (upd sw ns 0) nh ki te mi ar z]) (rest := []) (st' := [.int 1]) 59 (c_X0_addSaying l G rv_21 rv_31 0 c la ns sd to he sw nh ki te mi ar z (by omega)) [2] 2 rfl rfl rfl [[c 0, c 1, c 2, c 3, c 4, c 5, c 6, c 7, c 8]] rfl rfl rfl rfl rfl rfl (Nat.le_of_ble_eq_true rfl) rfl dX4_tellsSaying_59 ?_
      refine J_pop 62 dX4_tellsSaying_62 rfl ?_
      have hN_ : tSy f ln (st, en, so, va, fa) ns to he sw = ((st_31, en_31, so_31, va_31, fa_31), ns + 1, upd to ns rv_21, upd he ns rv_31, upd sw ns 0) := (if_pos (by assumption)).trans (by simp only [hT_15, hT_21, hT_31]; rw [cif_f (by assumption)])
      exact J_vret 63 dX4_tellsSaying_63 rfl (cg9 (fun (x0_ : Nat) (x1_ : Nat) (x2_ : Int32) (x3_ : Int32) (x4_ : Int32) (x5_ : Nat) (x6_ : Nat → Int32) (x7_ : Nat → Int32) (x8_ : Nat → Int32) => (wF [wTp a by_ ln x0_ x1_ x2_ x3_ x4_, wB G by_ 200 f, wCt G c la x5_ sd x6_ x7_ x8_ nh ki te mi ar z])) st_31 ((tSy f ln (st, en, so, va, fa) ns to he sw).1.1) en_31 ((tSy f ln (st, en, so, va, fa) ns to he sw).1.2.1) so_31 ((tSy f ln (st, en, so, va, fa) ns to he sw).1.2.2.1) va_31 ((tSy f ln (st, en, so, va, fa) ns to he sw).1.2.2.2.1) fa_31 ((tSy f ln (st, en, so, va, fa) ns to he sw).1.2.2.2.2) (ns + 1) ((tSy f ln (st, en, so, va, fa) ns to he sw).2.1) (upd to ns rv_21) ((tSy f ln (st, en, so, va, fa) ns to he sw).2.2.1) (upd he ns rv_31) ((tSy f ln (st, en, so, va, fa) ns to he sw).2.2.2.1) (upd sw ns 0) ((tSy f ln (st, en, so, va, fa) ns to he sw).2.2.2.2) (by rw [hN_]) (by rw [hN_]) (by rw [hN_]) (by rw [hN_]) (by rw [hN_]) (by rw [hN_]) (by rw [hN_]) (by rw [hN_]) (by rw [hN_]))
    · skip
      refine J_iconst (v := 1) 47 dX4_tellsSaying_47 rfl ?_
      refine J_istore (lv' := [some (.ref a), some (.ref (c 0)), some (.int rv_21), some (.int rv_31), some (.int 1)]) 48 dX4_tellsSaying_48 (by decide) rfl ?_
      refine J_aload_n 50 0 dX4_tellsSaying_50 rfl rfl ?_
      refine kb_RX4_34 (bs' := [wTp a by_ ln ((tGo f ln (st_31, en_31, so_31, va_31, fa_31)).1) ((tGo f ln (st_31, en_31, so_31, va_31, fa_31)).2.1) ((tGo f ln (st_31, en_31, so_31, va_31, fa_31)).2.2.1) ((tGo f ln (st_31, en_31, so_31, va_31, fa_31)).2.2.2.1) ((tGo f ln (st_31, en_31, so_31, va_31, fa_31)).2.2.2.2), wB G by_ 200 f, wCt G c la ns sd to he sw nh ki te mi ar z]) (rest := []) (st' := []) 51 (c_X4_goesOn l G a by_ ln st_31 en_31 so_31 va_31 fa_31 f (by omega) (by omega)) [0, 1] 0 rfl rfl rfl [[a], [by_]] rfl rfl rfl rfl rfl rfl (Nat.le_of_ble_eq_true rfl) rfl dX4_tellsSaying_51 ?_
      obtain ⟨⟨st_51, en_51, so_51, va_51, fa_51⟩, hT_51⟩ : ∃ t_, tGo f ln (st_31, en_31, so_31, va_31, fa_31) = t_ := ⟨_, rfl⟩
      refine J_ws (ws' := (wF [wTp a by_ ln st_51 en_51 so_51 va_51 fa_51, wB G by_ 200 f, wCt G c la ns sd to he sw nh ki te mi ar z])) 54 (by rw [hT_51]) ?_
      have hle_51 := tGo_le hT_51 (by first | omega | (dsimp only; omega))
      refine J_aload_n 54 1 dX4_tellsSaying_54 rfl rfl ?_
      refine J_iload_n 55 2 dX4_tellsSaying_55 rfl rfl ?_
      refine J_iload_n 56 3 dX4_tellsSaying_56 rfl rfl ?_
      refine J_iload 57 dX4_tellsSaying_57 rfl ?_
      refine kb_RX4_91 (bs' := [wTp a by_ ln st_51 en_51 so_51 va_51 fa_51, wB G by_ 200 f, wCt G c la (ns + 1) sd (upd to ns rv_21) (upd he ns rv_31) (upd sw ns 1) nh ki te mi ar z]) (rest := []) (st' := [.int 1]) 59 (c_X0_addSaying l G rv_21 rv_31 1 c la ns sd to he sw nh ki te mi ar z (by omega)) [2] 2 rfl rfl rfl [[c 0, c 1, c 2, c 3, c 4, c 5, c 6, c 7, c 8]] rfl rfl rfl rfl rfl rfl (Nat.le_of_ble_eq_true rfl) rfl dX4_tellsSaying_59 ?_
      refine J_pop 62 dX4_tellsSaying_62 rfl ?_
      have hN_ : tSy f ln (st, en, so, va, fa) ns to he sw = ((st_51, en_51, so_51, va_51, fa_51), ns + 1, upd to ns rv_21, upd he ns rv_31, upd sw ns 1) := (if_pos (by assumption)).trans (by simp only [hT_15, hT_21, hT_31]; rw [cif_t (by assumption), hT_51])
      exact J_vret 63 dX4_tellsSaying_63 rfl (cg9 (fun (x0_ : Nat) (x1_ : Nat) (x2_ : Int32) (x3_ : Int32) (x4_ : Int32) (x5_ : Nat) (x6_ : Nat → Int32) (x7_ : Nat → Int32) (x8_ : Nat → Int32) => (wF [wTp a by_ ln x0_ x1_ x2_ x3_ x4_, wB G by_ 200 f, wCt G c la x5_ sd x6_ x7_ x8_ nh ki te mi ar z])) st_51 ((tSy f ln (st, en, so, va, fa) ns to he sw).1.1) en_51 ((tSy f ln (st, en, so, va, fa) ns to he sw).1.2.1) so_51 ((tSy f ln (st, en, so, va, fa) ns to he sw).1.2.2.1) va_51 ((tSy f ln (st, en, so, va, fa) ns to he sw).1.2.2.2.1) fa_51 ((tSy f ln (st, en, so, va, fa) ns to he sw).1.2.2.2.2) (ns + 1) ((tSy f ln (st, en, so, va, fa) ns to he sw).2.1) (upd to ns rv_21) ((tSy f ln (st, en, so, va, fa) ns to he sw).2.2.1) (upd he ns rv_31) ((tSy f ln (st, en, so, va, fa) ns to he sw).2.2.2.1) (upd sw ns 1) ((tSy f ln (st, en, so, va, fa) ns to he sw).2.2.2.2) (by rw [hN_]) (by rw [hN_]) (by rw [hN_]) (by rw [hN_]) (by rw [hN_]) (by rw [hN_]) (by rw [hN_]) (by rw [hN_]) (by rw [hN_]))
  · skip
    have c_1_ : ¬ ns < 12 := fun z_ => c_1_ ((nI_ltI (a := ns) (b := 12) (by omega) (by omega)).mpr z_)
    refine J_aload_n 9 0 dX4_tellsSaying_9 rfl rfl ?_
    refine kb_RX4_74 (bs' := [wTp a by_ ln st en so va (fFl st fa), wB G by_ 200 f, wCt G c la ns sd to he sw nh ki te mi ar z]) (rest := []) (st' := []) 10 (c_X4_fails l G a by_ ln st en so va fa ) [0] 0 rfl rfl rfl [[a]] rfl rfl rfl rfl rfl rfl (Nat.le_of_ble_eq_true rfl) rfl dX4_tellsSaying_10 ?_
    have hN_ : tSy f ln (st, en, so, va, fa) ns to he sw = ((st, en, so, va, fFl st fa), ns, to, he, sw) := if_neg (by assumption)
    exact J_vret 13 dX4_tellsSaying_13 rfl (cg9 (fun (x0_ : Nat) (x1_ : Nat) (x2_ : Int32) (x3_ : Int32) (x4_ : Int32) (x5_ : Nat) (x6_ : Nat → Int32) (x7_ : Nat → Int32) (x8_ : Nat → Int32) => (wF [wTp a by_ ln x0_ x1_ x2_ x3_ x4_, wB G by_ 200 f, wCt G c la x5_ sd x6_ x7_ x8_ nh ki te mi ar z])) st ((tSy f ln (st, en, so, va, fa) ns to he sw).1.1) en ((tSy f ln (st, en, so, va, fa) ns to he sw).1.2.1) so ((tSy f ln (st, en, so, va, fa) ns to he sw).1.2.2.1) va ((tSy f ln (st, en, so, va, fa) ns to he sw).1.2.2.2.1) (fFl st fa) ((tSy f ln (st, en, so, va, fa) ns to he sw).1.2.2.2.2) ns ((tSy f ln (st, en, so, va, fa) ns to he sw).2.1) to ((tSy f ln (st, en, so, va, fa) ns to he sw).2.2.1) he ((tSy f ln (st, en, so, va, fa) ns to he sw).2.2.2.1) sw ((tSy f ln (st, en, so, va, fa) ns to he sw).2.2.2.2) (by rw [hN_]) (by rw [hN_]) (by rw [hN_]) (by rw [hN_]) (by rw [hN_]) (by rw [hN_]) (by rw [hN_]) (by rw [hN_]) (by rw [hN_]))
set_option maxRecDepth 100000 in
set_option maxHeartbeats 4000000 in
theorem c_X4_tellsHearer (l : Launch) (G : Gd) (kd : Int32) (a : Nat) (by_ : Nat) (ln : Nat) (st : Nat) (en : Nat) (so : Int32) (va : Int32) (fa : Int32) (f : Nat → Int32) (c : Nat → Nat) (la : Nat → Int32) (ns : Nat) (sd : Nat) (to : Nat → Int32) (he : Nat → Int32) (sw : Nat → Int32) (nh : Nat) (ki : Nat → Int32) (te : Nat → Int32) (mi : Nat → Int32) (ar : Nat → Int32) (z : Int32) (hen : en ≤ ln) (hln : ln ≤ 200) (hse : st ≤ en) (hnh : nh ≤ 8) : Ct l G yX4_tellsHearer cX4_tellsHearer 5 none 6 [.ref a, .ref (c 0), .int kd] (wF [wTp a by_ ln st en so va fa, wB G by_ 200 f, wCt G c la ns sd to he sw nh ki te mi ar z]) none (wF [wTp a by_ ln ((tHr f ln kd (st, en, so, va, fa) nh ki te mi ar).1.1) ((tHr f ln kd (st, en, so, va, fa) nh ki te mi ar).1.2.1) ((tHr f ln kd (st, en, so, va, fa) nh ki te mi ar).1.2.2.1) ((tHr f ln kd (st, en, so, va, fa) nh ki te mi ar).1.2.2.2.1) ((tHr f ln kd (st, en, so, va, fa) nh ki te mi ar).1.2.2.2.2), wB G by_ 200 f, wCt G c la ns sd to he sw ((tHr f ln kd (st, en, so, va, fa) nh ki te mi ar).2.1) ((tHr f ln kd (st, en, so, va, fa) nh ki te mi ar).2.2.1) ((tHr f ln kd (st, en, so, va, fa) nh ki te mi ar).2.2.2.1) ((tHr f ln kd (st, en, so, va, fa) nh ki te mi ar).2.2.2.2.1) ((tHr f ln kd (st, en, so, va, fa) nh ki te mi ar).2.2.2.2.2) z]) := by
  refine Ct.of "GooseArms$Tape" [some (.ref a), some (.ref (c 0)), some (.int kd), none, none] (by decide +kernel) rfl (Nat.le_of_ble_eq_true rfl) rfl ?_
  refine J_aload_n 0 1 dX4_tellsHearer_0 rfl rfl ?_
  refine g_54 (v := .int (nI nh)) 1 2 rfl rfl dX4_tellsHearer_1 ?_
  refine J_bipush (v := 8) 4 dX4_tellsHearer_4 rfl ?_
  refine J_icmp_lt (tgt := 14) 6 dX4_tellsHearer_6 (by decide) (fun c_1_ => ?_) (fun c_1_ => ?_)
  · skip
    have c_1_ : nh < 8 := (nI_ltI (a := nh) (b := 8) (by omega) (by omega)).mp c_1_
    refine J_aload_n 14 0 dX4_tellsHearer_14 rfl rfl ?_
    refine kb_RX4_34 (bs' := [wTp a by_ ln ((tGo f ln (st, en, so, va, fa)).1) ((tGo f ln (st, en, so, va, fa)).2.1) ((tGo f ln (st, en, so, va, fa)).2.2.1) ((tGo f ln (st, en, so, va, fa)).2.2.2.1) ((tGo f ln (st, en, so, va, fa)).2.2.2.2), wB G by_ 200 f, wCt G c la ns sd to he sw nh ki te mi ar z]) (rest := []) (st' := []) 15 (c_X4_goesOn l G a by_ ln st en so va fa f (by omega) (by omega)) [0, 1] 0 rfl rfl rfl [[a], [by_]] rfl rfl rfl rfl rfl rfl (Nat.le_of_ble_eq_true rfl) rfl dX4_tellsHearer_15 ?_
    obtain ⟨⟨st_15, en_15, so_15, va_15, fa_15⟩, hT_15⟩ : ∃ t_, tGo f ln (st, en, so, va, fa) = t_ := ⟨_, rfl⟩
    refine J_ws (ws' := (wF [wTp a by_ ln st_15 en_15 so_15 va_15 fa_15, wB G by_ 200 f, wCt G c la ns sd to he sw nh ki te mi ar z])) 18 (by rw [hT_15]) ?_
    have hle_15 := tGo_le hT_15 (by first | omega | (dsimp only; omega))
    refine J_aload_n 18 0 dX4_tellsHearer_18 rfl rfl ?_
    refine J_ldcs 19 13 (by decide) rfl dX4_tellsHearer_19 ?_
    refine J_bipush (v := 99) 21 dX4_tellsHearer_21 rfl ?_
    refine J_iconst (v := 3) 23 dX4_tellsHearer_23 rfl ?_
    refine kb_RX4_85 (bs' := [wTp a by_ ln ((tNuA f ln 13 99 3 (st_15, en_15, so_15, va_15, fa_15)).2.1) ((tNuA f ln 13 99 3 (st_15, en_15, so_15, va_15, fa_15)).2.2.1) ((tNuA f ln 13 99 3 (st_15, en_15, so_15, va_15, fa_15)).2.2.2.1) ((tNuA f ln 13 99 3 (st_15, en_15, so_15, va_15, fa_15)).2.2.2.2.1) ((tNuA f ln 13 99 3 (st_15, en_15, so_15, va_15, fa_15)).2.2.2.2.2), wB G by_ 200 f, wCt G c la ns sd to he sw nh ki te mi ar z]) (rest := []) (st' := [.int ((tNuA f ln 13 99 3 (st_15, en_15, so_15, va_15, fa_15)).1)]) 24 (c_X4_numberAfter l G 13 99 3 a by_ ln st_15 en_15 so_15 va_15 fa_15 f (by omega) (by omega) (by omega) (by omega)) [0, 1] 0 rfl rfl rfl [[a], [by_]] rfl rfl rfl rfl rfl rfl (Nat.le_of_ble_eq_true rfl) rfl dX4_tellsHearer_24 ?_
    obtain ⟨⟨rv_24, st_24, en_24, so_24, va_24, fa_24⟩, hT_24⟩ : ∃ t_, tNuA f ln 13 99 3 (st_15, en_15, so_15, va_15, fa_15) = t_ := ⟨_, rfl⟩
    refine J_ws (ws' := (wF [wTp a by_ ln st_24 en_24 so_24 va_24 fa_24, wB G by_ 200 f, wCt G c la ns sd to he sw nh ki te mi ar z])) 27 (by rw [hT_24]) ?_
    refine J_st (st' := [.int rv_24]) 27 (by rw [hT_24]) ?_
    have hle_24 := tNuA_le hT_24 (by first | omega | (dsimp only; omega)) (by first | omega | (dsimp only; omega))
    refine J_istore_n (lv' := [some (.ref a), some (.ref (c 0)), some (.int kd), some (.int rv_24), none]) 27 3 dX4_tellsHearer_27 rfl (by decide) rfl ?_
    refine J_aload_n 28 0 dX4_tellsHearer_28 rfl rfl ?_
    refine J_ldcs 29 14 (by decide) rfl dX4_tellsHearer_29 ?_
    refine J_sipush (v := 255) 31 dX4_tellsHearer_31 rfl ?_
    refine J_sipush (v := 255) 34 dX4_tellsHearer_34 rfl ?_
    refine kb_RX4_85 (bs' := [wTp a by_ ln ((tNuA f ln 14 255 255 (st_24, en_24, so_24, va_24, fa_24)).2.1) ((tNuA f ln 14 255 255 (st_24, en_24, so_24, va_24, fa_24)).2.2.1) ((tNuA f ln 14 255 255 (st_24, en_24, so_24, va_24, fa_24)).2.2.2.1) ((tNuA f ln 14 255 255 (st_24, en_24, so_24, va_24, fa_24)).2.2.2.2.1) ((tNuA f ln 14 255 255 (st_24, en_24, so_24, va_24, fa_24)).2.2.2.2.2), wB G by_ 200 f, wCt G c la ns sd to he sw nh ki te mi ar z]) (rest := []) (st' := [.int ((tNuA f ln 14 255 255 (st_24, en_24, so_24, va_24, fa_24)).1)]) 37 (c_X4_numberAfter l G 14 255 255 a by_ ln st_24 en_24 so_24 va_24 fa_24 f (by omega) (by omega) (by omega) (by omega)) [0, 1] 0 rfl rfl rfl [[a], [by_]] rfl rfl rfl rfl rfl rfl (Nat.le_of_ble_eq_true rfl) rfl dX4_tellsHearer_37 ?_
    obtain ⟨⟨rv_37, st_37, en_37, so_37, va_37, fa_37⟩, hT_37⟩ : ∃ t_, tNuA f ln 14 255 255 (st_24, en_24, so_24, va_24, fa_24) = t_ := ⟨_, rfl⟩
    refine J_ws (ws' := (wF [wTp a by_ ln st_37 en_37 so_37 va_37 fa_37, wB G by_ 200 f, wCt G c la ns sd to he sw nh ki te mi ar z])) 40 (by rw [hT_37]) ?_
    refine J_st (st' := [.int rv_37]) 40 (by rw [hT_37]) ?_
    have hle_37 := tNuA_le hT_37 (by first | omega | (dsimp only; omega)) (by first | omega | (dsimp only; omega))
    refine J_istore (lv' := [some (.ref a), some (.ref (c 0)), some (.int kd), some (.int rv_24), some (.int rv_37)]) 40 dX4_tellsHearer_40 (by decide) rfl ?_
    refine J_aload_n 42 1 dX4_tellsHearer_42 rfl rfl ?_
    refine J_iload_n 43 2 dX4_tellsHearer_43 rfl rfl ?_
    refine J_iload_n 44 3 dX4_tellsHearer_44 rfl rfl ?_
    refine J_iload 45 dX4_tellsHearer_45 rfl ?_
    refine kb_RX4_102 (bs' := [wTp a by_ ln st_37 en_37 so_37 va_37 fa_37, wB G by_ 200 f, wCt G c la ns sd to he sw (nh + 1) (upd ki nh kd) (upd te nh rv_24) (upd mi nh rv_37) (upd ar nh 0) z]) (rest := []) (st' := [.int 1]) 47 (c_X0_addHearer l G kd rv_24 rv_37 c la ns sd to he sw nh ki te mi ar z (by omega)) [2] 2 rfl rfl rfl [[c 0, c 1, c 2, c 3, c 4, c 5, c 6, c 7, c 8]] rfl rfl rfl rfl rfl rfl (Nat.le_of_ble_eq_true rfl) rfl dX4_tellsHearer_47 ?_
    refine J_pop 50 dX4_tellsHearer_50 rfl ?_
    have hN_ : tHr f ln kd (st, en, so, va, fa) nh ki te mi ar = ((st_37, en_37, so_37, va_37, fa_37), nh + 1, upd ki nh kd, upd te nh rv_24, upd mi nh rv_37, upd ar nh 0) := (if_pos (by assumption)).trans (by simp only [hT_15, hT_24, hT_37])
    exact J_vret 51 dX4_tellsHearer_51 rfl (cg10 (fun (x0_ : Nat) (x1_ : Nat) (x2_ : Int32) (x3_ : Int32) (x4_ : Int32) (x5_ : Nat) (x6_ : Nat → Int32) (x7_ : Nat → Int32) (x8_ : Nat → Int32) (x9_ : Nat → Int32) => (wF [wTp a by_ ln x0_ x1_ x2_ x3_ x4_, wB G by_ 200 f, wCt G c la ns sd to he sw x5_ x6_ x7_ x8_ x9_ z])) st_37 ((tHr f ln kd (st, en, so, va, fa) nh ki te mi ar).1.1) en_37 ((tHr f ln kd (st, en, so, va, fa) nh ki te mi ar).1.2.1) so_37 ((tHr f ln kd (st, en, so, va, fa) nh ki te mi ar).1.2.2.1) va_37 ((tHr f ln kd (st, en, so, va, fa) nh ki te mi ar).1.2.2.2.1) fa_37 ((tHr f ln kd (st, en, so, va, fa) nh ki te mi ar).1.2.2.2.2) (nh + 1) ((tHr f ln kd (st, en, so, va, fa) nh ki te mi ar).2.1) (upd ki nh kd) ((tHr f ln kd (st, en, so, va, fa) nh ki te mi ar).2.2.1) (upd te nh rv_24) ((tHr f ln kd (st, en, so, va, fa) nh ki te mi ar).2.2.2.1) (upd mi nh rv_37) ((tHr f ln kd (st, en, so, va, fa) nh ki te mi ar).2.2.2.2.1) (upd ar nh 0) ((tHr f ln kd (st, en, so, va, fa) nh ki te mi ar).2.2.2.2.2) (by rw [hN_]) (by rw [hN_]) (by rw [hN_]) (by rw [hN_]) (by rw [hN_]) (by rw [hN_]) (by rw [hN_]) (by rw [hN_]) (by rw [hN_]) (by rw [hN_]))
  · skip
    have c_1_ : ¬ nh < 8 := fun z_ => c_1_ ((nI_ltI (a := nh) (b := 8) (by omega) (by omega)).mpr z_)
    refine J_aload_n 9 0 dX4_tellsHearer_9 rfl rfl ?_
    refine kb_RX4_74 (bs' := [wTp a by_ ln st en so va (fFl st fa), wB G by_ 200 f, wCt G c la ns sd to he sw nh ki te mi ar z]) (rest := []) (st' := []) 10 (c_X4_fails l G a by_ ln st en so va fa ) [0] 0 rfl rfl rfl [[a]] rfl rfl rfl rfl rfl rfl (Nat.le_of_ble_eq_true rfl) rfl dX4_tellsHearer_10 ?_
    have hN_ : tHr f ln kd (st, en, so, va, fa) nh ki te mi ar = ((st, en, so, va, fFl st fa), nh, ki, te, mi, ar) := if_neg (by assumption)
    exact J_vret 13 dX4_tellsHearer_13 rfl (cg10 (fun (x0_ : Nat) (x1_ : Nat) (x2_ : Int32) (x3_ : Int32) (x4_ : Int32) (x5_ : Nat) (x6_ : Nat → Int32) (x7_ : Nat → Int32) (x8_ : Nat → Int32) (x9_ : Nat → Int32) => (wF [wTp a by_ ln x0_ x1_ x2_ x3_ x4_, wB G by_ 200 f, wCt G c la ns sd to he sw x5_ x6_ x7_ x8_ x9_ z])) st ((tHr f ln kd (st, en, so, va, fa) nh ki te mi ar).1.1) en ((tHr f ln kd (st, en, so, va, fa) nh ki te mi ar).1.2.1) so ((tHr f ln kd (st, en, so, va, fa) nh ki te mi ar).1.2.2.1) va ((tHr f ln kd (st, en, so, va, fa) nh ki te mi ar).1.2.2.2.1) (fFl st fa) ((tHr f ln kd (st, en, so, va, fa) nh ki te mi ar).1.2.2.2.2) nh ((tHr f ln kd (st, en, so, va, fa) nh ki te mi ar).2.1) ki ((tHr f ln kd (st, en, so, va, fa) nh ki te mi ar).2.2.1) te ((tHr f ln kd (st, en, so, va, fa) nh ki te mi ar).2.2.2.1) mi ((tHr f ln kd (st, en, so, va, fa) nh ki te mi ar).2.2.2.2.1) ar ((tHr f ln kd (st, en, so, va, fa) nh ki te mi ar).2.2.2.2.2) (by rw [hN_]) (by rw [hN_]) (by rw [hN_]) (by rw [hN_]) (by rw [hN_]) (by rw [hN_]) (by rw [hN_]) (by rw [hN_]) (by rw [hN_]) (by rw [hN_]))
set_option maxRecDepth 100000 in
set_option maxHeartbeats 4000000 in
theorem c_X4_kindNamed (l : Launch) (G : Gd) (a : Nat) (by_ : Nat) (ln : Nat) (st : Nat) (en : Nat) (so : Int32) (va : Int32) (fa : Int32) (f : Nat → Int32) (hen : en ≤ ln) (hln : ln ≤ 200) (hse : st ≤ en) : Ct l G yX4_kindNamed cX4_kindNamed 1 (some (FieldType.int)) 5 [.ref a] (wF [wTp a by_ ln st en so va fa, wB G by_ 200 f]) (some (.int (fKn f st en so))) (wF [wTp a by_ ln st en so va fa, wB G by_ 200 f]) := by
  refine Ct.of "GooseArms$Tape" [some (.ref a)] (by decide +kernel) rfl (Nat.le_of_ble_eq_true rfl) rfl ?_
  refine J_aload_n 0 0 dX4_kindNamed_0 rfl rfl ?_
  refine J_ldcs 1 0 (by decide) rfl dX4_kindNamed_1 ?_
  refine kb_RX4_50 (bs' := [wTp a by_ ln st en so va fa, wB G by_ 200 f]) (rest := []) (st' := [.int (bI (tNam f 0 st en so))]) 3 (c_X4_isName l G 0 a by_ ln st en so va fa f (by omega) (by omega) (by omega) (by omega)) [0, 1] 0 rfl rfl rfl [[a], [by_]] rfl rfl rfl rfl rfl rfl (Nat.le_of_ble_eq_true rfl) rfl dX4_kindNamed_3 ?_
  refine J_ifB_eq (tgt := 11) 6 dX4_kindNamed_6 (by decide) (fun c_1_ => ?_) (fun c_1_ => ?_)
  · skip
    refine J_aload_n 11 0 dX4_kindNamed_11 rfl rfl ?_
    refine J_ldcs 12 1 (by decide) rfl dX4_kindNamed_12 ?_
    refine kb_RX4_50 (bs' := [wTp a by_ ln st en so va fa, wB G by_ 200 f]) (rest := []) (st' := [.int (bI (tNam f 1 st en so))]) 14 (c_X4_isName l G 1 a by_ ln st en so va fa f (by omega) (by omega) (by omega) (by omega)) [0, 1] 0 rfl rfl rfl [[a], [by_]] rfl rfl rfl rfl rfl rfl (Nat.le_of_ble_eq_true rfl) rfl dX4_kindNamed_14 ?_
    refine J_ifB_eq (tgt := 22) 17 dX4_kindNamed_17 (by decide) (fun c_2_ => ?_) (fun c_2_ => ?_)
    · skip
      refine J_aload_n 22 0 dX4_kindNamed_22 rfl rfl ?_
      refine J_ldcs 23 2 (by decide) rfl dX4_kindNamed_23 ?_
      refine kb_RX4_50 (bs' := [wTp a by_ ln st en so va fa, wB G by_ 200 f]) (rest := []) (st' := [.int (bI (tNam f 2 st en so))]) 25 (c_X4_isName l G 2 a by_ ln st en so va fa f (by omega) (by omega) (by omega) (by omega)) [0, 1] 0 rfl rfl rfl [[a], [by_]] rfl rfl rfl rfl rfl rfl (Nat.le_of_ble_eq_true rfl) rfl dX4_kindNamed_25 ?_
      refine J_ifB_eq (tgt := 33) 28 dX4_kindNamed_28 (by decide) (fun c_3_ => ?_) (fun c_3_ => ?_)
      · skip
        refine J_aload_n 33 0 dX4_kindNamed_33 rfl rfl ?_
        refine J_ldcs 34 3 (by decide) rfl dX4_kindNamed_34 ?_
        refine kb_RX4_50 (bs' := [wTp a by_ ln st en so va fa, wB G by_ 200 f]) (rest := []) (st' := [.int (bI (tNam f 3 st en so))]) 36 (c_X4_isName l G 3 a by_ ln st en so va fa f (by omega) (by omega) (by omega) (by omega)) [0, 1] 0 rfl rfl rfl [[a], [by_]] rfl rfl rfl rfl rfl rfl (Nat.le_of_ble_eq_true rfl) rfl dX4_kindNamed_36 ?_
        refine J_ifB_eq (tgt := 44) 39 dX4_kindNamed_39 (by decide) (fun c_4_ => ?_) (fun c_4_ => ?_)
        · skip
          refine J_aload_n 44 0 dX4_kindNamed_44 rfl rfl ?_
          refine J_ldcs 45 4 (by decide) rfl dX4_kindNamed_45 ?_
          refine kb_RX4_50 (bs' := [wTp a by_ ln st en so va fa, wB G by_ 200 f]) (rest := []) (st' := [.int (bI (tNam f 4 st en so))]) 47 (c_X4_isName l G 4 a by_ ln st en so va fa f (by omega) (by omega) (by omega) (by omega)) [0, 1] 0 rfl rfl rfl [[a], [by_]] rfl rfl rfl rfl rfl rfl (Nat.le_of_ble_eq_true rfl) rfl dX4_kindNamed_47 ?_
          refine J_ifB_eq (tgt := 55) 50 dX4_kindNamed_50 (by decide) (fun c_5_ => ?_) (fun c_5_ => ?_)
          · skip
            refine J_aload_n 55 0 dX4_kindNamed_55 rfl rfl ?_
            refine J_ldcs 56 5 (by decide) rfl dX4_kindNamed_56 ?_
            refine kb_RX4_50 (bs' := [wTp a by_ ln st en so va fa, wB G by_ 200 f]) (rest := []) (st' := [.int (bI (tNam f 5 st en so))]) 58 (c_X4_isName l G 5 a by_ ln st en so va fa f (by omega) (by omega) (by omega) (by omega)) [0, 1] 0 rfl rfl rfl [[a], [by_]] rfl rfl rfl rfl rfl rfl (Nat.le_of_ble_eq_true rfl) rfl dX4_kindNamed_58 ?_
            refine J_ifB_eq (tgt := 68) 61 dX4_kindNamed_61 (by decide) (fun c_6_ => ?_) (fun c_6_ => ?_)
            · skip
              refine J_bipush (v := (-3)) 68 dX4_kindNamed_68 rfl ?_
              exact J_iret 70 dX4_kindNamed_70 (congrArg (fun x_ => some (Value.int x_)) (by simp only [fKn, cif, *, if_true, if_false, ite_true, ite_false])) rfl
            · skip
              refine J_iconst (v := 5) 64 dX4_kindNamed_64 rfl ?_
              refine J_goto (tgt := 70) 65 dX4_kindNamed_65 (by decide) ?_
              exact J_iret 70 dX4_kindNamed_70 (congrArg (fun x_ => some (Value.int x_)) (by simp only [fKn, cif, *, if_true, if_false, ite_true, ite_false])) rfl
          · skip
            refine J_iconst (v := 4) 53 dX4_kindNamed_53 rfl ?_
            exact J_iret 54 dX4_kindNamed_54 (congrArg (fun x_ => some (Value.int x_)) (by simp only [fKn, cif, *, if_true, if_false, ite_true, ite_false])) rfl
        · skip
          refine J_iconst (v := 3) 42 dX4_kindNamed_42 rfl ?_
          exact J_iret 43 dX4_kindNamed_43 (congrArg (fun x_ => some (Value.int x_)) (by simp only [fKn, cif, *, if_true, if_false, ite_true, ite_false])) rfl
      · skip
        refine J_iconst (v := 2) 31 dX4_kindNamed_31 rfl ?_
        exact J_iret 32 dX4_kindNamed_32 (congrArg (fun x_ => some (Value.int x_)) (by simp only [fKn, cif, *, if_true, if_false, ite_true, ite_false])) rfl
    · skip
      refine J_iconst (v := 1) 20 dX4_kindNamed_20 rfl ?_
      exact J_iret 21 dX4_kindNamed_21 (congrArg (fun x_ => some (Value.int x_)) (by simp only [fKn, cif, *, if_true, if_false, ite_true, ite_false])) rfl
  · skip
    refine J_iconst (v := 0) 9 dX4_kindNamed_9 rfl ?_
    exact J_iret 10 dX4_kindNamed_10 (congrArg (fun x_ => some (Value.int x_)) (by simp only [fKn, cif, *, if_true, if_false, ite_true, ite_false])) rfl
set_option maxRecDepth 100000 in
set_option maxHeartbeats 4000000 in
theorem c_X4_lawNamed (l : Launch) (G : Gd) (a : Nat) (by_ : Nat) (ln : Nat) (st : Nat) (en : Nat) (so : Int32) (va : Int32) (fa : Int32) (f : Nat → Int32) (hen : en ≤ ln) (hln : ln ≤ 200) (hse : st ≤ en) : Ct l G yX4_lawNamed cX4_lawNamed 1 (some (FieldType.int)) 5 [.ref a] (wF [wTp a by_ ln st en so va fa, wB G by_ 200 f]) (some (.int (fLn f st en so))) (wF [wTp a by_ ln st en so va fa, wB G by_ 200 f]) := by
  refine Ct.of "GooseArms$Tape" [some (.ref a)] (by decide +kernel) rfl (Nat.le_of_ble_eq_true rfl) rfl ?_
  refine J_aload_n 0 0 dX4_lawNamed_0 rfl rfl ?_
  refine J_ldcs 1 6 (by decide) rfl dX4_lawNamed_1 ?_
  refine kb_RX4_50 (bs' := [wTp a by_ ln st en so va fa, wB G by_ 200 f]) (rest := []) (st' := [.int (bI (tNam f 6 st en so))]) 3 (c_X4_isName l G 6 a by_ ln st en so va fa f (by omega) (by omega) (by omega) (by omega)) [0, 1] 0 rfl rfl rfl [[a], [by_]] rfl rfl rfl rfl rfl rfl (Nat.le_of_ble_eq_true rfl) rfl dX4_lawNamed_3 ?_
  refine J_ifB_eq (tgt := 11) 6 dX4_lawNamed_6 (by decide) (fun c_1_ => ?_) (fun c_1_ => ?_)
  · skip
    refine J_aload_n 11 0 dX4_lawNamed_11 rfl rfl ?_
    refine J_ldcs 12 7 (by decide) rfl dX4_lawNamed_12 ?_
    refine kb_RX4_50 (bs' := [wTp a by_ ln st en so va fa, wB G by_ 200 f]) (rest := []) (st' := [.int (bI (tNam f 7 st en so))]) 14 (c_X4_isName l G 7 a by_ ln st en so va fa f (by omega) (by omega) (by omega) (by omega)) [0, 1] 0 rfl rfl rfl [[a], [by_]] rfl rfl rfl rfl rfl rfl (Nat.le_of_ble_eq_true rfl) rfl dX4_lawNamed_14 ?_
    refine J_ifB_eq (tgt := 22) 17 dX4_lawNamed_17 (by decide) (fun c_2_ => ?_) (fun c_2_ => ?_)
    · skip
      refine J_aload_n 22 0 dX4_lawNamed_22 rfl rfl ?_
      refine J_ldcs 23 8 (by decide) rfl dX4_lawNamed_23 ?_
      refine kb_RX4_50 (bs' := [wTp a by_ ln st en so va fa, wB G by_ 200 f]) (rest := []) (st' := [.int (bI (tNam f 8 st en so))]) 25 (c_X4_isName l G 8 a by_ ln st en so va fa f (by omega) (by omega) (by omega) (by omega)) [0, 1] 0 rfl rfl rfl [[a], [by_]] rfl rfl rfl rfl rfl rfl (Nat.le_of_ble_eq_true rfl) rfl dX4_lawNamed_25 ?_
      refine J_ifB_eq (tgt := 33) 28 dX4_lawNamed_28 (by decide) (fun c_3_ => ?_) (fun c_3_ => ?_)
      · skip
        refine J_aload_n 33 0 dX4_lawNamed_33 rfl rfl ?_
        refine J_ldcs 34 9 (by decide) rfl dX4_lawNamed_34 ?_
        refine kb_RX4_50 (bs' := [wTp a by_ ln st en so va fa, wB G by_ 200 f]) (rest := []) (st' := [.int (bI (tNam f 9 st en so))]) 36 (c_X4_isName l G 9 a by_ ln st en so va fa f (by omega) (by omega) (by omega) (by omega)) [0, 1] 0 rfl rfl rfl [[a], [by_]] rfl rfl rfl rfl rfl rfl (Nat.le_of_ble_eq_true rfl) rfl dX4_lawNamed_36 ?_
        refine J_ifB_eq (tgt := 46) 39 dX4_lawNamed_39 (by decide) (fun c_4_ => ?_) (fun c_4_ => ?_)
        · skip
          refine J_bipush (v := (-3)) 46 dX4_lawNamed_46 rfl ?_
          exact J_iret 48 dX4_lawNamed_48 (congrArg (fun x_ => some (Value.int x_)) (by simp only [fLn, cif, *, if_true, if_false, ite_true, ite_false])) rfl
        · skip
          refine J_iconst (v := 3) 42 dX4_lawNamed_42 rfl ?_
          refine J_goto (tgt := 48) 43 dX4_lawNamed_43 (by decide) ?_
          exact J_iret 48 dX4_lawNamed_48 (congrArg (fun x_ => some (Value.int x_)) (by simp only [fLn, cif, *, if_true, if_false, ite_true, ite_false])) rfl
      · skip
        refine J_iconst (v := 2) 31 dX4_lawNamed_31 rfl ?_
        exact J_iret 32 dX4_lawNamed_32 (congrArg (fun x_ => some (Value.int x_)) (by simp only [fLn, cif, *, if_true, if_false, ite_true, ite_false])) rfl
    · skip
      refine J_iconst (v := 1) 20 dX4_lawNamed_20 rfl ?_
      exact J_iret 21 dX4_lawNamed_21 (congrArg (fun x_ => some (Value.int x_)) (by simp only [fLn, cif, *, if_true, if_false, ite_true, ite_false])) rfl
  · skip
    refine J_iconst (v := 0) 9 dX4_lawNamed_9 rfl ?_
    exact J_iret 10 dX4_lawNamed_10 (congrArg (fun x_ => some (Value.int x_)) (by simp only [fLn, cif, *, if_true, if_false, ite_true, ite_false])) rfl
set_option maxRecDepth 100000 in
set_option maxHeartbeats 4000000 in
theorem c_X4_tellsOne (l : Launch) (G : Gd) (a : Nat) (by_ : Nat) (ln : Nat) (st : Nat) (en : Nat) (so : Int32) (va : Int32) (fa : Int32) (f : Nat → Int32) (c : Nat → Nat) (la : Nat → Int32) (ns : Nat) (sd : Nat) (to : Nat → Int32) (he : Nat → Int32) (sw : Nat → Int32) (nh : Nat) (ki : Nat → Int32) (te : Nat → Int32) (mi : Nat → Int32) (ar : Nat → Int32) (z : Int32) (hen : en ≤ ln) (hln : ln ≤ 200) (hse : st ≤ en) (hns : ns ≤ 12) (hnh : nh ≤ 8) : Ct l G yX4_tellsOne cX4_tellsOne 4 none 7 [.ref a, .ref (c 0)] (wF [wTp a by_ ln st en so va fa, wB G by_ 200 f, wCt G c la ns sd to he sw nh ki te mi ar z]) none (wF [wTp a by_ ln ((tOne f ln ((st, en, so, va, fa), (la, ns, to, he, sw, nh, ki, te, mi, ar))).1.1) ((tOne f ln ((st, en, so, va, fa), (la, ns, to, he, sw, nh, ki, te, mi, ar))).1.2.1) ((tOne f ln ((st, en, so, va, fa), (la, ns, to, he, sw, nh, ki, te, mi, ar))).1.2.2.1) ((tOne f ln ((st, en, so, va, fa), (la, ns, to, he, sw, nh, ki, te, mi, ar))).1.2.2.2.1) ((tOne f ln ((st, en, so, va, fa), (la, ns, to, he, sw, nh, ki, te, mi, ar))).1.2.2.2.2), wB G by_ 200 f, wCt G c ((tOne f ln ((st, en, so, va, fa), (la, ns, to, he, sw, nh, ki, te, mi, ar))).2.1) ((tOne f ln ((st, en, so, va, fa), (la, ns, to, he, sw, nh, ki, te, mi, ar))).2.2.1) sd ((tOne f ln ((st, en, so, va, fa), (la, ns, to, he, sw, nh, ki, te, mi, ar))).2.2.2.1) ((tOne f ln ((st, en, so, va, fa), (la, ns, to, he, sw, nh, ki, te, mi, ar))).2.2.2.2.1) ((tOne f ln ((st, en, so, va, fa), (la, ns, to, he, sw, nh, ki, te, mi, ar))).2.2.2.2.2.1) ((tOne f ln ((st, en, so, va, fa), (la, ns, to, he, sw, nh, ki, te, mi, ar))).2.2.2.2.2.2.1) ((tOne f ln ((st, en, so, va, fa), (la, ns, to, he, sw, nh, ki, te, mi, ar))).2.2.2.2.2.2.2.1) ((tOne f ln ((st, en, so, va, fa), (la, ns, to, he, sw, nh, ki, te, mi, ar))).2.2.2.2.2.2.2.2.1) ((tOne f ln ((st, en, so, va, fa), (la, ns, to, he, sw, nh, ki, te, mi, ar))).2.2.2.2.2.2.2.2.2.1) ((tOne f ln ((st, en, so, va, fa), (la, ns, to, he, sw, nh, ki, te, mi, ar))).2.2.2.2.2.2.2.2.2.2) z]) := by
  refine Ct.of "GooseArms$Tape" [some (.ref a), some (.ref (c 0)), none, none] (by decide +kernel) rfl (Nat.le_of_ble_eq_true rfl) rfl ?_
  refine J_aload_n 0 0 dX4_tellsOne_0 rfl rfl ?_
  refine kb_RX4_41 (bs' := [wTp a by_ ln st en so va fa, wB G by_ 200 f, wCt G c la ns sd to he sw nh ki te mi ar z]) (rest := []) (st' := [.int (fKn f st en so)]) 1 (c_X4_kindNamed l G a by_ ln st en so va fa f (by omega) (by omega) (by omega)) [0, 1] 0 rfl rfl rfl [[a], [by_]] rfl rfl rfl rfl rfl rfl (Nat.le_of_ble_eq_true rfl) rfl dX4_tellsOne_1 ?_
  refine J_istore_n (lv' := [some (.ref a), some (.ref (c 0)), some (.int (fKn f st en so)), none]) 4 2 dX4_tellsOne_4 rfl (by decide) rfl ?_
  refine J_aload_n 5 0 dX4_tellsOne_5 rfl rfl ?_
  refine kb_RX4_45 (bs' := [wTp a by_ ln st en so va fa, wB G by_ 200 f, wCt G c la ns sd to he sw nh ki te mi ar z]) (rest := []) (st' := [.int (fLn f st en so)]) 6 (c_X4_lawNamed l G a by_ ln st en so va fa f (by omega) (by omega) (by omega)) [0, 1] 0 rfl rfl rfl [[a], [by_]] rfl rfl rfl rfl rfl rfl (Nat.le_of_ble_eq_true rfl) rfl dX4_tellsOne_6 ?_
  refine J_istore_n (lv' := [some (.ref a), some (.ref (c 0)), some (.int (fKn f st en so)), some (.int (fLn f st en so))]) 9 3 dX4_tellsOne_9 rfl (by decide) rfl ?_
  refine J_aload_n 10 0 dX4_tellsOne_10 rfl rfl ?_
  refine J_ldcs 11 10 (by decide) rfl dX4_tellsOne_11 ?_
  refine kb_RX4_50 (bs' := [wTp a by_ ln st en so va fa, wB G by_ 200 f, wCt G c la ns sd to he sw nh ki te mi ar z]) (rest := []) (st' := [.int (bI (tNam f 10 st en so))]) 13 (c_X4_isName l G 10 a by_ ln st en so va fa f (by omega) (by omega) (by omega) (by omega)) [0, 1] 0 rfl rfl rfl [[a], [by_]] rfl rfl rfl rfl rfl rfl (Nat.le_of_ble_eq_true rfl) rfl dX4_tellsOne_13 ?_
  refine J_ifB_eq (tgt := 27) 16 dX4_tellsOne_16 (by decide) (fun c_1_ => ?_) (fun c_1_ => ?_)
  · skip
    refine J_iload_n 27 2 dX4_tellsOne_27 rfl rfl ?_
    refine J_if_lt (tgt := 40) 28 dX4_tellsOne_28 (by decide) (fun c_2_ => ?_) (fun c_2_ => ?_)
    · skip
      refine J_iload_n 40 3 dX4_tellsOne_40 rfl rfl ?_
      refine J_if_lt (tgt := 66) 41 dX4_tellsOne_41 (by decide) (fun c_3_ => ?_) (fun c_3_ => ?_)
      · skip
        refine J_aload_n 66 0 dX4_tellsOne_66 rfl rfl ?_
        refine kb_RX4_74 (bs' := [wTp a by_ ln st en so va (fFl st fa), wB G by_ 200 f, wCt G c la ns sd to he sw nh ki te mi ar z]) (rest := []) (st' := []) 67 (c_X4_fails l G a by_ ln st en so va fa ) [0] 0 rfl rfl rfl [[a]] rfl rfl rfl rfl rfl rfl (Nat.le_of_ble_eq_true rfl) rfl dX4_tellsOne_67 ?_
        refine J_aload_n 70 0 dX4_tellsOne_70 rfl rfl ?_
        refine kb_RX4_77 (bs' := [wTp a by_ ln ((tStp f ln (st, en, so, va, (fFl st fa))).1) ((tStp f ln (st, en, so, va, (fFl st fa))).2.1) ((tStp f ln (st, en, so, va, (fFl st fa))).2.2.1) ((tStp f ln (st, en, so, va, (fFl st fa))).2.2.2.1) ((tStp f ln (st, en, so, va, (fFl st fa))).2.2.2.2), wB G by_ 200 f, wCt G c la ns sd to he sw nh ki te mi ar z]) (rest := []) (st' := []) 71 (c_X4_stops l G a by_ ln st en so va (fFl st fa) f (by omega) (by omega) (by omega)) [0, 1] 0 rfl rfl rfl [[a], [by_]] rfl rfl rfl rfl rfl rfl (Nat.le_of_ble_eq_true rfl) rfl dX4_tellsOne_71 ?_
        obtain ⟨⟨st_71, en_71, so_71, va_71, fa_71⟩, hT_71⟩ : ∃ t_, tStp f ln (st, en, so, va, (fFl st fa)) = t_ := ⟨_, rfl⟩
        refine J_ws (ws' := (wF [wTp a by_ ln st_71 en_71 so_71 va_71 fa_71, wB G by_ 200 f, wCt G c la ns sd to he sw nh ki te mi ar z])) 74 (by rw [hT_71]) ?_
        have hle_71 := tStp_le hT_71 (by first | omega | (dsimp only; omega)) (by first | omega | (dsimp only; omega))
        have hN_ : tOne f ln ((st, en, so, va, fa), (la, ns, to, he, sw, nh, ki, te, mi, ar)) = ((st_71, en_71, so_71, va_71, fa_71), la, ns, to, he, sw, nh, ki, te, mi, ar) := by unfold tOne; (try dsimp only); rw [cif_f (by assumption), cif_f (Int32.not_le.mpr (by assumption)), cif_f (Int32.not_le.mpr (by assumption)), hT_71]
        exact J_vret 74 dX4_tellsOne_74 rfl (cg15 (fun (x0_ : Nat) (x1_ : Nat) (x2_ : Int32) (x3_ : Int32) (x4_ : Int32) (x5_ : Nat → Int32) (x6_ : Nat) (x7_ : Nat → Int32) (x8_ : Nat → Int32) (x9_ : Nat → Int32) (x10_ : Nat) (x11_ : Nat → Int32) (x12_ : Nat → Int32) (x13_ : Nat → Int32) (x14_ : Nat → Int32) => (wF [wTp a by_ ln x0_ x1_ x2_ x3_ x4_, wB G by_ 200 f, wCt G c x5_ x6_ sd x7_ x8_ x9_ x10_ x11_ x12_ x13_ x14_ z])) st_71 ((tOne f ln ((st, en, so, va, fa), (la, ns, to, he, sw, nh, ki, te, mi, ar))).1.1) en_71 ((tOne f ln ((st, en, so, va, fa), (la, ns, to, he, sw, nh, ki, te, mi, ar))).1.2.1) so_71 ((tOne f ln ((st, en, so, va, fa), (la, ns, to, he, sw, nh, ki, te, mi, ar))).1.2.2.1) va_71 ((tOne f ln ((st, en, so, va, fa), (la, ns, to, he, sw, nh, ki, te, mi, ar))).1.2.2.2.1) fa_71 ((tOne f ln ((st, en, so, va, fa), (la, ns, to, he, sw, nh, ki, te, mi, ar))).1.2.2.2.2) la ((tOne f ln ((st, en, so, va, fa), (la, ns, to, he, sw, nh, ki, te, mi, ar))).2.1) ns ((tOne f ln ((st, en, so, va, fa), (la, ns, to, he, sw, nh, ki, te, mi, ar))).2.2.1) to ((tOne f ln ((st, en, so, va, fa), (la, ns, to, he, sw, nh, ki, te, mi, ar))).2.2.2.1) he ((tOne f ln ((st, en, so, va, fa), (la, ns, to, he, sw, nh, ki, te, mi, ar))).2.2.2.2.1) sw ((tOne f ln ((st, en, so, va, fa), (la, ns, to, he, sw, nh, ki, te, mi, ar))).2.2.2.2.2.1) nh ((tOne f ln ((st, en, so, va, fa), (la, ns, to, he, sw, nh, ki, te, mi, ar))).2.2.2.2.2.2.1) ki ((tOne f ln ((st, en, so, va, fa), (la, ns, to, he, sw, nh, ki, te, mi, ar))).2.2.2.2.2.2.2.1) te ((tOne f ln ((st, en, so, va, fa), (la, ns, to, he, sw, nh, ki, te, mi, ar))).2.2.2.2.2.2.2.2.1) mi ((tOne f ln ((st, en, so, va, fa), (la, ns, to, he, sw, nh, ki, te, mi, ar))).2.2.2.2.2.2.2.2.2.1) ar ((tOne f ln ((st, en, so, va, fa), (la, ns, to, he, sw, nh, ki, te, mi, ar))).2.2.2.2.2.2.2.2.2.2) (by rw [hN_]) (by rw [hN_]) (by rw [hN_]) (by rw [hN_]) (by rw [hN_]) (by rw [hN_]) (by rw [hN_]) (by rw [hN_]) (by rw [hN_]) (by rw [hN_]) (by rw [hN_]) (by rw [hN_]) (by rw [hN_]) (by rw [hN_]) (by rw [hN_]))
      · skip
        obtain ⟨jl_, hjl_, hj_⟩ := fLn_nI (Int32.not_lt.mp c_3_)
        refine J_aload_n 44 0 dX4_tellsOne_44 rfl rfl ?_
        refine kb_RX4_34 (bs' := [wTp a by_ ln ((tGo f ln (st, en, so, va, fa)).1) ((tGo f ln (st, en, so, va, fa)).2.1) ((tGo f ln (st, en, so, va, fa)).2.2.1) ((tGo f ln (st, en, so, va, fa)).2.2.2.1) ((tGo f ln (st, en, so, va, fa)).2.2.2.2), wB G by_ 200 f, wCt G c la ns sd to he sw nh ki te mi ar z]) (rest := []) (st' := []) 45 (c_X4_goesOn l G a by_ ln st en so va fa f (by omega) (by omega)) [0, 1] 0 rfl rfl rfl [[a], [by_]] rfl rfl rfl rfl rfl rfl (Nat.le_of_ble_eq_true rfl) rfl dX4_tellsOne_45 ?_
        obtain ⟨⟨st_45, en_45, so_45, va_45, fa_45⟩, hT_45⟩ : ∃ t_, tGo f ln (st, en, so, va, fa) = t_ := ⟨_, rfl⟩
        refine J_ws (ws' := (wF [wTp a by_ ln st_45 en_45 so_45 va_45 fa_45, wB G by_ 200 f, wCt G c la ns sd to he sw nh ki te mi ar z])) 48 (by rw [hT_45]) ?_
        have hle_45 := tGo_le hT_45 (by first | omega | (dsimp only; omega))
        refine J_aload_n 48 1 dX4_tellsOne_48 rfl rfl ?_
        refine g_40 (v := .ref (c 1)) 49 2 rfl rfl dX4_tellsOne_49 ?_
        refine J_iload_n 52 3 dX4_tellsOne_52 rfl rfl ?_
        refine J_aload_n 53 0 dX4_tellsOne_53 rfl rfl ?_
        refine J_getsN (v := .ref (G.2.2 1)) 54 (fun _ _ _ h_ => h_.2.2.2.2.2.2.2.2.2.2.2.2.2.2.2) gz1 rfl dX4_tellsOne_54 ?_
        refine J_iload_n 57 3 dX4_tellsOne_57 rfl rfl ?_
        refine J_stat (v := .int (([9, 9, 9, 99] : List Int32).getD jl_ 0)) 58 gt1 jl_ hj_ hjl_ (by decide) rfl dX4_tellsOne_58 ?_
        refine kb_RX4_70 (bs' := [wTp a by_ ln ((tNum f ln (([9, 9, 9, 99] : List Int32).getD jl_ 0) (st_45, en_45, so_45, va_45, fa_45)).2.1) ((tNum f ln (([9, 9, 9, 99] : List Int32).getD jl_ 0) (st_45, en_45, so_45, va_45, fa_45)).2.2.1) ((tNum f ln (([9, 9, 9, 99] : List Int32).getD jl_ 0) (st_45, en_45, so_45, va_45, fa_45)).2.2.2.1) ((tNum f ln (([9, 9, 9, 99] : List Int32).getD jl_ 0) (st_45, en_45, so_45, va_45, fa_45)).2.2.2.2.1) ((tNum f ln (([9, 9, 9, 99] : List Int32).getD jl_ 0) (st_45, en_45, so_45, va_45, fa_45)).2.2.2.2.2), wB G by_ 200 f, wCt G c la ns sd to he sw nh ki te mi ar z]) (rest := [.int (fLn f st en so), .ref (c 1)]) (st' := [.int ((tNum f ln (([9, 9, 9, 99] : List Int32).getD jl_ 0) (st_45, en_45, so_45, va_45, fa_45)).1), .int (fLn f st en so), .ref (c 1)]) 59 (c_X4_number l G (([9, 9, 9, 99] : List Int32).getD jl_ 0) a by_ ln st_45 en_45 so_45 va_45 fa_45 f (by omega) (by omega) (by omega)) [0, 1] 0 rfl rfl rfl [[a], [by_]] rfl rfl rfl rfl rfl rfl (Nat.le_of_ble_eq_true rfl) rfl dX4_tellsOne_59 ?_
        obtain ⟨⟨rv_59, st_59, en_59, so_59, va_59, fa_59⟩, hT_59⟩ : ∃ t_, tNum f ln (([9, 9, 9, 99] : List Int32).getD jl_ 0) (st_45, en_45, so_45, va_45, fa_45) = t_ := ⟨_, rfl⟩
        refine J_ws (ws' := (wF [wTp a by_ ln st_59 en_59 so_59 va_59 fa_59, wB G by_ 200 f, wCt G c la ns sd to he sw nh ki te mi ar z])) 62 (by rw [hT_59]) ?_
        refine J_st (st' := [.int rv_59, .int (fLn f st en so), .ref (c 1)]) 62 (by rw [hT_59]) ?_
        have hle_59 := tNum_le hT_59 (by first | omega | (dsimp only; omega)) (by first | omega | (dsimp only; omega))
        refine J_iast (ws' := (wF [wTp a by_ ln st_59 en_59 so_59 va_59 fa_59, wB G by_ 200 f, wCt G c (upd la jl_ rv_59) ns sd to he sw nh ki te mi ar z])) 62 3 jl_ rfl hj_ hjl_ (by decide) rfl dX4_tellsOne_62 ?_
        refine J_goto (tgt := 70) 63 dX4_tellsOne_63 (by decide) ?_
        refine J_aload_n 70 0 dX4_tellsOne_70 rfl rfl ?_
        refine kb_RX4_77 (bs' := [wTp a by_ ln ((tStp f ln (st_59, en_59, so_59, va_59, fa_59)).1) ((tStp f ln (st_59, en_59, so_59, va_59, fa_59)).2.1) ((tStp f ln (st_59, en_59, so_59, va_59, fa_59)).2.2.1) ((tStp f ln (st_59, en_59, so_59, va_59, fa_59)).2.2.2.1) ((tStp f ln (st_59, en_59, so_59, va_59, fa_59)).2.2.2.2), wB G by_ 200 f, wCt G c (upd la jl_ rv_59) ns sd to he sw nh ki te mi ar z]) (rest := []) (st' := []) 71 (c_X4_stops l G a by_ ln st_59 en_59 so_59 va_59 fa_59 f (by omega) (by omega) (by omega)) [0, 1] 0 rfl rfl rfl [[a], [by_]] rfl rfl rfl rfl rfl rfl (Nat.le_of_ble_eq_true rfl) rfl dX4_tellsOne_71 ?_
        obtain ⟨⟨st_71, en_71, so_71, va_71, fa_71⟩, hT_71⟩ : ∃ t_, tStp f ln (st_59, en_59, so_59, va_59, fa_59) = t_ := ⟨_, rfl⟩
        refine J_ws (ws' := (wF [wTp a by_ ln st_71 en_71 so_71 va_71 fa_71, wB G by_ 200 f, wCt G c (upd la jl_ rv_59) ns sd to he sw nh ki te mi ar z])) 74 (by rw [hT_71]) ?_
        have hle_71 := tStp_le hT_71 (by first | omega | (dsimp only; omega)) (by first | omega | (dsimp only; omega))
        have hN_ : tOne f ln ((st, en, so, va, fa), (la, ns, to, he, sw, nh, ki, te, mi, ar)) = ((st_71, en_71, so_71, va_71, fa_71), upd la jl_ rv_59, ns, to, he, sw, nh, ki, te, mi, ar) := by unfold tOne; (try dsimp only); rw [cif_f (by assumption), cif_f (Int32.not_le.mpr (by assumption)), cif_t (Int32.not_lt.mp (by assumption)), hj_, nI_clamp (by omega), hT_45]; (try dsimp only); rw [hT_59]; (try dsimp only); rw [hT_71]
        exact J_vret 74 dX4_tellsOne_74 rfl (cg15 (fun (x0_ : Nat) (x1_ : Nat) (x2_ : Int32) (x3_ : Int32) (x4_ : Int32) (x5_ : Nat → Int32) (x6_ : Nat) (x7_ : Nat → Int32) (x8_ : Nat → Int32) (x9_ : Nat → Int32) (x10_ : Nat) (x11_ : Nat → Int32) (x12_ : Nat → Int32) (x13_ : Nat → Int32) (x14_ : Nat → Int32) => (wF [wTp a by_ ln x0_ x1_ x2_ x3_ x4_, wB G by_ 200 f, wCt G c x5_ x6_ sd x7_ x8_ x9_ x10_ x11_ x12_ x13_ x14_ z])) st_71 ((tOne f ln ((st, en, so, va, fa), (la, ns, to, he, sw, nh, ki, te, mi, ar))).1.1) en_71 ((tOne f ln ((st, en, so, va, fa), (la, ns, to, he, sw, nh, ki, te, mi, ar))).1.2.1) so_71 ((tOne f ln ((st, en, so, va, fa), (la, ns, to, he, sw, nh, ki, te, mi, ar))).1.2.2.1) va_71 ((tOne f ln ((st, en, so, va, fa), (la, ns, to, he, sw, nh, ki, te, mi, ar))).1.2.2.2.1) fa_71 ((tOne f ln ((st, en, so, va, fa), (la, ns, to, he, sw, nh, ki, te, mi, ar))).1.2.2.2.2) (upd la jl_ rv_59) ((tOne f ln ((st, en, so, va, fa), (la, ns, to, he, sw, nh, ki, te, mi, ar))).2.1) ns ((tOne f ln ((st, en, so, va, fa), (la, ns, to, he, sw, nh, ki, te, mi, ar))).2.2.1) to ((tOne f ln ((st, en, so, va, fa), (la, ns, to, he, sw, nh, ki, te, mi, ar))).2.2.2.1) he ((tOne f ln ((st, en, so, va, fa), (la, ns, to, he, sw, nh, ki, te, mi, ar))).2.2.2.2.1) sw ((tOne f ln ((st, en, so, va, fa), (la, ns, to, he, sw, nh, ki, te, mi, ar))).2.2.2.2.2.1) nh ((tOne f ln ((st, en, so, va, fa), (la, ns, to, he, sw, nh, ki, te, mi, ar))).2.2.2.2.2.2.1) ki ((tOne f ln ((st, en, so, va, fa), (la, ns, to, he, sw, nh, ki, te, mi, ar))).2.2.2.2.2.2.2.1) te ((tOne f ln ((st, en, so, va, fa), (la, ns, to, he, sw, nh, ki, te, mi, ar))).2.2.2.2.2.2.2.2.1) mi ((tOne f ln ((st, en, so, va, fa), (la, ns, to, he, sw, nh, ki, te, mi, ar))).2.2.2.2.2.2.2.2.2.1) ar ((tOne f ln ((st, en, so, va, fa), (la, ns, to, he, sw, nh, ki, te, mi, ar))).2.2.2.2.2.2.2.2.2.2) (by rw [hN_]) (by rw [hN_]) (by rw [hN_]) (by rw [hN_]) (by rw [hN_]) (by rw [hN_]) (by rw [hN_]) (by rw [hN_]) (by rw [hN_]) (by rw [hN_]) (by rw [hN_]) (by rw [hN_]) (by rw [hN_]) (by rw [hN_]) (by rw [hN_]))
    · skip
      refine J_aload_n 31 0 dX4_tellsOne_31 rfl rfl ?_
      refine J_aload_n 32 1 dX4_tellsOne_32 rfl rfl ?_
      refine J_iload_n 33 2 dX4_tellsOne_33 rfl rfl ?_
      refine kb_RX4_57 (bs' := [wTp a by_ ln ((tHr f ln (fKn f st en so) (st, en, so, va, fa) nh ki te mi ar).1.1) ((tHr f ln (fKn f st en so) (st, en, so, va, fa) nh ki te mi ar).1.2.1) ((tHr f ln (fKn f st en so) (st, en, so, va, fa) nh ki te mi ar).1.2.2.1) ((tHr f ln (fKn f st en so) (st, en, so, va, fa) nh ki te mi ar).1.2.2.2.1) ((tHr f ln (fKn f st en so) (st, en, so, va, fa) nh ki te mi ar).1.2.2.2.2), wB G by_ 200 f, wCt G c la ns sd to he sw ((tHr f ln (fKn f st en so) (st, en, so, va, fa) nh ki te mi ar).2.1) ((tHr f ln (fKn f st en so) (st, en, so, va, fa) nh ki te mi ar).2.2.1) ((tHr f ln (fKn f st en so) (st, en, so, va, fa) nh ki te mi ar).2.2.2.1) ((tHr f ln (fKn f st en so) (st, en, so, va, fa) nh ki te mi ar).2.2.2.2.1) ((tHr f ln (fKn f st en so) (st, en, so, va, fa) nh ki te mi ar).2.2.2.2.2) z]) (rest := []) (st' := []) 34 (c_X4_tellsHearer l G (fKn f st en so) a by_ ln st en so va fa f c la ns sd to he sw nh ki te mi ar z (by omega) (by omega) (by omega) (by omega)) [0, 1, 2] 0 rfl rfl rfl [[a], [by_], [c 0, c 1, c 2, c 3, c 4, c 5, c 6, c 7, c 8]] rfl rfl rfl rfl rfl rfl (Nat.le_of_ble_eq_true rfl) rfl dX4_tellsOne_34 ?_
      obtain ⟨⟨⟨st_34, en_34, so_34, va_34, fa_34⟩, nh_34, ki_34, te_34, mi_34, ar_34⟩, hT_34⟩ : ∃ t_, tHr f ln (fKn f st en so) (st, en, so, va, fa) nh ki te mi ar = t_ := ⟨_, rfl⟩
      refine J_ws (ws' := (wF [wTp a by_ ln st_34 en_34 so_34 va_34 fa_34, wB G by_ 200 f, wCt G c la ns sd to he sw nh_34 ki_34 te_34 mi_34 ar_34 z])) 37 (by rw [hT_34]) ?_
      have hle_34 := tHr_le hT_34 (by first | omega | (dsimp only; omega)) (by first | omega | (dsimp only; omega)) (by first | omega | (dsimp only; omega))
      refine J_goto (tgt := 70) 37 dX4_tellsOne_37 (by decide) ?_
      refine J_aload_n 70 0 dX4_tellsOne_70 rfl rfl ?_
      refine kb_RX4_77 (bs' := [wTp a by_ ln ((tStp f ln (st_34, en_34, so_34, va_34, fa_34)).1) ((tStp f ln (st_34, en_34, so_34, va_34, fa_34)).2.1) ((tStp f ln (st_34, en_34, so_34, va_34, fa_34)).2.2.1) ((tStp f ln (st_34, en_34, so_34, va_34, fa_34)).2.2.2.1) ((tStp f ln (st_34, en_34, so_34, va_34, fa_34)).2.2.2.2), wB G by_ 200 f, wCt G c la ns sd to he sw nh_34 ki_34 te_34 mi_34 ar_34 z]) (rest := []) (st' := []) 71 (c_X4_stops l G a by_ ln st_34 en_34 so_34 va_34 fa_34 f (by omega) (by omega) (by omega)) [0, 1] 0 rfl rfl rfl [[a], [by_]] rfl rfl rfl rfl rfl rfl (Nat.le_of_ble_eq_true rfl) rfl dX4_tellsOne_71 ?_
      obtain ⟨⟨st_71, en_71, so_71, va_71, fa_71⟩, hT_71⟩ : ∃ t_, tStp f ln (st_34, en_34, so_34, va_34, fa_34) = t_ := ⟨_, rfl⟩
      refine J_ws (ws' := (wF [wTp a by_ ln st_71 en_71 so_71 va_71 fa_71, wB G by_ 200 f, wCt G c la ns sd to he sw nh_34 ki_34 te_34 mi_34 ar_34 z])) 74 (by rw [hT_71]) ?_
      have hle_71 := tStp_le hT_71 (by first | omega | (dsimp only; omega)) (by first | omega | (dsimp only; omega))
      have hN_ : tOne f ln ((st, en, so, va, fa), (la, ns, to, he, sw, nh, ki, te, mi, ar)) = ((st_71, en_71, so_71, va_71, fa_71), la, ns, to, he, sw, nh_34, ki_34, te_34, mi_34, ar_34) := by unfold tOne; (try dsimp only); rw [cif_f (by assumption), cif_t (Int32.not_lt.mp (by assumption)), hT_34]; (try dsimp only); rw [hT_71]
      exact J_vret 74 dX4_tellsOne_74 rfl (cg15 (fun (x0_ : Nat) (x1_ : Nat) (x2_ : Int32) (x3_ : Int32) (x4_ : Int32) (x5_ : Nat → Int32) (x6_ : Nat) (x7_ : Nat → Int32) (x8_ : Nat → Int32) (x9_ : Nat → Int32) (x10_ : Nat) (x11_ : Nat → Int32) (x12_ : Nat → Int32) (x13_ : Nat → Int32) (x14_ : Nat → Int32) => (wF [wTp a by_ ln x0_ x1_ x2_ x3_ x4_, wB G by_ 200 f, wCt G c x5_ x6_ sd x7_ x8_ x9_ x10_ x11_ x12_ x13_ x14_ z])) st_71 ((tOne f ln ((st, en, so, va, fa), (la, ns, to, he, sw, nh, ki, te, mi, ar))).1.1) en_71 ((tOne f ln ((st, en, so, va, fa), (la, ns, to, he, sw, nh, ki, te, mi, ar))).1.2.1) so_71 ((tOne f ln ((st, en, so, va, fa), (la, ns, to, he, sw, nh, ki, te, mi, ar))).1.2.2.1) va_71 ((tOne f ln ((st, en, so, va, fa), (la, ns, to, he, sw, nh, ki, te, mi, ar))).1.2.2.2.1) fa_71 ((tOne f ln ((st, en, so, va, fa), (la, ns, to, he, sw, nh, ki, te, mi, ar))).1.2.2.2.2) la ((tOne f ln ((st, en, so, va, fa), (la, ns, to, he, sw, nh, ki, te, mi, ar))).2.1) ns ((tOne f ln ((st, en, so, va, fa), (la, ns, to, he, sw, nh, ki, te, mi, ar))).2.2.1) to ((tOne f ln ((st, en, so, va, fa), (la, ns, to, he, sw, nh, ki, te, mi, ar))).2.2.2.1) he ((tOne f ln ((st, en, so, va, fa), (la, ns, to, he, sw, nh, ki, te, mi, ar))).2.2.2.2.1) sw ((tOne f ln ((st, en, so, va, fa), (la, ns, to, he, sw, nh, ki, te, mi, ar))).2.2.2.2.2.1) nh_34 ((tOne f ln ((st, en, so, va, fa), (la, ns, to, he, sw, nh, ki, te, mi, ar))).2.2.2.2.2.2.1) ki_34 ((tOne f ln ((st, en, so, va, fa), (la, ns, to, he, sw, nh, ki, te, mi, ar))).2.2.2.2.2.2.2.1) te_34 ((tOne f ln ((st, en, so, va, fa), (la, ns, to, he, sw, nh, ki, te, mi, ar))).2.2.2.2.2.2.2.2.1) mi_34 ((tOne f ln ((st, en, so, va, fa), (la, ns, to, he, sw, nh, ki, te, mi, ar))).2.2.2.2.2.2.2.2.2.1) ar_34 ((tOne f ln ((st, en, so, va, fa), (la, ns, to, he, sw, nh, ki, te, mi, ar))).2.2.2.2.2.2.2.2.2.2) (by rw [hN_]) (by rw [hN_]) (by rw [hN_]) (by rw [hN_]) (by rw [hN_]) (by rw [hN_]) (by rw [hN_]) (by rw [hN_]) (by rw [hN_]) (by rw [hN_]) (by rw [hN_]) (by rw [hN_]) (by rw [hN_]) (by rw [hN_]) (by rw [hN_]))
  · skip
    refine J_aload_n 19 0 dX4_tellsOne_19 rfl rfl ?_
    refine J_aload_n 20 1 dX4_tellsOne_20 rfl rfl ?_
    refine kb_RX4_54 (bs' := [wTp a by_ ln ((tSy f ln (st, en, so, va, fa) ns to he sw).1.1) ((tSy f ln (st, en, so, va, fa) ns to he sw).1.2.1) ((tSy f ln (st, en, so, va, fa) ns to he sw).1.2.2.1) ((tSy f ln (st, en, so, va, fa) ns to he sw).1.2.2.2.1) ((tSy f ln (st, en, so, va, fa) ns to he sw).1.2.2.2.2), wB G by_ 200 f, wCt G c la ((tSy f ln (st, en, so, va, fa) ns to he sw).2.1) sd ((tSy f ln (st, en, so, va, fa) ns to he sw).2.2.1) ((tSy f ln (st, en, so, va, fa) ns to he sw).2.2.2.1) ((tSy f ln (st, en, so, va, fa) ns to he sw).2.2.2.2) nh ki te mi ar z]) (rest := []) (st' := []) 21 (c_X4_tellsSaying l G a by_ ln st en so va fa f c la ns sd to he sw nh ki te mi ar z (by omega) (by omega) (by omega) (by omega)) [0, 1, 2] 0 rfl rfl rfl [[a], [by_], [c 0, c 1, c 2, c 3, c 4, c 5, c 6, c 7, c 8]] rfl rfl rfl rfl rfl rfl (Nat.le_of_ble_eq_true rfl) rfl dX4_tellsOne_21 ?_
    obtain ⟨⟨⟨st_21, en_21, so_21, va_21, fa_21⟩, ns_21, to_21, he_21, sw_21⟩, hT_21⟩ : ∃ t_, tSy f ln (st, en, so, va, fa) ns to he sw = t_ := ⟨_, rfl⟩
    refine J_ws (ws' := (wF [wTp a by_ ln st_21 en_21 so_21 va_21 fa_21, wB G by_ 200 f, wCt G c la ns_21 sd to_21 he_21 sw_21 nh ki te mi ar z])) 24 (by rw [hT_21]) ?_
    have hle_21 := tSy_le hT_21 (by first | omega | (dsimp only; omega)) (by first | omega | (dsimp only; omega)) (by first | omega | (dsimp only; omega))
    refine J_goto (tgt := 70) 24 dX4_tellsOne_24 (by decide) ?_
    refine J_aload_n 70 0 dX4_tellsOne_70 rfl rfl ?_
    refine kb_RX4_77 (bs' := [wTp a by_ ln ((tStp f ln (st_21, en_21, so_21, va_21, fa_21)).1) ((tStp f ln (st_21, en_21, so_21, va_21, fa_21)).2.1) ((tStp f ln (st_21, en_21, so_21, va_21, fa_21)).2.2.1) ((tStp f ln (st_21, en_21, so_21, va_21, fa_21)).2.2.2.1) ((tStp f ln (st_21, en_21, so_21, va_21, fa_21)).2.2.2.2), wB G by_ 200 f, wCt G c la ns_21 sd to_21 he_21 sw_21 nh ki te mi ar z]) (rest := []) (st' := []) 71 (c_X4_stops l G a by_ ln st_21 en_21 so_21 va_21 fa_21 f (by omega) (by omega) (by omega)) [0, 1] 0 rfl rfl rfl [[a], [by_]] rfl rfl rfl rfl rfl rfl (Nat.le_of_ble_eq_true rfl) rfl dX4_tellsOne_71 ?_
    obtain ⟨⟨st_71, en_71, so_71, va_71, fa_71⟩, hT_71⟩ : ∃ t_, tStp f ln (st_21, en_21, so_21, va_21, fa_21) = t_ := ⟨_, rfl⟩
    refine J_ws (ws' := (wF [wTp a by_ ln st_71 en_71 so_71 va_71 fa_71, wB G by_ 200 f, wCt G c la ns_21 sd to_21 he_21 sw_21 nh ki te mi ar z])) 74 (by rw [hT_71]) ?_
    have hle_71 := tStp_le hT_71 (by first | omega | (dsimp only; omega)) (by first | omega | (dsimp only; omega))
    have hN_ : tOne f ln ((st, en, so, va, fa), (la, ns, to, he, sw, nh, ki, te, mi, ar)) = ((st_71, en_71, so_71, va_71, fa_71), la, ns_21, to_21, he_21, sw_21, nh, ki, te, mi, ar) := by unfold tOne; (try dsimp only); rw [cif_t (by assumption), hT_21]; (try dsimp only); rw [hT_71]
    exact J_vret 74 dX4_tellsOne_74 rfl (cg15 (fun (x0_ : Nat) (x1_ : Nat) (x2_ : Int32) (x3_ : Int32) (x4_ : Int32) (x5_ : Nat → Int32) (x6_ : Nat) (x7_ : Nat → Int32) (x8_ : Nat → Int32) (x9_ : Nat → Int32) (x10_ : Nat) (x11_ : Nat → Int32) (x12_ : Nat → Int32) (x13_ : Nat → Int32) (x14_ : Nat → Int32) => (wF [wTp a by_ ln x0_ x1_ x2_ x3_ x4_, wB G by_ 200 f, wCt G c x5_ x6_ sd x7_ x8_ x9_ x10_ x11_ x12_ x13_ x14_ z])) st_71 ((tOne f ln ((st, en, so, va, fa), (la, ns, to, he, sw, nh, ki, te, mi, ar))).1.1) en_71 ((tOne f ln ((st, en, so, va, fa), (la, ns, to, he, sw, nh, ki, te, mi, ar))).1.2.1) so_71 ((tOne f ln ((st, en, so, va, fa), (la, ns, to, he, sw, nh, ki, te, mi, ar))).1.2.2.1) va_71 ((tOne f ln ((st, en, so, va, fa), (la, ns, to, he, sw, nh, ki, te, mi, ar))).1.2.2.2.1) fa_71 ((tOne f ln ((st, en, so, va, fa), (la, ns, to, he, sw, nh, ki, te, mi, ar))).1.2.2.2.2) la ((tOne f ln ((st, en, so, va, fa), (la, ns, to, he, sw, nh, ki, te, mi, ar))).2.1) ns_21 ((tOne f ln ((st, en, so, va, fa), (la, ns, to, he, sw, nh, ki, te, mi, ar))).2.2.1) to_21 ((tOne f ln ((st, en, so, va, fa), (la, ns, to, he, sw, nh, ki, te, mi, ar))).2.2.2.1) he_21 ((tOne f ln ((st, en, so, va, fa), (la, ns, to, he, sw, nh, ki, te, mi, ar))).2.2.2.2.1) sw_21 ((tOne f ln ((st, en, so, va, fa), (la, ns, to, he, sw, nh, ki, te, mi, ar))).2.2.2.2.2.1) nh ((tOne f ln ((st, en, so, va, fa), (la, ns, to, he, sw, nh, ki, te, mi, ar))).2.2.2.2.2.2.1) ki ((tOne f ln ((st, en, so, va, fa), (la, ns, to, he, sw, nh, ki, te, mi, ar))).2.2.2.2.2.2.2.1) te ((tOne f ln ((st, en, so, va, fa), (la, ns, to, he, sw, nh, ki, te, mi, ar))).2.2.2.2.2.2.2.2.1) mi ((tOne f ln ((st, en, so, va, fa), (la, ns, to, he, sw, nh, ki, te, mi, ar))).2.2.2.2.2.2.2.2.2.1) ar ((tOne f ln ((st, en, so, va, fa), (la, ns, to, he, sw, nh, ki, te, mi, ar))).2.2.2.2.2.2.2.2.2.2) (by rw [hN_]) (by rw [hN_]) (by rw [hN_]) (by rw [hN_]) (by rw [hN_]) (by rw [hN_]) (by rw [hN_]) (by rw [hN_]) (by rw [hN_]) (by rw [hN_]) (by rw [hN_]) (by rw [hN_]) (by rw [hN_]) (by rw [hN_]) (by rw [hN_]))
set_option maxRecDepth 100000 in
set_option maxHeartbeats 4000000 in
theorem c_X4_tells (l : Launch) (G : Gd) (a : Nat) (by_ : Nat) (ln : Nat) (st : Nat) (en : Nat) (so : Int32) (va : Int32) (fa : Int32) (f : Nat → Int32) (c : Nat → Nat) (la : Nat → Int32) (ns : Nat) (sd : Nat) (to : Nat → Int32) (he : Nat → Int32) (sw : Nat → Int32) (nh : Nat) (ki : Nat → Int32) (te : Nat → Int32) (mi : Nat → Int32) (ar : Nat → Int32) (z : Int32) (hln : ln ≤ 200) (hns : ns ≤ 12) (hnh : nh ≤ 8) : Ct l G yX4_tells cX4_tells 3 (some (FieldType.int)) 8 [.ref a, .ref (c 0)] (wF [wTp a by_ ln st en so va fa, wB G by_ 200 f, wCt G c la ns sd to he sw nh ki te mi ar z]) (some (.int ((tAll f ln 201 (tGo f ln (st, 0, so, va, -3), (la, ns, to, he, sw, nh, ki, te, mi, ar))).1.2.2.2.2))) (wF [wTp a by_ ln ((tAll f ln 201 (tGo f ln (st, 0, so, va, -3), (la, ns, to, he, sw, nh, ki, te, mi, ar))).1.1) ((tAll f ln 201 (tGo f ln (st, 0, so, va, -3), (la, ns, to, he, sw, nh, ki, te, mi, ar))).1.2.1) ((tAll f ln 201 (tGo f ln (st, 0, so, va, -3), (la, ns, to, he, sw, nh, ki, te, mi, ar))).1.2.2.1) ((tAll f ln 201 (tGo f ln (st, 0, so, va, -3), (la, ns, to, he, sw, nh, ki, te, mi, ar))).1.2.2.2.1) ((tAll f ln 201 (tGo f ln (st, 0, so, va, -3), (la, ns, to, he, sw, nh, ki, te, mi, ar))).1.2.2.2.2), wB G by_ 200 f, wCt G c ((tAll f ln 201 (tGo f ln (st, 0, so, va, -3), (la, ns, to, he, sw, nh, ki, te, mi, ar))).2.1) ((tAll f ln 201 (tGo f ln (st, 0, so, va, -3), (la, ns, to, he, sw, nh, ki, te, mi, ar))).2.2.1) sd ((tAll f ln 201 (tGo f ln (st, 0, so, va, -3), (la, ns, to, he, sw, nh, ki, te, mi, ar))).2.2.2.1) ((tAll f ln 201 (tGo f ln (st, 0, so, va, -3), (la, ns, to, he, sw, nh, ki, te, mi, ar))).2.2.2.2.1) ((tAll f ln 201 (tGo f ln (st, 0, so, va, -3), (la, ns, to, he, sw, nh, ki, te, mi, ar))).2.2.2.2.2.1) ((tAll f ln 201 (tGo f ln (st, 0, so, va, -3), (la, ns, to, he, sw, nh, ki, te, mi, ar))).2.2.2.2.2.2.1) ((tAll f ln 201 (tGo f ln (st, 0, so, va, -3), (la, ns, to, he, sw, nh, ki, te, mi, ar))).2.2.2.2.2.2.2.1) ((tAll f ln 201 (tGo f ln (st, 0, so, va, -3), (la, ns, to, he, sw, nh, ki, te, mi, ar))).2.2.2.2.2.2.2.2.1) ((tAll f ln 201 (tGo f ln (st, 0, so, va, -3), (la, ns, to, he, sw, nh, ki, te, mi, ar))).2.2.2.2.2.2.2.2.2.1) ((tAll f ln 201 (tGo f ln (st, 0, so, va, -3), (la, ns, to, he, sw, nh, ki, te, mi, ar))).2.2.2.2.2.2.2.2.2.2) z]) := by
  refine Ct.of "GooseArms$Tape" [some (.ref a), some (.ref (c 0)), none] (by decide +kernel) rfl (Nat.le_of_ble_eq_true rfl) rfl ?_
  have cut_17_ : ∀ (n_17_ : Nat) (k : Nat) (st1 : Nat) (en1 : Nat) (so1 : Int32) (va1 : Int32) (fa1 : Int32) (la1 : Nat → Int32) (ns1 : Nat) (to1 : Nat → Int32) (he1 : Nat → Int32) (sw1 : Nat → Int32) (nh1 : Nat) (ki1 : Nat → Int32) (te1 : Nat → Int32) (mi1 : Nat → Int32) (ar1 : Nat → Int32), (201 - k < n_17_) → (hk : k ≤ 201) → (hle1 : (st1 ≤ en1 ∧ en1 ≤ ln) ∧ ns1 ≤ 12 ∧ nh1 ≤ 8) → (hall : tAll f ln 201 (tGo f ln (st, 0, so, va, -3), (la, ns, to, he, sw, nh, ki, te, mi, ar)) = tAll f ln (201 - k) ((st1, en1, so1, va1, fa1), (la1, ns1, to1, he1, sw1, nh1, ki1, te1, mi1, ar1))) → J l G (bd G 8 (some (FieldType.int)) (some (.int ((tAll f ln 201 (tGo f ln (st, 0, so, va, -3), (la, ns, to, he, sw, nh, ki, te, mi, ar))).1.2.2.2.2))) (wF [wTp a by_ ln ((tAll f ln 201 (tGo f ln (st, 0, so, va, -3), (la, ns, to, he, sw, nh, ki, te, mi, ar))).1.1) ((tAll f ln 201 (tGo f ln (st, 0, so, va, -3), (la, ns, to, he, sw, nh, ki, te, mi, ar))).1.2.1) ((tAll f ln 201 (tGo f ln (st, 0, so, va, -3), (la, ns, to, he, sw, nh, ki, te, mi, ar))).1.2.2.1) ((tAll f ln 201 (tGo f ln (st, 0, so, va, -3), (la, ns, to, he, sw, nh, ki, te, mi, ar))).1.2.2.2.1) ((tAll f ln 201 (tGo f ln (st, 0, so, va, -3), (la, ns, to, he, sw, nh, ki, te, mi, ar))).1.2.2.2.2), wB G by_ 200 f, wCt G c ((tAll f ln 201 (tGo f ln (st, 0, so, va, -3), (la, ns, to, he, sw, nh, ki, te, mi, ar))).2.1) ((tAll f ln 201 (tGo f ln (st, 0, so, va, -3), (la, ns, to, he, sw, nh, ki, te, mi, ar))).2.2.1) sd ((tAll f ln 201 (tGo f ln (st, 0, so, va, -3), (la, ns, to, he, sw, nh, ki, te, mi, ar))).2.2.2.1) ((tAll f ln 201 (tGo f ln (st, 0, so, va, -3), (la, ns, to, he, sw, nh, ki, te, mi, ar))).2.2.2.2.1) ((tAll f ln 201 (tGo f ln (st, 0, so, va, -3), (la, ns, to, he, sw, nh, ki, te, mi, ar))).2.2.2.2.2.1) ((tAll f ln 201 (tGo f ln (st, 0, so, va, -3), (la, ns, to, he, sw, nh, ki, te, mi, ar))).2.2.2.2.2.2.1) ((tAll f ln 201 (tGo f ln (st, 0, so, va, -3), (la, ns, to, he, sw, nh, ki, te, mi, ar))).2.2.2.2.2.2.2.1) ((tAll f ln 201 (tGo f ln (st, 0, so, va, -3), (la, ns, to, he, sw, nh, ki, te, mi, ar))).2.2.2.2.2.2.2.2.1) ((tAll f ln 201 (tGo f ln (st, 0, so, va, -3), (la, ns, to, he, sw, nh, ki, te, mi, ar))).2.2.2.2.2.2.2.2.2.1) ((tAll f ln 201 (tGo f ln (st, 0, so, va, -3), (la, ns, to, he, sw, nh, ki, te, mi, ar))).2.2.2.2.2.2.2.2.2.2) z])) cX4_tells 3 "GooseArms$Tape" 17 [some (.ref a), some (.ref (c 0)), some (.int (nI k))] [] (wF [wTp a by_ ln st1 en1 so1 va1 fa1, wB G by_ 200 f, wCt G c la1 ns1 sd to1 he1 sw1 nh1 ki1 te1 mi1 ar1 z]) := by
    intro n_17_
    induction n_17_ with
    | zero => intro k st1 en1 so1 va1 fa1 la1 ns1 to1 he1 sw1 nh1 ki1 te1 mi1 ar1 m_17_; exact absurd m_17_ (Nat.not_lt_zero _)
    | succ n_17_ ih_17_ =>
      intro k st1 en1 so1 va1 fa1 la1 ns1 to1 he1 sw1 nh1 ki1 te1 mi1 ar1 m_17_ hk hle1 hall
      refine J_iload_n 17 2 dX4_tells_17 rfl rfl ?_
      refine J_sipush (v := 200) 18 dX4_tells_18 rfl ?_
      refine J_icmp_gt (tgt := 49) 21 dX4_tells_21 (by decide) (fun c_1_ => ?_) (fun c_1_ => ?_)
      · skip
        have c_1_ : 200 < k := (nI_ltI (a := 200) (b := k) (by omega) (by omega)).mp c_1_
        refine J_aload_n 49 0 dX4_tells_49 rfl rfl ?_
        refine g_104 (v := .int fa1) 50 0 rfl rfl dX4_tells_50 ?_
        have hN_ := hall.trans (tAll_0 (by omega))
        exact J_iret 53 dX4_tells_53 (congrArg (fun x_ => some (Value.int x_)) (by rw [hN_])) (cg15 (fun (x0_ : Nat) (x1_ : Nat) (x2_ : Int32) (x3_ : Int32) (x4_ : Int32) (x5_ : Nat → Int32) (x6_ : Nat) (x7_ : Nat → Int32) (x8_ : Nat → Int32) (x9_ : Nat → Int32) (x10_ : Nat) (x11_ : Nat → Int32) (x12_ : Nat → Int32) (x13_ : Nat → Int32) (x14_ : Nat → Int32) => (wF [wTp a by_ ln x0_ x1_ x2_ x3_ x4_, wB G by_ 200 f, wCt G c x5_ x6_ sd x7_ x8_ x9_ x10_ x11_ x12_ x13_ x14_ z])) st1 ((tAll f ln 201 (tGo f ln (st, 0, so, va, -3), (la, ns, to, he, sw, nh, ki, te, mi, ar))).1.1) en1 ((tAll f ln 201 (tGo f ln (st, 0, so, va, -3), (la, ns, to, he, sw, nh, ki, te, mi, ar))).1.2.1) so1 ((tAll f ln 201 (tGo f ln (st, 0, so, va, -3), (la, ns, to, he, sw, nh, ki, te, mi, ar))).1.2.2.1) va1 ((tAll f ln 201 (tGo f ln (st, 0, so, va, -3), (la, ns, to, he, sw, nh, ki, te, mi, ar))).1.2.2.2.1) fa1 ((tAll f ln 201 (tGo f ln (st, 0, so, va, -3), (la, ns, to, he, sw, nh, ki, te, mi, ar))).1.2.2.2.2) la1 ((tAll f ln 201 (tGo f ln (st, 0, so, va, -3), (la, ns, to, he, sw, nh, ki, te, mi, ar))).2.1) ns1 ((tAll f ln 201 (tGo f ln (st, 0, so, va, -3), (la, ns, to, he, sw, nh, ki, te, mi, ar))).2.2.1) to1 ((tAll f ln 201 (tGo f ln (st, 0, so, va, -3), (la, ns, to, he, sw, nh, ki, te, mi, ar))).2.2.2.1) he1 ((tAll f ln 201 (tGo f ln (st, 0, so, va, -3), (la, ns, to, he, sw, nh, ki, te, mi, ar))).2.2.2.2.1) sw1 ((tAll f ln 201 (tGo f ln (st, 0, so, va, -3), (la, ns, to, he, sw, nh, ki, te, mi, ar))).2.2.2.2.2.1) nh1 ((tAll f ln 201 (tGo f ln (st, 0, so, va, -3), (la, ns, to, he, sw, nh, ki, te, mi, ar))).2.2.2.2.2.2.1) ki1 ((tAll f ln 201 (tGo f ln (st, 0, so, va, -3), (la, ns, to, he, sw, nh, ki, te, mi, ar))).2.2.2.2.2.2.2.1) te1 ((tAll f ln 201 (tGo f ln (st, 0, so, va, -3), (la, ns, to, he, sw, nh, ki, te, mi, ar))).2.2.2.2.2.2.2.2.1) mi1 ((tAll f ln 201 (tGo f ln (st, 0, so, va, -3), (la, ns, to, he, sw, nh, ki, te, mi, ar))).2.2.2.2.2.2.2.2.2.1) ar1 ((tAll f ln 201 (tGo f ln (st, 0, so, va, -3), (la, ns, to, he, sw, nh, ki, te, mi, ar))).2.2.2.2.2.2.2.2.2.2) (by rw [hN_]) (by rw [hN_]) (by rw [hN_]) (by rw [hN_]) (by rw [hN_]) (by rw [hN_]) (by rw [hN_]) (by rw [hN_]) (by rw [hN_]) (by rw [hN_]) (by rw [hN_]) (by rw [hN_]) (by rw [hN_]) (by rw [hN_]) (by rw [hN_]))
      · skip
        have c_1_ : ¬ 200 < k := fun z_ => c_1_ ((nI_ltI (a := 200) (b := k) (by omega) (by omega)).mpr z_)
        refine J_aload_n 24 0 dX4_tells_24 rfl rfl ?_
        refine g_102 (v := .int so1) 25 0 rfl rfl dX4_tells_25 ?_
        refine J_if_eq (tgt := 49) 28 dX4_tells_28 (by decide) (fun c_2_ => ?_) (fun c_2_ => ?_)
        · skip
          refine J_aload_n 49 0 dX4_tells_49 rfl rfl ?_
          refine g_104 (v := .int fa1) 50 0 rfl rfl dX4_tells_50 ?_
          have hN_ := hall.trans (tAll_e (by assumption))
          exact J_iret 53 dX4_tells_53 (congrArg (fun x_ => some (Value.int x_)) (by rw [hN_])) (cg15 (fun (x0_ : Nat) (x1_ : Nat) (x2_ : Int32) (x3_ : Int32) (x4_ : Int32) (x5_ : Nat → Int32) (x6_ : Nat) (x7_ : Nat → Int32) (x8_ : Nat → Int32) (x9_ : Nat → Int32) (x10_ : Nat) (x11_ : Nat → Int32) (x12_ : Nat → Int32) (x13_ : Nat → Int32) (x14_ : Nat → Int32) => (wF [wTp a by_ ln x0_ x1_ x2_ x3_ x4_, wB G by_ 200 f, wCt G c x5_ x6_ sd x7_ x8_ x9_ x10_ x11_ x12_ x13_ x14_ z])) st1 ((tAll f ln 201 (tGo f ln (st, 0, so, va, -3), (la, ns, to, he, sw, nh, ki, te, mi, ar))).1.1) en1 ((tAll f ln 201 (tGo f ln (st, 0, so, va, -3), (la, ns, to, he, sw, nh, ki, te, mi, ar))).1.2.1) so1 ((tAll f ln 201 (tGo f ln (st, 0, so, va, -3), (la, ns, to, he, sw, nh, ki, te, mi, ar))).1.2.2.1) va1 ((tAll f ln 201 (tGo f ln (st, 0, so, va, -3), (la, ns, to, he, sw, nh, ki, te, mi, ar))).1.2.2.2.1) fa1 ((tAll f ln 201 (tGo f ln (st, 0, so, va, -3), (la, ns, to, he, sw, nh, ki, te, mi, ar))).1.2.2.2.2) la1 ((tAll f ln 201 (tGo f ln (st, 0, so, va, -3), (la, ns, to, he, sw, nh, ki, te, mi, ar))).2.1) ns1 ((tAll f ln 201 (tGo f ln (st, 0, so, va, -3), (la, ns, to, he, sw, nh, ki, te, mi, ar))).2.2.1) to1 ((tAll f ln 201 (tGo f ln (st, 0, so, va, -3), (la, ns, to, he, sw, nh, ki, te, mi, ar))).2.2.2.1) he1 ((tAll f ln 201 (tGo f ln (st, 0, so, va, -3), (la, ns, to, he, sw, nh, ki, te, mi, ar))).2.2.2.2.1) sw1 ((tAll f ln 201 (tGo f ln (st, 0, so, va, -3), (la, ns, to, he, sw, nh, ki, te, mi, ar))).2.2.2.2.2.1) nh1 ((tAll f ln 201 (tGo f ln (st, 0, so, va, -3), (la, ns, to, he, sw, nh, ki, te, mi, ar))).2.2.2.2.2.2.1) ki1 ((tAll f ln 201 (tGo f ln (st, 0, so, va, -3), (la, ns, to, he, sw, nh, ki, te, mi, ar))).2.2.2.2.2.2.2.1) te1 ((tAll f ln 201 (tGo f ln (st, 0, so, va, -3), (la, ns, to, he, sw, nh, ki, te, mi, ar))).2.2.2.2.2.2.2.2.1) mi1 ((tAll f ln 201 (tGo f ln (st, 0, so, va, -3), (la, ns, to, he, sw, nh, ki, te, mi, ar))).2.2.2.2.2.2.2.2.2.1) ar1 ((tAll f ln 201 (tGo f ln (st, 0, so, va, -3), (la, ns, to, he, sw, nh, ki, te, mi, ar))).2.2.2.2.2.2.2.2.2.2) (by rw [hN_]) (by rw [hN_]) (by rw [hN_]) (by rw [hN_]) (by rw [hN_]) (by rw [hN_]) (by rw [hN_]) (by rw [hN_]) (by rw [hN_]) (by rw [hN_]) (by rw [hN_]) (by rw [hN_]) (by rw [hN_]) (by rw [hN_]) (by rw [hN_]))
        · skip
          refine J_aload_n 31 0 dX4_tells_31 rfl rfl ?_
          refine g_104 (v := .int fa1) 32 0 rfl rfl dX4_tells_32 ?_
          refine J_if_ge (tgt := 49) 35 dX4_tells_35 (by decide) (fun c_3_ => ?_) (fun c_3_ => ?_)
          · skip
            refine J_aload_n 49 0 dX4_tells_49 rfl rfl ?_
            refine g_104 (v := .int fa1) 50 0 rfl rfl dX4_tells_50 ?_
            have hN_ := hall.trans (tAll_f (by assumption))
            exact J_iret 53 dX4_tells_53 (congrArg (fun x_ => some (Value.int x_)) (by rw [hN_])) (cg15 (fun (x0_ : Nat) (x1_ : Nat) (x2_ : Int32) (x3_ : Int32) (x4_ : Int32) (x5_ : Nat → Int32) (x6_ : Nat) (x7_ : Nat → Int32) (x8_ : Nat → Int32) (x9_ : Nat → Int32) (x10_ : Nat) (x11_ : Nat → Int32) (x12_ : Nat → Int32) (x13_ : Nat → Int32) (x14_ : Nat → Int32) => (wF [wTp a by_ ln x0_ x1_ x2_ x3_ x4_, wB G by_ 200 f, wCt G c x5_ x6_ sd x7_ x8_ x9_ x10_ x11_ x12_ x13_ x14_ z])) st1 ((tAll f ln 201 (tGo f ln (st, 0, so, va, -3), (la, ns, to, he, sw, nh, ki, te, mi, ar))).1.1) en1 ((tAll f ln 201 (tGo f ln (st, 0, so, va, -3), (la, ns, to, he, sw, nh, ki, te, mi, ar))).1.2.1) so1 ((tAll f ln 201 (tGo f ln (st, 0, so, va, -3), (la, ns, to, he, sw, nh, ki, te, mi, ar))).1.2.2.1) va1 ((tAll f ln 201 (tGo f ln (st, 0, so, va, -3), (la, ns, to, he, sw, nh, ki, te, mi, ar))).1.2.2.2.1) fa1 ((tAll f ln 201 (tGo f ln (st, 0, so, va, -3), (la, ns, to, he, sw, nh, ki, te, mi, ar))).1.2.2.2.2) la1 ((tAll f ln 201 (tGo f ln (st, 0, so, va, -3), (la, ns, to, he, sw, nh, ki, te, mi, ar))).2.1) ns1 ((tAll f ln 201 (tGo f ln (st, 0, so, va, -3), (la, ns, to, he, sw, nh, ki, te, mi, ar))).2.2.1) to1 ((tAll f ln 201 (tGo f ln (st, 0, so, va, -3), (la, ns, to, he, sw, nh, ki, te, mi, ar))).2.2.2.1) he1 ((tAll f ln 201 (tGo f ln (st, 0, so, va, -3), (la, ns, to, he, sw, nh, ki, te, mi, ar))).2.2.2.2.1) sw1 ((tAll f ln 201 (tGo f ln (st, 0, so, va, -3), (la, ns, to, he, sw, nh, ki, te, mi, ar))).2.2.2.2.2.1) nh1 ((tAll f ln 201 (tGo f ln (st, 0, so, va, -3), (la, ns, to, he, sw, nh, ki, te, mi, ar))).2.2.2.2.2.2.1) ki1 ((tAll f ln 201 (tGo f ln (st, 0, so, va, -3), (la, ns, to, he, sw, nh, ki, te, mi, ar))).2.2.2.2.2.2.2.1) te1 ((tAll f ln 201 (tGo f ln (st, 0, so, va, -3), (la, ns, to, he, sw, nh, ki, te, mi, ar))).2.2.2.2.2.2.2.2.1) mi1 ((tAll f ln 201 (tGo f ln (st, 0, so, va, -3), (la, ns, to, he, sw, nh, ki, te, mi, ar))).2.2.2.2.2.2.2.2.2.1) ar1 ((tAll f ln 201 (tGo f ln (st, 0, so, va, -3), (la, ns, to, he, sw, nh, ki, te, mi, ar))).2.2.2.2.2.2.2.2.2.2) (by rw [hN_]) (by rw [hN_]) (by rw [hN_]) (by rw [hN_]) (by rw [hN_]) (by rw [hN_]) (by rw [hN_]) (by rw [hN_]) (by rw [hN_]) (by rw [hN_]) (by rw [hN_]) (by rw [hN_]) (by rw [hN_]) (by rw [hN_]) (by rw [hN_]))
          · skip
            refine J_aload_n 38 0 dX4_tells_38 rfl rfl ?_
            refine J_aload_n 39 1 dX4_tells_39 rfl rfl ?_
            refine kb_RX4_37 (bs' := [wTp a by_ ln ((tOne f ln ((st1, en1, so1, va1, fa1), (la1, ns1, to1, he1, sw1, nh1, ki1, te1, mi1, ar1))).1.1) ((tOne f ln ((st1, en1, so1, va1, fa1), (la1, ns1, to1, he1, sw1, nh1, ki1, te1, mi1, ar1))).1.2.1) ((tOne f ln ((st1, en1, so1, va1, fa1), (la1, ns1, to1, he1, sw1, nh1, ki1, te1, mi1, ar1))).1.2.2.1) ((tOne f ln ((st1, en1, so1, va1, fa1), (la1, ns1, to1, he1, sw1, nh1, ki1, te1, mi1, ar1))).1.2.2.2.1) ((tOne f ln ((st1, en1, so1, va1, fa1), (la1, ns1, to1, he1, sw1, nh1, ki1, te1, mi1, ar1))).1.2.2.2.2), wB G by_ 200 f, wCt G c ((tOne f ln ((st1, en1, so1, va1, fa1), (la1, ns1, to1, he1, sw1, nh1, ki1, te1, mi1, ar1))).2.1) ((tOne f ln ((st1, en1, so1, va1, fa1), (la1, ns1, to1, he1, sw1, nh1, ki1, te1, mi1, ar1))).2.2.1) sd ((tOne f ln ((st1, en1, so1, va1, fa1), (la1, ns1, to1, he1, sw1, nh1, ki1, te1, mi1, ar1))).2.2.2.1) ((tOne f ln ((st1, en1, so1, va1, fa1), (la1, ns1, to1, he1, sw1, nh1, ki1, te1, mi1, ar1))).2.2.2.2.1) ((tOne f ln ((st1, en1, so1, va1, fa1), (la1, ns1, to1, he1, sw1, nh1, ki1, te1, mi1, ar1))).2.2.2.2.2.1) ((tOne f ln ((st1, en1, so1, va1, fa1), (la1, ns1, to1, he1, sw1, nh1, ki1, te1, mi1, ar1))).2.2.2.2.2.2.1) ((tOne f ln ((st1, en1, so1, va1, fa1), (la1, ns1, to1, he1, sw1, nh1, ki1, te1, mi1, ar1))).2.2.2.2.2.2.2.1) ((tOne f ln ((st1, en1, so1, va1, fa1), (la1, ns1, to1, he1, sw1, nh1, ki1, te1, mi1, ar1))).2.2.2.2.2.2.2.2.1) ((tOne f ln ((st1, en1, so1, va1, fa1), (la1, ns1, to1, he1, sw1, nh1, ki1, te1, mi1, ar1))).2.2.2.2.2.2.2.2.2.1) ((tOne f ln ((st1, en1, so1, va1, fa1), (la1, ns1, to1, he1, sw1, nh1, ki1, te1, mi1, ar1))).2.2.2.2.2.2.2.2.2.2) z]) (rest := []) (st' := []) 40 (c_X4_tellsOne l G a by_ ln st1 en1 so1 va1 fa1 f c la1 ns1 sd to1 he1 sw1 nh1 ki1 te1 mi1 ar1 z (by omega) (by omega) (by omega) (by omega) (by omega)) [0, 1, 2] 0 rfl rfl rfl [[a], [by_], [c 0, c 1, c 2, c 3, c 4, c 5, c 6, c 7, c 8]] rfl rfl rfl rfl rfl rfl (Nat.le_of_ble_eq_true rfl) rfl dX4_tells_40 ?_
            obtain ⟨⟨⟨st_40, en_40, so_40, va_40, fa_40⟩, la_40, ns_40, to_40, he_40, sw_40, nh_40, ki_40, te_40, mi_40, ar_40⟩, hT_40⟩ : ∃ t_, tOne f ln ((st1, en1, so1, va1, fa1), (la1, ns1, to1, he1, sw1, nh1, ki1, te1, mi1, ar1)) = t_ := ⟨_, rfl⟩
            refine J_ws (ws' := (wF [wTp a by_ ln st_40 en_40 so_40 va_40 fa_40, wB G by_ 200 f, wCt G c la_40 ns_40 sd to_40 he_40 sw_40 nh_40 ki_40 te_40 mi_40 ar_40 z])) 43 (by rw [hT_40]) ?_
            have hle_40 := tOne_le hT_40 (by omega) (by omega) (by omega) (by omega)
            refine J_iinc (v := nI (k + 1)) (lv' := [some (.ref a), some (.ref (c 0)), some (.int (nI (k + 1)))]) 43 dX4_tells_43 rfl (nI_add _ 1) (by decide) rfl ?_
            refine J_goto (tgt := 17) 46 dX4_tells_46 (by decide) ?_
            exact ih_17_ (k + 1) st_40 en_40 so_40 va_40 fa_40 la_40 ns_40 to_40 he_40 sw_40 nh_40 ki_40 te_40 mi_40 ar_40 (by omega) (by first | assumption | omega | rfl) (by first | (refine ⟨hle_12, ?_, ?_⟩ <;> assumption) | exact hle_40) (by first | rw [hT_12] | (rw [hall, tAll_s (by omega) (by assumption) (Int32.not_le.mp (by assumption)), hT_40]))
  refine J_aload_n 0 0 dX4_tells_0 rfl rfl ?_
  refine J_iconst (v := 0) 1 dX4_tells_1 rfl ?_
  refine p_101 (ws' := (wF [wTp a by_ ln st 0 so va fa, wB G by_ 200 f, wCt G c la ns sd to he sw nh ki te mi ar z])) 2 0 rfl rfl rfl (Nat.le_of_ble_eq_true rfl) rfl dX4_tells_2 ?_
  refine J_aload_n 5 0 dX4_tells_5 rfl rfl ?_
  refine J_bipush (v := (-3)) 6 dX4_tells_6 rfl ?_
  refine p_104 (ws' := (wF [wTp a by_ ln st 0 so va (-3), wB G by_ 200 f, wCt G c la ns sd to he sw nh ki te mi ar z])) 8 0 rfl rfl rfl (Nat.le_of_ble_eq_true rfl) rfl dX4_tells_8 ?_
  refine J_aload_n 11 0 dX4_tells_11 rfl rfl ?_
  refine kb_RX4_34 (bs' := [wTp a by_ ln ((tGo f ln (st, 0, so, va, (-3))).1) ((tGo f ln (st, 0, so, va, (-3))).2.1) ((tGo f ln (st, 0, so, va, (-3))).2.2.1) ((tGo f ln (st, 0, so, va, (-3))).2.2.2.1) ((tGo f ln (st, 0, so, va, (-3))).2.2.2.2), wB G by_ 200 f, wCt G c la ns sd to he sw nh ki te mi ar z]) (rest := []) (st' := []) 12 (c_X4_goesOn l G a by_ ln st 0 so va (-3) f (by omega) (by omega)) [0, 1] 0 rfl rfl rfl [[a], [by_]] rfl rfl rfl rfl rfl rfl (Nat.le_of_ble_eq_true rfl) rfl dX4_tells_12 ?_
  obtain ⟨⟨st_12, en_12, so_12, va_12, fa_12⟩, hT_12⟩ : ∃ t_, tGo f ln (st, 0, so, va, (-3)) = t_ := ⟨_, rfl⟩
  refine J_ws (ws' := (wF [wTp a by_ ln st_12 en_12 so_12 va_12 fa_12, wB G by_ 200 f, wCt G c la ns sd to he sw nh ki te mi ar z])) 15 (by rw [hT_12]) ?_
  have hle_12 := tGo_le hT_12 (by first | omega | (dsimp only; omega))
  refine J_iconst (v := 0) 15 dX4_tells_15 rfl ?_
  refine J_istore_n (lv' := [some (.ref a), some (.ref (c 0)), some (.int 0)]) 16 2 dX4_tells_16 rfl (by decide) rfl ?_
  exact cut_17_ ((201 - 0) + 1) 0 st_12 en_12 so_12 va_12 fa_12 la ns to he sw nh ki te mi ar (Nat.lt_succ_self _) (by first | assumption | omega | rfl) (by first | (refine ⟨hle_12, ?_, ?_⟩ <;> assumption) | exact hle_40) (by first | rw [hT_12] | (rw [hall, tAll_s (by omega) (by assumption) (Int32.not_le.mp (by assumption)), hT_40]))
