theorem dn_all : ∀ k, k < 101 → ((nI k - 1 < 0 ↔ k = 0) ∧ (0 < k → nI k - 1 + (-1) = nI (k - 1) - 1)) := by decide +kernel
theorem dn_0 {k : Nat} (hk_ : k ≤ 100) (h_ : nI k - 1 < 0) : k = 0 := (dn_all k (by omega)).1.mp h_
theorem dn_1 {k : Nat} (hk_ : k ≤ 100) (h_ : ¬ nI k - 1 < 0) : 0 < k := by
  rcases Nat.eq_zero_or_pos k with z_ | z_
  · exact absurd ((dn_all k (by omega)).1.mpr z_) h_
  · exact z_
theorem dn_i {k : Nat} (hk_ : k ≤ 100) (h_ : 0 < k) : nI k - 1 + (-1) = nI (k - 1) - 1 := (dn_all k (by omega)).2 h_
theorem p2_8 {n : Nat} (h_ : n ≤ 8) : 2 ^ n ≤ 256 := Nat.pow_le_pow_right (by decide) h_
set_option maxRecDepth 100000 in
set_option maxHeartbeats 4000000 in
theorem c_X5_enough (l : Launch) (G : Gd) (o : Nat) (An : Nat → Nat) (Ak : Nat → Nat) (At : Nat → Nat) (Ad : Nat → Nat) (kk : Int32) (tp : Nat) (rw : Nat) (rc : Nat) (sh : Nat) (sf : Nat) (de : Nat) (la : Nat → Int32) (ns : Nat) (sd : Nat) (to : Nat → Int32) (he : Nat → Int32) (sw : Nat → Int32) (nh : Nat) (ki : Nat → Int32) (te : Nat → Int32) (mi : Nat → Int32) (ar : Nat → Int32) (z : Int32) (t_la : Nat → Int32) (t_ns : Nat) (t_sd : Nat) (t_to : Nat → Int32) (t_he : Nat → Int32) (t_sw : Nat → Int32) (t_nh : Nat) (t_ki : Nat → Int32) (t_te : Nat → Int32) (t_mi : Nat → Int32) (t_ar : Nat → Int32) (t_z : Int32) (hnh : nh ≤ 8) (hns : ns ≤ 12) (hsd : sd ≤ ns) : CtP l G yX5_enough cX5_enough 6 (some (FieldType.int)) 4 [.ref o] (wF [wMe o (An 0) (Ak 0) (At 0) (Ad 0) kk tp rw rc sh sf de, wCt G An la ns sd to he sw nh ki te mi ar z, wCt G At t_la t_ns t_sd t_to t_he t_sw t_nh t_ki t_te t_mi t_ar t_z]) (some (.int (fEno (fun i_ => (fMask (fun s_ => sw s_ = 1) ns) &&& ((fOr (fun h_ => hasP (nI i_) (nI h_)) (fAr (fun h_ => h_ < nh ∧ hasP 255 (nI h_)) la ki mi te ar to he sw sd (min 12 (ns - sd))) nh) ^^^ (-1)) = 0) (2 ^ nh)))) (fun w_ => ∃ (j_2_la : Nat → Int32) (j_2_ns : Nat) (j_2_sd : Nat) (j_2_to : Nat → Int32) (j_2_he : Nat → Int32) (j_2_sw : Nat → Int32) (j_2_nh : Nat) (j_2_ki : Nat → Int32) (j_2_te : Nat → Int32) (j_2_mi : Nat → Int32) (j_2_ar : Nat → Int32) (j_2_z : Int32), w_ = (wF [wMe o (An 0) (Ak 0) (At 0) (Ad 0) kk tp rw rc sh sf de, wCt G An la ns sd to he sw nh ki te mi ar z, wCt G At j_2_la j_2_ns j_2_sd j_2_to j_2_he j_2_sw j_2_nh j_2_ki j_2_te j_2_mi j_2_ar j_2_z])) := by
  refine CtP.of "GooseArms" [some (.ref o), none, none, none, none, none] (by decide +kernel) rfl (Nat.le_of_ble_eq_true rfl) rfl ?_
  have h2_ := p2_8 hnh
  have cut_26_ : ∀ (n_26_ : Nat) (i : Nat) (b : Int32), (2 ^ nh - i < n_26_) → (hi : i ≤ 2 ^ nh) → (hb : b = fEno (fun i_ => (fMask (fun s_ => sw s_ = 1) ns) &&& ((fOr (fun h_ => hasP (nI i_) (nI h_)) (fAr (fun h_ => h_ < nh ∧ hasP 255 (nI h_)) la ki mi te ar to he sw sd (min 12 (ns - sd))) nh) ^^^ (-1)) = 0) i) → J l G (bdP G 4 (some (FieldType.int)) (some (.int (fEno (fun i_ => (fMask (fun s_ => sw s_ = 1) ns) &&& ((fOr (fun h_ => hasP (nI i_) (nI h_)) (fAr (fun h_ => h_ < nh ∧ hasP 255 (nI h_)) la ki mi te ar to he sw sd (min 12 (ns - sd))) nh) ^^^ (-1)) = 0) (2 ^ nh)))) (fun w_ => ∃ (j_2_la : Nat → Int32) (j_2_ns : Nat) (j_2_sd : Nat) (j_2_to : Nat → Int32) (j_2_he : Nat → Int32) (j_2_sw : Nat → Int32) (j_2_nh : Nat) (j_2_ki : Nat → Int32) (j_2_te : Nat → Int32) (j_2_mi : Nat → Int32) (j_2_ar : Nat → Int32) (j_2_z : Int32), w_ = (wF [wMe o (An 0) (Ak 0) (At 0) (Ad 0) kk tp rw rc sh sf de, wCt G An la ns sd to he sw nh ki te mi ar z, wCt G At j_2_la j_2_ns j_2_sd j_2_to j_2_he j_2_sw j_2_nh j_2_ki j_2_te j_2_mi j_2_ar j_2_z]))) cX5_enough 6 "GooseArms" 26 [some (.ref o), some (.ref (At 0)), some (.int (fMask (fun s_ => sw s_ = 1) ns)), some (.int b), some (.int (nI i)), none] [] (wF [wMe o (An 0) (Ak 0) (At 0) (Ad 0) kk tp rw rc sh sf de, wCt G An la ns sd to he sw nh ki te mi ar z, wCt G At la ns (sd + min 12 (ns - sd)) to he sw nh ki (fTe (fun h_ => h_ < nh ∧ hasP 255 (nI h_)) la ki mi te ar to he sw sd (min 12 (ns - sd))) mi (fAr (fun h_ => h_ < nh ∧ hasP 255 (nI h_)) la ki mi te ar to he sw sd (min 12 (ns - sd))) z]) := by
    intro n_26_
    induction n_26_ with
    | zero => intro i b m_26_; exact absurd m_26_ (Nat.not_lt_zero _)
    | succ n_26_ ih_26_ =>
      intro i b m_26_ hi hb
      refine J_iload 26 dX5_enough_26 rfl ?_
      refine J_iconst (v := 1) 28 dX5_enough_28 rfl ?_
      refine J_aload_n 29 1 dX5_enough_29 rfl rfl ?_
      refine g_53 (v := .int (nI nh)) 30 10 rfl rfl dX5_enough_30 ?_
      refine J_ishl 33 dX5_enough_33 ?_
      refine J_topi (y := nI (2 ^ nh)) 34 (shl_2 nh (by omega)) ?_
      refine J_icmp_ge (tgt := 89) 34 dX5_enough_34 (by decide) (fun c_1_ => ?_) (fun c_1_ => ?_)
      · skip
        have c_1_ : (2 ^ nh) ≤ i := (nI_leI (a := (2 ^ nh)) (b := i) (by omega) (by omega)).mp c_1_
        refine J_iload_n 89 3 dX5_enough_89 rfl rfl ?_
        exact J_iretP 90 dX5_enough_90 (congrArg (fun x_ => some (Value.int x_)) (by rw [hb, show i = 2 ^ nh by omega])) ⟨la, ns, (sd + min 12 (ns - sd)), to, he, sw, nh, ki, (fTe (fun h_ => h_ < nh ∧ hasP 255 (nI h_)) la ki mi te ar to he sw sd (min 12 (ns - sd))), mi, (fAr (fun h_ => h_ < nh ∧ hasP 255 (nI h_)) la ki mi te ar to he sw sd (min 12 (ns - sd))), z, rfl⟩
      · skip
        have c_1_ : ¬ (2 ^ nh) ≤ i := fun z_ => c_1_ ((nI_leI (a := (2 ^ nh)) (b := i) (by omega) (by omega)).mpr z_)
        refine J_iload_n 37 2 dX5_enough_37 rfl rfl ?_
        refine J_aload_n 38 1 dX5_enough_38 rfl rfl ?_
        refine J_iload 39 dX5_enough_39 rfl ?_
        refine kb_RX5_216 (bs' := [wMe o (An 0) (Ak 0) (At 0) (Ad 0) kk tp rw rc sh sf de, wCt G An la ns sd to he sw nh ki te mi ar z, wCt G At la ns (sd + min 12 (ns - sd)) to he sw nh ki (fTe (fun h_ => h_ < nh ∧ hasP 255 (nI h_)) la ki mi te ar to he sw sd (min 12 (ns - sd))) mi (fAr (fun h_ => h_ < nh ∧ hasP 255 (nI h_)) la ki mi te ar to he sw sd (min 12 (ns - sd))) z]) (rest := [.int (fMask (fun s_ => sw s_ = 1) ns)]) (st' := [.int (fOr (fun h_ => hasP (nI i) (nI h_)) (fAr (fun h_ => h_ < nh ∧ hasP 255 (nI h_)) la ki mi te ar to he sw sd (min 12 (ns - sd))) nh), .int (fMask (fun s_ => sw s_ = 1) ns)]) 41 (c_X0_armsTogether l G (nI i) At la ns (sd + min 12 (ns - sd)) to he sw nh ki (fTe (fun h_ => h_ < nh ∧ hasP 255 (nI h_)) la ki mi te ar to he sw sd (min 12 (ns - sd))) mi (fAr (fun h_ => h_ < nh ∧ hasP 255 (nI h_)) la ki mi te ar to he sw sd (min 12 (ns - sd))) z (by first | omega | assumption)) [2] 10 rfl rfl rfl [[At 0, At 1, At 2, At 3, At 4, At 5, At 6, At 7, At 8]] rfl rfl rfl rfl rfl rfl (Nat.le_of_ble_eq_true rfl) rfl dX5_enough_41 ?_
        refine J_iconst (v := (-1)) 44 dX5_enough_44 rfl ?_
        refine J_ixor 45 dX5_enough_45 ?_
        refine J_iand 46 dX5_enough_46 ?_
        refine J_if_ne (tgt := 54) 47 dX5_enough_47 (by decide) (fun c_2_ => ?_) (fun c_2_ => ?_)
        · skip
          refine J_iconst (v := 0) 54 dX5_enough_54 rfl ?_
          refine J_istore (lv' := [some (.ref o), some (.ref (At 0)), some (.int (fMask (fun s_ => sw s_ = 1) ns)), some (.int b), some (.int (nI i)), some (.int 0)]) 55 dX5_enough_55 (by decide) rfl ?_
          refine J_iload 57 dX5_enough_57 rfl ?_
          refine J_if_eq (tgt := 83) 59 dX5_enough_59 (by decide) (fun _ => ?_) (fun c_3_ => absurd c_3_ (by decide))
          refine J_iinc (v := nI (i + 1)) (lv' := [some (.ref o), some (.ref (At 0)), some (.int (fMask (fun s_ => sw s_ = 1) ns)), some (.int b), some (.int (nI (i + 1))), some (.int 0)]) 83 dX5_enough_83 rfl (nI_add _ 1) (by decide) rfl ?_
          refine J_goto (tgt := 26) 86 dX5_enough_86 (by decide) ?_
          refine J_mask (lv' := [some (.ref o), some (.ref (At 0)), some (.int (fMask (fun s_ => sw s_ = 1) ns)), some (.int b), some (.int (nI (i + 1))), none]) 26 [true, true, true, true, true, false] rfl ?_
          exact ih_26_ (i + 1) b (by omega) (by first | exact Nat.zero_le _ | omega) (by first | exact fEno_t hb (by assumption) (Or.inl (by assumption)) | exact fEno_t hb (by assumption) (Or.inr (Int32.not_le.mp (by assumption))) | exact fEno_f hb (fun z_ => absurd z_.1 (by assumption)) | exact fEno_f hb (fun z_ => z_.2.elim (fun y_ => absurd y_ (by assumption)) (fun y_ => Int32.not_le.mpr y_ (by assumption))) | rfl)
        · skip
          refine J_iconst (v := 1) 50 dX5_enough_50 rfl ?_
          refine J_goto (tgt := 55) 51 dX5_enough_51 (by decide) ?_
          refine J_istore (lv' := [some (.ref o), some (.ref (At 0)), some (.int (fMask (fun s_ => sw s_ = 1) ns)), some (.int b), some (.int (nI i)), some (.int 1)]) 55 dX5_enough_55 (by decide) rfl ?_
          refine J_iload 57 dX5_enough_57 rfl ?_
          refine J_if_eq (tgt := 83) 59 dX5_enough_59 (by decide) (fun c_4_ => absurd c_4_ (by decide)) (fun _ => ?_)
          refine J_iload_n 62 3 dX5_enough_62 rfl rfl ?_
          refine J_bipush (v := (-3)) 63 dX5_enough_63 rfl ?_
          refine J_icmp_eq (tgt := 80) 65 dX5_enough_65 (by decide) (fun c_5_ => ?_) (fun c_5_ => ?_)
          · skip
            refine J_iload 80 dX5_enough_80 rfl ?_
            refine J_istore_n (lv' := [some (.ref o), some (.ref (At 0)), some (.int (fMask (fun s_ => sw s_ = 1) ns)), some (.int (nI i)), some (.int (nI i)), some (.int 1)]) 82 3 dX5_enough_82 rfl (by decide) rfl ?_
            refine J_iinc (v := nI (i + 1)) (lv' := [some (.ref o), some (.ref (At 0)), some (.int (fMask (fun s_ => sw s_ = 1) ns)), some (.int (nI i)), some (.int (nI (i + 1))), some (.int 1)]) 83 dX5_enough_83 rfl (nI_add _ 1) (by decide) rfl ?_
            refine J_goto (tgt := 26) 86 dX5_enough_86 (by decide) ?_
            refine J_mask (lv' := [some (.ref o), some (.ref (At 0)), some (.int (fMask (fun s_ => sw s_ = 1) ns)), some (.int (nI i)), some (.int (nI (i + 1))), none]) 26 [true, true, true, true, true, false] rfl ?_
            exact ih_26_ (i + 1) (nI i) (by omega) (by first | exact Nat.zero_le _ | omega) (by first | exact fEno_t hb (by assumption) (Or.inl (by assumption)) | exact fEno_t hb (by assumption) (Or.inr (Int32.not_le.mp (by assumption))) | exact fEno_f hb (fun z_ => absurd z_.1 (by assumption)) | exact fEno_f hb (fun z_ => z_.2.elim (fun y_ => absurd y_ (by assumption)) (fun y_ => Int32.not_le.mpr y_ (by assumption))) | rfl)
          · skip
            refine J_iload 68 dX5_enough_68 rfl ?_
            refine kb_RX5_203 (bs' := [wMe o (An 0) (Ak 0) (At 0) (Ad 0) kk tp rw rc sh sf de, wCt G An la ns sd to he sw nh ki te mi ar z, wCt G At la ns (sd + min 12 (ns - sd)) to he sw nh ki (fTe (fun h_ => h_ < nh ∧ hasP 255 (nI h_)) la ki mi te ar to he sw sd (min 12 (ns - sd))) mi (fAr (fun h_ => h_ < nh ∧ hasP 255 (nI h_)) la ki mi te ar to he sw sd (min 12 (ns - sd))) z]) (rest := []) (st' := [.int (fBC (nI i))]) 70 (c_bitCount l G (nI i) ) [] rfl rfl [] rfl rfl rfl rfl rfl rfl (Nat.le_of_ble_eq_true rfl) rfl dX5_enough_70 ?_
            refine J_iload_n 73 3 dX5_enough_73 rfl rfl ?_
            refine kb_RX5_203 (bs' := [wMe o (An 0) (Ak 0) (At 0) (Ad 0) kk tp rw rc sh sf de, wCt G An la ns sd to he sw nh ki te mi ar z, wCt G At la ns (sd + min 12 (ns - sd)) to he sw nh ki (fTe (fun h_ => h_ < nh ∧ hasP 255 (nI h_)) la ki mi te ar to he sw sd (min 12 (ns - sd))) mi (fAr (fun h_ => h_ < nh ∧ hasP 255 (nI h_)) la ki mi te ar to he sw sd (min 12 (ns - sd))) z]) (rest := [.int (fBC (nI i))]) (st' := [.int (fBC b), .int (fBC (nI i))]) 74 (c_bitCount l G b ) [] rfl rfl [] rfl rfl rfl rfl rfl rfl (Nat.le_of_ble_eq_true rfl) rfl dX5_enough_74 ?_
            refine J_icmp_ge (tgt := 83) 77 dX5_enough_77 (by decide) (fun c_6_ => ?_) (fun c_6_ => ?_)
            · skip
              refine J_iinc (v := nI (i + 1)) (lv' := [some (.ref o), some (.ref (At 0)), some (.int (fMask (fun s_ => sw s_ = 1) ns)), some (.int b), some (.int (nI (i + 1))), some (.int 1)]) 83 dX5_enough_83 rfl (nI_add _ 1) (by decide) rfl ?_
              refine J_goto (tgt := 26) 86 dX5_enough_86 (by decide) ?_
              refine J_mask (lv' := [some (.ref o), some (.ref (At 0)), some (.int (fMask (fun s_ => sw s_ = 1) ns)), some (.int b), some (.int (nI (i + 1))), none]) 26 [true, true, true, true, true, false] rfl ?_
              exact ih_26_ (i + 1) b (by omega) (by first | exact Nat.zero_le _ | omega) (by first | exact fEno_t hb (by assumption) (Or.inl (by assumption)) | exact fEno_t hb (by assumption) (Or.inr (Int32.not_le.mp (by assumption))) | exact fEno_f hb (fun z_ => absurd z_.1 (by assumption)) | exact fEno_f hb (fun z_ => z_.2.elim (fun y_ => absurd y_ (by assumption)) (fun y_ => Int32.not_le.mpr y_ (by assumption))) | rfl)
            · skip
              refine J_iload 80 dX5_enough_80 rfl ?_
              refine J_istore_n (lv' := [some (.ref o), some (.ref (At 0)), some (.int (fMask (fun s_ => sw s_ = 1) ns)), some (.int (nI i)), some (.int (nI i)), some (.int 1)]) 82 3 dX5_enough_82 rfl (by decide) rfl ?_
              refine J_iinc (v := nI (i + 1)) (lv' := [some (.ref o), some (.ref (At 0)), some (.int (fMask (fun s_ => sw s_ = 1) ns)), some (.int (nI i)), some (.int (nI (i + 1))), some (.int 1)]) 83 dX5_enough_83 rfl (nI_add _ 1) (by decide) rfl ?_
              refine J_goto (tgt := 26) 86 dX5_enough_86 (by decide) ?_
              refine J_mask (lv' := [some (.ref o), some (.ref (At 0)), some (.int (fMask (fun s_ => sw s_ = 1) ns)), some (.int (nI i)), some (.int (nI (i + 1))), none]) 26 [true, true, true, true, true, false] rfl ?_
              exact ih_26_ (i + 1) (nI i) (by omega) (by first | exact Nat.zero_le _ | omega) (by first | exact fEno_t hb (by assumption) (Or.inl (by assumption)) | exact fEno_t hb (by assumption) (Or.inr (Int32.not_le.mp (by assumption))) | exact fEno_f hb (fun z_ => absurd z_.1 (by assumption)) | exact fEno_f hb (fun z_ => z_.2.elim (fun y_ => absurd y_ (by assumption)) (fun y_ => Int32.not_le.mpr y_ (by assumption))) | rfl)
  refine J_aload_n 0 0 dX5_enough_0 rfl rfl ?_
  refine kb_RX5_180 (bs' := [wMe o (An 0) (Ak 0) (At 0) (Ad 0) kk tp rw rc sh sf de, wCt G An la ns sd to he sw nh ki te mi ar z, wCt G At la ns sd to he sw nh ki te mi ar z]) (rest := []) (st' := [.ref (At 0)]) 1 (c_X5_tried l G o An Ak At Ad kk tp rw rc sh sf de la ns sd to he sw nh ki te mi ar z t_la t_ns t_sd t_to t_he t_sw t_nh t_ki t_te t_mi t_ar t_z ) [0, 1, 2] 0 rfl rfl rfl [[o], [An 0, An 1, An 2, An 3, An 4, An 5, An 6, An 7, An 8], [At 0, At 1, At 2, At 3, At 4, At 5, At 6, At 7, At 8]] rfl rfl rfl rfl rfl rfl (Nat.le_of_ble_eq_true rfl) rfl dX5_enough_1 ?_
  refine J_astore_n (lv' := [some (.ref o), some (.ref (At 0)), none, none, none, none]) 4 1 dX5_enough_4 rfl (by decide) rfl ?_
  refine J_aload_n 5 1 dX5_enough_5 rfl rfl ?_
  refine J_bipush (v := 12) 6 dX5_enough_6 rfl ?_
  refine J_sipush (v := 255) 8 dX5_enough_8 rfl ?_
  refine kb_RX5_167 (bs' := [wMe o (An 0) (Ak 0) (At 0) (Ad 0) kk tp rw rc sh sf de, wCt G An la ns sd to he sw nh ki te mi ar z, wCt G At la ns (sd + min 12 (ns - sd)) to he sw nh ki (fTe (fun h_ => h_ < nh ∧ hasP 255 (nI h_)) la ki mi te ar to he sw sd (min 12 (ns - sd))) mi (fAr (fun h_ => h_ < nh ∧ hasP 255 (nI h_)) la ki mi te ar to he sw sd (min 12 (ns - sd))) z]) (rest := []) (st' := [.int (nI (min 12 (ns - sd)))]) 11 (c_X0_sayMore l G 12 255 At la ns sd to he sw nh ki te mi ar z (by first | omega | assumption) (by first | omega | assumption) (by first | omega | assumption) (by first | omega | assumption)) [2] 10 rfl rfl rfl [[At 0, At 1, At 2, At 3, At 4, At 5, At 6, At 7, At 8]] rfl rfl rfl rfl rfl rfl (Nat.le_of_ble_eq_true rfl) rfl dX5_enough_11 ?_
  refine J_pop 14 dX5_enough_14 rfl ?_
  refine J_aload_n 15 1 dX5_enough_15 rfl rfl ?_
  refine kb_RX5_184 (bs' := [wMe o (An 0) (Ak 0) (At 0) (Ad 0) kk tp rw rc sh sf de, wCt G An la ns sd to he sw nh ki te mi ar z, wCt G At la ns (sd + min 12 (ns - sd)) to he sw nh ki (fTe (fun h_ => h_ < nh ∧ hasP 255 (nI h_)) la ki mi te ar to he sw sd (min 12 (ns - sd))) mi (fAr (fun h_ => h_ < nh ∧ hasP 255 (nI h_)) la ki mi te ar to he sw sd (min 12 (ns - sd))) z]) (rest := []) (st' := [.int (fMask (fun s_ => sw s_ = 1) ns)]) 16 (c_X0_swornSet l G At la ns (sd + min 12 (ns - sd)) to he sw nh ki (fTe (fun h_ => h_ < nh ∧ hasP 255 (nI h_)) la ki mi te ar to he sw sd (min 12 (ns - sd))) mi (fAr (fun h_ => h_ < nh ∧ hasP 255 (nI h_)) la ki mi te ar to he sw sd (min 12 (ns - sd))) z (by first | omega | assumption)) [2] 10 rfl rfl rfl [[At 0, At 1, At 2, At 3, At 4, At 5, At 6, At 7, At 8]] rfl rfl rfl rfl rfl rfl (Nat.le_of_ble_eq_true rfl) rfl dX5_enough_16 ?_
  refine J_istore_n (lv' := [some (.ref o), some (.ref (At 0)), some (.int (fMask (fun s_ => sw s_ = 1) ns)), none, none, none]) 19 2 dX5_enough_19 rfl (by decide) rfl ?_
  refine J_bipush (v := (-3)) 20 dX5_enough_20 rfl ?_
  refine J_istore_n (lv' := [some (.ref o), some (.ref (At 0)), some (.int (fMask (fun s_ => sw s_ = 1) ns)), some (.int (-3)), none, none]) 22 3 dX5_enough_22 rfl (by decide) rfl ?_
  refine J_iconst (v := 0) 23 dX5_enough_23 rfl ?_
  refine J_istore (lv' := [some (.ref o), some (.ref (At 0)), some (.int (fMask (fun s_ => sw s_ = 1) ns)), some (.int (-3)), some (.int 0), none]) 24 dX5_enough_24 (by decide) rfl ?_
  exact cut_26_ ((2 ^ nh - 0) + 1) 0 (-3) (Nat.lt_succ_self _) (by first | exact Nat.zero_le _ | omega) (by first | exact fEno_t hb (by assumption) (Or.inl (by assumption)) | exact fEno_t hb (by assumption) (Or.inr (Int32.not_le.mp (by assumption))) | exact fEno_f hb (fun z_ => absurd z_.1 (by assumption)) | exact fEno_f hb (fun z_ => z_.2.elim (fun y_ => absurd y_ (by assumption)) (fun y_ => Int32.not_le.mpr y_ (by assumption))) | rfl)
set_option maxRecDepth 100000 in
set_option maxHeartbeats 4000000 in
theorem c_X5_fits_bad (l : Launch) (G : Gd) (s : Int32) (h : Int32) (w : Int32) (o : Nat) (An : Nat → Nat) (Ak : Nat → Nat) (At : Nat → Nat) (Ad : Nat → Nat) (kk : Int32) (tp : Nat) (rw : Nat) (rc : Nat) (sh : Nat) (sf : Nat) (de : Nat) (la : Nat → Int32) (ns : Nat) (sd : Nat) (to : Nat → Int32) (he : Nat → Int32) (sw : Nat → Int32) (nh : Nat) (ki : Nat → Int32) (te : Nat → Int32) (mi : Nat → Int32) (ar : Nat → Int32) (z : Int32) (hw : ¬ ((0 ≤ s ∧ s ≤ 3) ∧ (0 ≤ h ∧ h ≤ nI nh - 1) ∧ (0 ≤ w ∧ w ≤ 1))) : Ct l G yX5_fits cX5_fits 7 (some (FieldType.int)) 4 [.ref o, .int s, .int h, .int w] (wF [wMe o (An 0) (Ak 0) (At 0) (Ad 0) kk tp rw rc sh sf de, wCt G An la ns sd to he sw nh ki te mi ar z]) (some (.int (-1))) (wF [wMe o (An 0) (Ak 0) (At 0) (Ad 0) kk tp rw rc sh sf de, wCt G An la ns sd to he sw nh ki te mi ar z]) := by
  refine Ct.of "GooseArms" [some (.ref o), some (.int s), some (.int h), some (.int w), none, none, none] (by decide +kernel) rfl (Nat.le_of_ble_eq_true rfl) rfl ?_
  refine J_iload_n 0 1 dX5_fits_0 rfl rfl ?_
  refine kb_RX5_219 (bs' := [wMe o (An 0) (Ak 0) (At 0) (Ad 0) kk tp rw rc sh sf de, wCt G An la ns sd to he sw nh ki te mi ar z]) (rest := []) (st' := [.int (bI (0 ≤ s ∧ s ≤ 3))]) 1 (c_X5_isPlace l G s ) [] rfl rfl [] rfl rfl rfl rfl rfl rfl (Nat.le_of_ble_eq_true rfl) rfl dX5_fits_1 ?_
  refine J_ifB_eq (tgt := 24) 4 dX5_fits_4 (by decide) (fun c_1_ => ?_) (fun c_1_ => ?_)
  · skip
    refine J_iconst (v := (-1)) 24 dX5_fits_24 rfl ?_
    exact J_iret 25 dX5_fits_25 rfl rfl
  · skip
    refine J_aload_n 7 0 dX5_fits_7 rfl rfl ?_
    refine J_iload_n 8 2 dX5_fits_8 rfl rfl ?_
    refine kb_RX5_135 (bs' := [wMe o (An 0) (Ak 0) (At 0) (Ad 0) kk tp rw rc sh sf de, wCt G An la ns sd to he sw nh ki te mi ar z]) (rest := []) (st' := [.int (bI (0 ≤ h ∧ h ≤ nI nh - 1))]) 9 (c_X5_isHearer l G h o An Ak At Ad kk tp rw rc sh sf de la ns sd to he sw nh ki te mi ar z ) [0, 1] 0 rfl rfl rfl [[o], [An 0, An 1, An 2, An 3, An 4, An 5, An 6, An 7, An 8]] rfl rfl rfl rfl rfl rfl (Nat.le_of_ble_eq_true rfl) rfl dX5_fits_9 ?_
    refine J_ifB_eq (tgt := 24) 12 dX5_fits_12 (by decide) (fun c_2_ => ?_) (fun c_2_ => ?_)
    · skip
      refine J_iconst (v := (-1)) 24 dX5_fits_24 rfl ?_
      exact J_iret 25 dX5_fits_25 rfl rfl
    · skip
      refine J_iload_n 15 3 dX5_fits_15 rfl rfl ?_
      refine J_iconst (v := 0) 16 dX5_fits_16 rfl ?_
      refine J_iconst (v := 1) 17 dX5_fits_17 rfl ?_
      refine kb_RX5_65 (bs' := [wMe o (An 0) (Ak 0) (At 0) (Ad 0) kk tp rw rc sh sf de, wCt G An la ns sd to he sw nh ki te mi ar z]) (rest := []) (st' := [.int (bI (0 ≤ w ∧ w ≤ 1))]) 18 (c_X5_within l G w 0 1 ) [] rfl rfl [] rfl rfl rfl rfl rfl rfl (Nat.le_of_ble_eq_true rfl) rfl dX5_fits_18 ?_
      refine J_ifB_ne (tgt := 26) 21 dX5_fits_21 (by decide) (fun c_3_ => ?_) (fun c_3_ => ?_)
      · skip
        exact absurd ⟨by assumption, by assumption, by assumption⟩ hw
      · skip
        refine J_iconst (v := (-1)) 24 dX5_fits_24 rfl ?_
        exact J_iret 25 dX5_fits_25 rfl rfl
set_option maxRecDepth 100000 in
set_option maxHeartbeats 4000000 in
theorem c_X5_fits_m0 (l : Launch) (G : Gd) (s : Nat) (h : Nat) (Sa : Nat) (o : Nat) (An : Nat → Nat) (Ak : Nat → Nat) (At : Nat → Nat) (Ad : Nat → Nat) (kk : Int32) (tp : Nat) (rw : Nat) (rc : Nat) (sh : Nat) (sf : Nat) (de : Nat) (la : Nat → Int32) (ns : Nat) (sd : Nat) (to : Nat → Int32) (he : Nat → Int32) (sw : Nat → Int32) (nh : Nat) (ki : Nat → Int32) (te : Nat → Int32) (mi : Nat → Int32) (ar : Nat → Int32) (z : Int32) (shf : Nat → Option Nat) (so : Int32) (m : Nat) (im : Nat) (hh : h < nh) (hnh : nh ≤ 8) (hs : s ≤ 3) (hx : shf s = some Sa) (hso : so = -1) : Ct l G yX5_fits cX5_fits 7 (some (FieldType.int)) 4 [.ref o, .int (nI s), .int (nI h), .int 0] (wF [wMe o (An 0) (Ak 0) (At 0) (Ad 0) kk tp rw rc sh sf de, wCt G An la ns sd to he sw nh ki te mi ar z, wQ G sh 4 3 shf, wSh Sa so (nI m) im]) (some (.int (-11))) (wF [wMe o (An 0) (Ak 0) (At 0) (Ad 0) kk tp rw rc sh sf de, wCt G An la ns sd to he sw nh ki te mi ar z, wQ G sh 4 3 shf, wSh Sa so (nI m) im]) := by
  refine Ct.of "GooseArms" [some (.ref o), some (.int (nI s)), some (.int (nI h)), some (.int 0), none, none, none] (by decide +kernel) rfl (Nat.le_of_ble_eq_true rfl) rfl ?_
  refine J_iload_n 0 1 dX5_fits_0 rfl rfl ?_
  refine kb_RX5_219 (bs' := [wMe o (An 0) (Ak 0) (At 0) (Ad 0) kk tp rw rc sh sf de, wCt G An la ns sd to he sw nh ki te mi ar z, wQ G sh 4 3 shf, wSh Sa so (nI m) im]) (rest := []) (st' := [.int 1]) 1 (c_X5_isPlace_t l G s (by first | omega | assumption)) [] rfl rfl [] rfl rfl rfl rfl rfl rfl (Nat.le_of_ble_eq_true rfl) rfl dX5_fits_1 ?_
  refine J_if_eq (tgt := 24) 4 dX5_fits_4 (by decide) (fun c_1_ => absurd c_1_ (by decide)) (fun _ => ?_)
  refine J_aload_n 7 0 dX5_fits_7 rfl rfl ?_
  refine J_iload_n 8 2 dX5_fits_8 rfl rfl ?_
  refine kb_RX5_135 (bs' := [wMe o (An 0) (Ak 0) (At 0) (Ad 0) kk tp rw rc sh sf de, wCt G An la ns sd to he sw nh ki te mi ar z, wQ G sh 4 3 shf, wSh Sa so (nI m) im]) (rest := []) (st' := [.int 1]) 9 (c_X5_isHearer_t l G h o An Ak At Ad kk tp rw rc sh sf de la ns sd to he sw nh ki te mi ar z (by assumption) (by omega)) [0, 1] 0 rfl rfl rfl [[o], [An 0, An 1, An 2, An 3, An 4, An 5, An 6, An 7, An 8]] rfl rfl rfl rfl rfl rfl (Nat.le_of_ble_eq_true rfl) rfl dX5_fits_9 ?_
  refine J_if_eq (tgt := 24) 12 dX5_fits_12 (by decide) (fun c_2_ => absurd c_2_ (by decide)) (fun _ => ?_)
  refine J_iload_n 15 3 dX5_fits_15 rfl rfl ?_
  refine J_iconst (v := 0) 16 dX5_fits_16 rfl ?_
  refine J_iconst (v := 1) 17 dX5_fits_17 rfl ?_
  refine kb_RX5_65 (bs' := [wMe o (An 0) (Ak 0) (At 0) (Ad 0) kk tp rw rc sh sf de, wCt G An la ns sd to he sw nh ki te mi ar z, wQ G sh 4 3 shf, wSh Sa so (nI m) im]) (rest := []) (st' := [.int 1]) 18 (c_X5_within_t l G 0 0 1 (by decide)) [] rfl rfl [] rfl rfl rfl rfl rfl rfl (Nat.le_of_ble_eq_true rfl) rfl dX5_fits_18 ?_
  refine J_if_ne (tgt := 26) 21 dX5_fits_21 (by decide) (fun _ => ?_) (fun c_3_ => absurd c_3_ (by decide))
  refine J_aload_n 26 0 dX5_fits_26 rfl rfl ?_
  refine g_204 (v := .ref sh) 27 0 rfl rfl dX5_fits_27 ?_
  refine J_iload_n 30 1 dX5_fits_30 rfl rfl ?_
  refine J_aldq (b := Sa) 31 10 3 s rfl rfl rfl (by omega) (by decide) hx dX5_fits_31 ?_
  refine kb_RX5_222 (bs' := [wMe o (An 0) (Ak 0) (At 0) (Ad 0) kk tp rw rc sh sf de, wCt G An la ns sd to he sw nh ki te mi ar z, wQ G sh 4 3 shf, wSh Sa so (nI m) im]) (rest := []) (st' := [.int (bI (so = -1))]) 32 (c_X2_isMissing l G Sa so (nI m) im ) [3] 11 rfl rfl rfl [[Sa]] rfl rfl rfl rfl rfl rfl (Nat.le_of_ble_eq_true rfl) rfl dX5_fits_32 ?_
  refine J_ifB_eq (tgt := 41) 35 dX5_fits_35 (by decide) (fun c_4_ => ?_) (fun c_4_ => ?_)
  · skip
    exact absurd hso c_4_
  · skip
    refine J_bipush (v := (-11)) 38 dX5_fits_38 rfl ?_
    exact J_iret 40 dX5_fits_40 rfl rfl
set_option maxRecDepth 100000 in
set_option maxHeartbeats 4000000 in
theorem c_X5_fits_0 (l : Launch) (G : Gd) (s : Nat) (h : Nat) (Sa : Nat) (m : Nat) (o : Nat) (An : Nat → Nat) (Ak : Nat → Nat) (At : Nat → Nat) (Ad : Nat → Nat) (kk : Int32) (tp : Nat) (rw : Nat) (rc : Nat) (sh : Nat) (sf : Nat) (de : Nat) (la : Nat → Int32) (ns : Nat) (sd : Nat) (to : Nat → Int32) (he : Nat → Int32) (sw : Nat → Int32) (nh : Nat) (ki : Nat → Int32) (te : Nat → Int32) (mi : Nat → Int32) (ar : Nat → Int32) (z : Int32) (t_la : Nat → Int32) (t_ns : Nat) (t_sd : Nat) (t_to : Nat → Int32) (t_he : Nat → Int32) (t_sw : Nat → Int32) (t_nh : Nat) (t_ki : Nat → Int32) (t_te : Nat → Int32) (t_mi : Nat → Int32) (t_ar : Nat → Int32) (t_z : Int32) (shf : Nat → Option Nat) (so : Int32) (im : Nat) (it : Nat → Int64) (hh : h < nh) (hnh : nh ≤ 8) (hns : ns ≤ 12) (hsd : sd ≤ ns) (hs : s ≤ 3) (hx : shf s = some Sa) (hso : ¬ so = -1) (hm : m ≤ 40) : CtP l G yX5_fits cX5_fits 7 (some (FieldType.int)) 4 [.ref o, .int (nI s), .int (nI h), .int 0] (wF [wMe o (An 0) (Ak 0) (At 0) (Ad 0) kk tp rw rc sh sf de, wCt G An la ns sd to he sw nh ki te mi ar z, wCt G At t_la t_ns t_sd t_to t_he t_sw t_nh t_ki t_te t_mi t_ar t_z, wQ G sh 4 3 shf, wSh Sa so (nI m) im, wJ G im 40 it]) (some (.int (nI ((fFit (fun t_ => ∀ i_, i_ < min m (ns - sd) → fOkS it la (ki h) (mi h) to he sw sd (nI t_, ar h) i_) 100).1)))) (fun w_ => ∃ (j_2_la : Nat → Int32) (j_2_ns : Nat) (j_2_sd : Nat) (j_2_to : Nat → Int32) (j_2_he : Nat → Int32) (j_2_sw : Nat → Int32) (j_2_nh : Nat) (j_2_ki : Nat → Int32) (j_2_te : Nat → Int32) (j_2_mi : Nat → Int32) (j_2_ar : Nat → Int32) (j_2_z : Int32), w_ = (wF [wMe o (An 0) (Ak 0) (At 0) (Ad 0) kk tp rw rc sh sf de, wCt G An la ns sd to he sw nh ki te mi ar z, wCt G At j_2_la j_2_ns j_2_sd j_2_to j_2_he j_2_sw j_2_nh j_2_ki j_2_te j_2_mi j_2_ar j_2_z, wQ G sh 4 3 shf, wSh Sa so (nI m) im, wJ G im 40 it])) := by
  refine CtP.of "GooseArms" [some (.ref o), some (.int (nI s)), some (.int (nI h)), some (.int 0), none, none, none] (by decide +kernel) rfl (Nat.le_of_ble_eq_true rfl) rfl ?_
  have cut_52_ : ∀ (n_52_ : Nat) (k : Nat) (c : Nat) (m1 : Int32) (t_la1 : Nat → Int32) (t_ns1 : Nat) (t_sd1 : Nat) (t_to1 : Nat → Int32) (t_he1 : Nat → Int32) (t_sw1 : Nat → Int32) (t_nh1 : Nat) (t_ki1 : Nat → Int32) (t_te1 : Nat → Int32) (t_mi1 : Nat → Int32) (t_ar1 : Nat → Int32) (t_z1 : Int32), (k < n_52_) → (hk : k ≤ 100) → (hf : fFit (fun t_ => ∀ i_, i_ < min m (ns - sd) → fOkS it la (ki h) (mi h) to he sw sd (nI t_, ar h) i_) (100 - k) = (c, m1)) → (hc : c ≤ 100 - k) → J l G (bdP G 4 (some (FieldType.int)) (some (.int (nI ((fFit (fun t_ => ∀ i_, i_ < min m (ns - sd) → fOkS it la (ki h) (mi h) to he sw sd (nI t_, ar h) i_) 100).1)))) (fun w_ => ∃ (j_2_la : Nat → Int32) (j_2_ns : Nat) (j_2_sd : Nat) (j_2_to : Nat → Int32) (j_2_he : Nat → Int32) (j_2_sw : Nat → Int32) (j_2_nh : Nat) (j_2_ki : Nat → Int32) (j_2_te : Nat → Int32) (j_2_mi : Nat → Int32) (j_2_ar : Nat → Int32) (j_2_z : Int32), w_ = (wF [wMe o (An 0) (Ak 0) (At 0) (Ad 0) kk tp rw rc sh sf de, wCt G An la ns sd to he sw nh ki te mi ar z, wCt G At j_2_la j_2_ns j_2_sd j_2_to j_2_he j_2_sw j_2_nh j_2_ki j_2_te j_2_mi j_2_ar j_2_z, wQ G sh 4 3 shf, wSh Sa so (nI m) im, wJ G im 40 it]))) cX5_fits 7 "GooseArms" 52 [some (.ref o), some (.int (nI s)), some (.int (nI h)), some (.int 0), some (.int (nI c)), some (.int m1), some (.int (nI k - 1))] [] (wF [wMe o (An 0) (Ak 0) (At 0) (Ad 0) kk tp rw rc sh sf de, wCt G An la ns sd to he sw nh ki te mi ar z, wCt G At t_la1 t_ns1 t_sd1 t_to1 t_he1 t_sw1 t_nh1 t_ki1 t_te1 t_mi1 t_ar1 t_z1, wQ G sh 4 3 shf, wSh Sa so (nI m) im, wJ G im 40 it]) := by
    intro n_52_
    induction n_52_ with
    | zero => intro k c m1 t_la1 t_ns1 t_sd1 t_to1 t_he1 t_sw1 t_nh1 t_ki1 t_te1 t_mi1 t_ar1 t_z1 m_52_; exact absurd m_52_ (Nat.not_lt_zero _)
    | succ n_52_ ih_52_ =>
      intro k c m1 t_la1 t_ns1 t_sd1 t_to1 t_he1 t_sw1 t_nh1 t_ki1 t_te1 t_mi1 t_ar1 t_z1 m_52_ hk hf hc
      refine J_iload 52 dX5_fits_52 rfl ?_
      refine J_if_lt (tgt := 86) 54 dX5_fits_54 (by decide) (fun c_1_ => ?_) (fun c_1_ => ?_)
      · skip
        have hk0_ := dn_0 hk c_1_
        refine J_iload_n 86 3 dX5_fits_86 rfl rfl ?_
        refine J_if_ne (tgt := 95) 87 dX5_fits_87 (by decide) (fun c_2_ => absurd c_2_ (by decide)) (fun _ => ?_)
        refine J_iload 90 dX5_fits_90 rfl ?_
        refine J_goto (tgt := 97) 92 dX5_fits_92 (by decide) ?_
        exact J_iretP 97 dX5_fits_97 (congrArg (fun x_ => some (Value.int x_)) (by subst hk0_; rw [show (100 : Nat) = 100 - 0 from rfl, hf])) ⟨t_la1, t_ns1, t_sd1, t_to1, t_he1, t_sw1, t_nh1, t_ki1, t_te1, t_mi1, t_ar1, t_z1, rfl⟩
      · skip
        have hk1_ := dn_1 hk c_1_
        refine J_aload_n 57 0 dX5_fits_57 rfl rfl ?_
        refine J_aload_n 58 0 dX5_fits_58 rfl rfl ?_
        refine g_204 (v := .ref sh) 59 0 rfl rfl dX5_fits_59 ?_
        refine J_iload_n 62 1 dX5_fits_62 rfl rfl ?_
        refine J_aldq (b := Sa) 63 19 3 s rfl rfl rfl (by omega) (by decide) hx dX5_fits_63 ?_
        refine J_iload_n 64 2 dX5_fits_64 rfl rfl ?_
        refine J_iload 65 dX5_fits_65 rfl ?_
        refine J_topi (y := nI (k - 1)) 67 (pk_sub (a := k) (b := 1) (by omega)) ?_
        refine J_bVP (rest := []) (st' := [.int (bI (∀ i_, i_ < min m (ns - sd) → fOkS it la (ki h) (mi h) to he sw sd (nI (k - 1), ar h) i_))]) 67 (c_X5_mightBeSo l G h (k - 1) m o An Ak At Ad kk tp rw rc sh sf de la ns sd to he sw nh ki te mi ar z t_la1 t_ns1 t_sd1 t_to1 t_he1 t_sw1 t_nh1 t_ki1 t_te1 t_mi1 t_ar1 t_z1 Sa so im it (by first | omega | assumption) (by first | omega | assumption) (by first | omega | assumption) (by first | omega | assumption) (by omega) (by first | omega | assumption)) w_627 w_629 v_16 w_1 w_630 ok_X5_mightBeSo [0, 1, 2, 4, 5] 0 5 rfl rfl rfl rfl [[o], [An 0, An 1, An 2, An 3, An 4, An 5, An 6, An 7, An 8], [At 0, At 1, At 2, At 3, At 4, At 5, At 6, At 7, At 8], [Sa], [im]] rfl (fun w1s_ => ∃ (x_67_2_te : Nat → Int32) (x_67_2_ar : Nat → Int32) (x_67_2_sd : Nat), w1s_ = [wMe o (An 0) (Ak 0) (At 0) (Ad 0) kk tp rw rc sh sf de, wCt G An la ns sd to he sw nh ki te mi ar z, wCt G At la ns x_67_2_sd to he sw nh ki x_67_2_te mi x_67_2_ar z, wSh Sa so (nI m) im, wJ G im 40 it]) (by rintro _ ⟨x_67_2_te, x_67_2_ar, x_67_2_sd, rfl⟩; exact ⟨_, rfl, ⟨x_67_2_te, x_67_2_ar, x_67_2_sd, rfl⟩, rfl⟩) rfl rfl rfl (Nat.le_of_ble_eq_true rfl) rfl dX5_fits_67 (fun w1_ hw1_ => ?_)
        obtain ⟨x_67_2_te, x_67_2_ar, x_67_2_sd, rfl⟩ := hw1_
        refine J_ws (ws' := (wF [wMe o (An 0) (Ak 0) (At 0) (Ad 0) kk tp rw rc sh sf de, wCt G An la ns sd to he sw nh ki te mi ar z, wCt G At la ns x_67_2_sd to he sw nh ki x_67_2_te mi x_67_2_ar z, wQ G sh 4 3 shf, wSh Sa so (nI m) im, wJ G im 40 it])) 70 rfl ?_
        refine J_ifB_eq (tgt := 80) 70 dX5_fits_70 (by decide) (fun c_3_ => ?_) (fun c_3_ => ?_)
        · skip
          refine J_iinc (v := nI (k - 1) - 1) (lv' := [some (.ref o), some (.int (nI s)), some (.int (nI h)), some (.int 0), some (.int (nI c)), some (.int m1), some (.int (nI (k - 1) - 1))]) 80 dX5_fits_80 rfl (dn_i hk hk1_) (by decide) rfl ?_
          refine J_goto (tgt := 52) 83 dX5_fits_83 (by decide) ?_
          exact ih_52_ (k - 1) c m1 la ns x_67_2_sd to he sw nh ki x_67_2_te mi x_67_2_ar z (by omega) (by first | assumption | omega | rfl) (by first | (rw [show 100 - (k - 1) = (100 - k) + 1 by omega]; exact fFit_t hf (by omega) (by assumption)) | (rw [show 100 - (k - 1) = (100 - k) + 1 by omega]; exact fFit_f (t := k - 1) hf (by omega) (by assumption)) | rfl) (by first | assumption | omega | rfl)
        · skip
          refine J_iinc (v := nI (c + 1)) (lv' := [some (.ref o), some (.int (nI s)), some (.int (nI h)), some (.int 0), some (.int (nI (c + 1))), some (.int m1), some (.int (nI k - 1))]) 73 dX5_fits_73 rfl (nI_add _ 1) (by decide) rfl ?_
          refine J_iload 76 dX5_fits_76 rfl ?_
          refine J_topi (y := nI (k - 1)) 78 (pk_sub (a := k) (b := 1) (by omega)) ?_
          refine J_istore (lv' := [some (.ref o), some (.int (nI s)), some (.int (nI h)), some (.int 0), some (.int (nI (c + 1))), some (.int (nI (k - 1))), some (.int (nI k - 1))]) 78 dX5_fits_78 (by decide) rfl ?_
          refine J_iinc (v := nI (k - 1) - 1) (lv' := [some (.ref o), some (.int (nI s)), some (.int (nI h)), some (.int 0), some (.int (nI (c + 1))), some (.int (nI (k - 1))), some (.int (nI (k - 1) - 1))]) 80 dX5_fits_80 rfl (dn_i hk hk1_) (by decide) rfl ?_
          refine J_goto (tgt := 52) 83 dX5_fits_83 (by decide) ?_
          exact ih_52_ (k - 1) (c + 1) (nI (k - 1)) la ns x_67_2_sd to he sw nh ki x_67_2_te mi x_67_2_ar z (by omega) (by first | assumption | omega | rfl) (by first | (rw [show 100 - (k - 1) = (100 - k) + 1 by omega]; exact fFit_t hf (by omega) (by assumption)) | (rw [show 100 - (k - 1) = (100 - k) + 1 by omega]; exact fFit_f (t := k - 1) hf (by omega) (by assumption)) | rfl) (by first | assumption | omega | rfl)
  refine J_iload_n 0 1 dX5_fits_0 rfl rfl ?_
  refine kb_RX5_219 (bs' := [wMe o (An 0) (Ak 0) (At 0) (Ad 0) kk tp rw rc sh sf de, wCt G An la ns sd to he sw nh ki te mi ar z, wCt G At t_la t_ns t_sd t_to t_he t_sw t_nh t_ki t_te t_mi t_ar t_z, wQ G sh 4 3 shf, wSh Sa so (nI m) im, wJ G im 40 it]) (rest := []) (st' := [.int 1]) 1 (c_X5_isPlace_t l G s (by first | omega | assumption)) [] rfl rfl [] rfl rfl rfl rfl rfl rfl (Nat.le_of_ble_eq_true rfl) rfl dX5_fits_1 ?_
  refine J_if_eq (tgt := 24) 4 dX5_fits_4 (by decide) (fun c_4_ => absurd c_4_ (by decide)) (fun _ => ?_)
  refine J_aload_n 7 0 dX5_fits_7 rfl rfl ?_
  refine J_iload_n 8 2 dX5_fits_8 rfl rfl ?_
  refine kb_RX5_135 (bs' := [wMe o (An 0) (Ak 0) (At 0) (Ad 0) kk tp rw rc sh sf de, wCt G An la ns sd to he sw nh ki te mi ar z, wCt G At t_la t_ns t_sd t_to t_he t_sw t_nh t_ki t_te t_mi t_ar t_z, wQ G sh 4 3 shf, wSh Sa so (nI m) im, wJ G im 40 it]) (rest := []) (st' := [.int 1]) 9 (c_X5_isHearer_t l G h o An Ak At Ad kk tp rw rc sh sf de la ns sd to he sw nh ki te mi ar z (by assumption) (by omega)) [0, 1] 0 rfl rfl rfl [[o], [An 0, An 1, An 2, An 3, An 4, An 5, An 6, An 7, An 8]] rfl rfl rfl rfl rfl rfl (Nat.le_of_ble_eq_true rfl) rfl dX5_fits_9 ?_
  refine J_if_eq (tgt := 24) 12 dX5_fits_12 (by decide) (fun c_5_ => absurd c_5_ (by decide)) (fun _ => ?_)
  refine J_iload_n 15 3 dX5_fits_15 rfl rfl ?_
  refine J_iconst (v := 0) 16 dX5_fits_16 rfl ?_
  refine J_iconst (v := 1) 17 dX5_fits_17 rfl ?_
  refine kb_RX5_65 (bs' := [wMe o (An 0) (Ak 0) (At 0) (Ad 0) kk tp rw rc sh sf de, wCt G An la ns sd to he sw nh ki te mi ar z, wCt G At t_la t_ns t_sd t_to t_he t_sw t_nh t_ki t_te t_mi t_ar t_z, wQ G sh 4 3 shf, wSh Sa so (nI m) im, wJ G im 40 it]) (rest := []) (st' := [.int 1]) 18 (c_X5_within_t l G 0 0 1 (by decide)) [] rfl rfl [] rfl rfl rfl rfl rfl rfl (Nat.le_of_ble_eq_true rfl) rfl dX5_fits_18 ?_
  refine J_if_ne (tgt := 26) 21 dX5_fits_21 (by decide) (fun _ => ?_) (fun c_6_ => absurd c_6_ (by decide))
  refine J_aload_n 26 0 dX5_fits_26 rfl rfl ?_
  refine g_204 (v := .ref sh) 27 0 rfl rfl dX5_fits_27 ?_
  refine J_iload_n 30 1 dX5_fits_30 rfl rfl ?_
  refine J_aldq (b := Sa) 31 19 3 s rfl rfl rfl (by omega) (by decide) hx dX5_fits_31 ?_
  refine kb_RX5_222 (bs' := [wMe o (An 0) (Ak 0) (At 0) (Ad 0) kk tp rw rc sh sf de, wCt G An la ns sd to he sw nh ki te mi ar z, wCt G At t_la t_ns t_sd t_to t_he t_sw t_nh t_ki t_te t_mi t_ar t_z, wQ G sh 4 3 shf, wSh Sa so (nI m) im, wJ G im 40 it]) (rest := []) (st' := [.int (bI (so = -1))]) 32 (c_X2_isMissing l G Sa so (nI m) im ) [4] 20 rfl rfl rfl [[Sa]] rfl rfl rfl rfl rfl rfl (Nat.le_of_ble_eq_true rfl) rfl dX5_fits_32 ?_
  refine J_ifB_eq (tgt := 41) 35 dX5_fits_35 (by decide) (fun c_7_ => ?_) (fun c_7_ => ?_)
  · skip
    refine J_iconst (v := 0) 41 dX5_fits_41 rfl ?_
    refine J_istore (lv' := [some (.ref o), some (.int (nI s)), some (.int (nI h)), some (.int 0), some (.int 0), none, none]) 42 dX5_fits_42 (by decide) rfl ?_
    refine J_bipush (v := (-3)) 44 dX5_fits_44 rfl ?_
    refine J_istore (lv' := [some (.ref o), some (.int (nI s)), some (.int (nI h)), some (.int 0), some (.int 0), some (.int (-3)), none]) 46 dX5_fits_46 (by decide) rfl ?_
    refine J_bipush (v := 99) 48 dX5_fits_48 rfl ?_
    refine J_topi (y := nI 100 - 1) 50 rfl ?_
    refine J_istore (lv' := [some (.ref o), some (.int (nI s)), some (.int (nI h)), some (.int 0), some (.int 0), some (.int (-3)), some (.int (nI 100 - 1))]) 50 dX5_fits_50 (by decide) rfl ?_
    exact cut_52_ (100 + 1) 100 0 (-3) t_la t_ns t_sd t_to t_he t_sw t_nh t_ki t_te t_mi t_ar t_z (Nat.lt_succ_self _) (by first | assumption | omega | rfl) (by first | (rw [show 100 - (k - 1) = (100 - k) + 1 by omega]; exact fFit_t hf (by omega) (by assumption)) | (rw [show 100 - (k - 1) = (100 - k) + 1 by omega]; exact fFit_f (t := k - 1) hf (by omega) (by assumption)) | rfl) (by first | assumption | omega | rfl)
  · skip
    exact absurd c_7_ hso
set_option maxRecDepth 100000 in
set_option maxHeartbeats 4000000 in
theorem c_X5_fits_m1 (l : Launch) (G : Gd) (s : Nat) (h : Nat) (Sa : Nat) (o : Nat) (An : Nat → Nat) (Ak : Nat → Nat) (At : Nat → Nat) (Ad : Nat → Nat) (kk : Int32) (tp : Nat) (rw : Nat) (rc : Nat) (sh : Nat) (sf : Nat) (de : Nat) (la : Nat → Int32) (ns : Nat) (sd : Nat) (to : Nat → Int32) (he : Nat → Int32) (sw : Nat → Int32) (nh : Nat) (ki : Nat → Int32) (te : Nat → Int32) (mi : Nat → Int32) (ar : Nat → Int32) (z : Int32) (shf : Nat → Option Nat) (so : Int32) (m : Nat) (im : Nat) (hh : h < nh) (hnh : nh ≤ 8) (hs : s ≤ 3) (hx : shf s = some Sa) (hso : so = -1) : Ct l G yX5_fits cX5_fits 7 (some (FieldType.int)) 4 [.ref o, .int (nI s), .int (nI h), .int 1] (wF [wMe o (An 0) (Ak 0) (At 0) (Ad 0) kk tp rw rc sh sf de, wCt G An la ns sd to he sw nh ki te mi ar z, wQ G sh 4 3 shf, wSh Sa so (nI m) im]) (some (.int (-11))) (wF [wMe o (An 0) (Ak 0) (At 0) (Ad 0) kk tp rw rc sh sf de, wCt G An la ns sd to he sw nh ki te mi ar z, wQ G sh 4 3 shf, wSh Sa so (nI m) im]) := by
  refine Ct.of "GooseArms" [some (.ref o), some (.int (nI s)), some (.int (nI h)), some (.int 1), none, none, none] (by decide +kernel) rfl (Nat.le_of_ble_eq_true rfl) rfl ?_
  refine J_iload_n 0 1 dX5_fits_0 rfl rfl ?_
  refine kb_RX5_219 (bs' := [wMe o (An 0) (Ak 0) (At 0) (Ad 0) kk tp rw rc sh sf de, wCt G An la ns sd to he sw nh ki te mi ar z, wQ G sh 4 3 shf, wSh Sa so (nI m) im]) (rest := []) (st' := [.int 1]) 1 (c_X5_isPlace_t l G s (by first | omega | assumption)) [] rfl rfl [] rfl rfl rfl rfl rfl rfl (Nat.le_of_ble_eq_true rfl) rfl dX5_fits_1 ?_
  refine J_if_eq (tgt := 24) 4 dX5_fits_4 (by decide) (fun c_1_ => absurd c_1_ (by decide)) (fun _ => ?_)
  refine J_aload_n 7 0 dX5_fits_7 rfl rfl ?_
  refine J_iload_n 8 2 dX5_fits_8 rfl rfl ?_
  refine kb_RX5_135 (bs' := [wMe o (An 0) (Ak 0) (At 0) (Ad 0) kk tp rw rc sh sf de, wCt G An la ns sd to he sw nh ki te mi ar z, wQ G sh 4 3 shf, wSh Sa so (nI m) im]) (rest := []) (st' := [.int 1]) 9 (c_X5_isHearer_t l G h o An Ak At Ad kk tp rw rc sh sf de la ns sd to he sw nh ki te mi ar z (by assumption) (by omega)) [0, 1] 0 rfl rfl rfl [[o], [An 0, An 1, An 2, An 3, An 4, An 5, An 6, An 7, An 8]] rfl rfl rfl rfl rfl rfl (Nat.le_of_ble_eq_true rfl) rfl dX5_fits_9 ?_
  refine J_if_eq (tgt := 24) 12 dX5_fits_12 (by decide) (fun c_2_ => absurd c_2_ (by decide)) (fun _ => ?_)
  refine J_iload_n 15 3 dX5_fits_15 rfl rfl ?_
  refine J_iconst (v := 0) 16 dX5_fits_16 rfl ?_
  refine J_iconst (v := 1) 17 dX5_fits_17 rfl ?_
  refine kb_RX5_65 (bs' := [wMe o (An 0) (Ak 0) (At 0) (Ad 0) kk tp rw rc sh sf de, wCt G An la ns sd to he sw nh ki te mi ar z, wQ G sh 4 3 shf, wSh Sa so (nI m) im]) (rest := []) (st' := [.int 1]) 18 (c_X5_within_t l G 1 0 1 (by decide)) [] rfl rfl [] rfl rfl rfl rfl rfl rfl (Nat.le_of_ble_eq_true rfl) rfl dX5_fits_18 ?_
  refine J_if_ne (tgt := 26) 21 dX5_fits_21 (by decide) (fun _ => ?_) (fun c_3_ => absurd c_3_ (by decide))
  refine J_aload_n 26 0 dX5_fits_26 rfl rfl ?_
  refine g_204 (v := .ref sh) 27 0 rfl rfl dX5_fits_27 ?_
  refine J_iload_n 30 1 dX5_fits_30 rfl rfl ?_
  refine J_aldq (b := Sa) 31 10 3 s rfl rfl rfl (by omega) (by decide) hx dX5_fits_31 ?_
  refine kb_RX5_222 (bs' := [wMe o (An 0) (Ak 0) (At 0) (Ad 0) kk tp rw rc sh sf de, wCt G An la ns sd to he sw nh ki te mi ar z, wQ G sh 4 3 shf, wSh Sa so (nI m) im]) (rest := []) (st' := [.int (bI (so = -1))]) 32 (c_X2_isMissing l G Sa so (nI m) im ) [3] 11 rfl rfl rfl [[Sa]] rfl rfl rfl rfl rfl rfl (Nat.le_of_ble_eq_true rfl) rfl dX5_fits_32 ?_
  refine J_ifB_eq (tgt := 41) 35 dX5_fits_35 (by decide) (fun c_4_ => ?_) (fun c_4_ => ?_)
  · skip
    exact absurd hso c_4_
  · skip
    refine J_bipush (v := (-11)) 38 dX5_fits_38 rfl ?_
    exact J_iret 40 dX5_fits_40 rfl rfl
set_option maxRecDepth 100000 in
set_option maxHeartbeats 4000000 in
theorem c_X5_fits_1 (l : Launch) (G : Gd) (s : Nat) (h : Nat) (Sa : Nat) (m : Nat) (o : Nat) (An : Nat → Nat) (Ak : Nat → Nat) (At : Nat → Nat) (Ad : Nat → Nat) (kk : Int32) (tp : Nat) (rw : Nat) (rc : Nat) (sh : Nat) (sf : Nat) (de : Nat) (la : Nat → Int32) (ns : Nat) (sd : Nat) (to : Nat → Int32) (he : Nat → Int32) (sw : Nat → Int32) (nh : Nat) (ki : Nat → Int32) (te : Nat → Int32) (mi : Nat → Int32) (ar : Nat → Int32) (z : Int32) (t_la : Nat → Int32) (t_ns : Nat) (t_sd : Nat) (t_to : Nat → Int32) (t_he : Nat → Int32) (t_sw : Nat → Int32) (t_nh : Nat) (t_ki : Nat → Int32) (t_te : Nat → Int32) (t_mi : Nat → Int32) (t_ar : Nat → Int32) (t_z : Int32) (shf : Nat → Option Nat) (so : Int32) (im : Nat) (it : Nat → Int64) (hh : h < nh) (hnh : nh ≤ 8) (hns : ns ≤ 12) (hsd : sd ≤ ns) (hs : s ≤ 3) (hx : shf s = some Sa) (hso : ¬ so = -1) (hm : m ≤ 40) : CtP l G yX5_fits cX5_fits 7 (some (FieldType.int)) 4 [.ref o, .int (nI s), .int (nI h), .int 1] (wF [wMe o (An 0) (Ak 0) (At 0) (Ad 0) kk tp rw rc sh sf de, wCt G An la ns sd to he sw nh ki te mi ar z, wCt G At t_la t_ns t_sd t_to t_he t_sw t_nh t_ki t_te t_mi t_ar t_z, wQ G sh 4 3 shf, wSh Sa so (nI m) im, wJ G im 40 it]) (some (.int ((fFit (fun t_ => ∀ i_, i_ < min m (ns - sd) → fOkS it la (ki h) (mi h) to he sw sd (nI t_, ar h) i_) 100).2))) (fun w_ => ∃ (j_2_la : Nat → Int32) (j_2_ns : Nat) (j_2_sd : Nat) (j_2_to : Nat → Int32) (j_2_he : Nat → Int32) (j_2_sw : Nat → Int32) (j_2_nh : Nat) (j_2_ki : Nat → Int32) (j_2_te : Nat → Int32) (j_2_mi : Nat → Int32) (j_2_ar : Nat → Int32) (j_2_z : Int32), w_ = (wF [wMe o (An 0) (Ak 0) (At 0) (Ad 0) kk tp rw rc sh sf de, wCt G An la ns sd to he sw nh ki te mi ar z, wCt G At j_2_la j_2_ns j_2_sd j_2_to j_2_he j_2_sw j_2_nh j_2_ki j_2_te j_2_mi j_2_ar j_2_z, wQ G sh 4 3 shf, wSh Sa so (nI m) im, wJ G im 40 it])) := by
  refine CtP.of "GooseArms" [some (.ref o), some (.int (nI s)), some (.int (nI h)), some (.int 1), none, none, none] (by decide +kernel) rfl (Nat.le_of_ble_eq_true rfl) rfl ?_
  have cut_52_ : ∀ (n_52_ : Nat) (k : Nat) (c : Nat) (m1 : Int32) (t_la1 : Nat → Int32) (t_ns1 : Nat) (t_sd1 : Nat) (t_to1 : Nat → Int32) (t_he1 : Nat → Int32) (t_sw1 : Nat → Int32) (t_nh1 : Nat) (t_ki1 : Nat → Int32) (t_te1 : Nat → Int32) (t_mi1 : Nat → Int32) (t_ar1 : Nat → Int32) (t_z1 : Int32), (k < n_52_) → (hk : k ≤ 100) → (hf : fFit (fun t_ => ∀ i_, i_ < min m (ns - sd) → fOkS it la (ki h) (mi h) to he sw sd (nI t_, ar h) i_) (100 - k) = (c, m1)) → (hc : c ≤ 100 - k) → J l G (bdP G 4 (some (FieldType.int)) (some (.int ((fFit (fun t_ => ∀ i_, i_ < min m (ns - sd) → fOkS it la (ki h) (mi h) to he sw sd (nI t_, ar h) i_) 100).2))) (fun w_ => ∃ (j_2_la : Nat → Int32) (j_2_ns : Nat) (j_2_sd : Nat) (j_2_to : Nat → Int32) (j_2_he : Nat → Int32) (j_2_sw : Nat → Int32) (j_2_nh : Nat) (j_2_ki : Nat → Int32) (j_2_te : Nat → Int32) (j_2_mi : Nat → Int32) (j_2_ar : Nat → Int32) (j_2_z : Int32), w_ = (wF [wMe o (An 0) (Ak 0) (At 0) (Ad 0) kk tp rw rc sh sf de, wCt G An la ns sd to he sw nh ki te mi ar z, wCt G At j_2_la j_2_ns j_2_sd j_2_to j_2_he j_2_sw j_2_nh j_2_ki j_2_te j_2_mi j_2_ar j_2_z, wQ G sh 4 3 shf, wSh Sa so (nI m) im, wJ G im 40 it]))) cX5_fits 7 "GooseArms" 52 [some (.ref o), some (.int (nI s)), some (.int (nI h)), some (.int 1), some (.int (nI c)), some (.int m1), some (.int (nI k - 1))] [] (wF [wMe o (An 0) (Ak 0) (At 0) (Ad 0) kk tp rw rc sh sf de, wCt G An la ns sd to he sw nh ki te mi ar z, wCt G At t_la1 t_ns1 t_sd1 t_to1 t_he1 t_sw1 t_nh1 t_ki1 t_te1 t_mi1 t_ar1 t_z1, wQ G sh 4 3 shf, wSh Sa so (nI m) im, wJ G im 40 it]) := by
    intro n_52_
    induction n_52_ with
    | zero => intro k c m1 t_la1 t_ns1 t_sd1 t_to1 t_he1 t_sw1 t_nh1 t_ki1 t_te1 t_mi1 t_ar1 t_z1 m_52_; exact absurd m_52_ (Nat.not_lt_zero _)
    | succ n_52_ ih_52_ =>
      intro k c m1 t_la1 t_ns1 t_sd1 t_to1 t_he1 t_sw1 t_nh1 t_ki1 t_te1 t_mi1 t_ar1 t_z1 m_52_ hk hf hc
      refine J_iload 52 dX5_fits_52 rfl ?_
      refine J_if_lt (tgt := 86) 54 dX5_fits_54 (by decide) (fun c_1_ => ?_) (fun c_1_ => ?_)
      · skip
        have hk0_ := dn_0 hk c_1_
        refine J_iload_n 86 3 dX5_fits_86 rfl rfl ?_
        refine J_if_ne (tgt := 95) 87 dX5_fits_87 (by decide) (fun _ => ?_) (fun c_2_ => absurd c_2_ (by decide))
        refine J_iload 95 dX5_fits_95 rfl ?_
        exact J_iretP 97 dX5_fits_97 (congrArg (fun x_ => some (Value.int x_)) (by subst hk0_; rw [show (100 : Nat) = 100 - 0 from rfl, hf])) ⟨t_la1, t_ns1, t_sd1, t_to1, t_he1, t_sw1, t_nh1, t_ki1, t_te1, t_mi1, t_ar1, t_z1, rfl⟩
      · skip
        have hk1_ := dn_1 hk c_1_
        refine J_aload_n 57 0 dX5_fits_57 rfl rfl ?_
        refine J_aload_n 58 0 dX5_fits_58 rfl rfl ?_
        refine g_204 (v := .ref sh) 59 0 rfl rfl dX5_fits_59 ?_
        refine J_iload_n 62 1 dX5_fits_62 rfl rfl ?_
        refine J_aldq (b := Sa) 63 19 3 s rfl rfl rfl (by omega) (by decide) hx dX5_fits_63 ?_
        refine J_iload_n 64 2 dX5_fits_64 rfl rfl ?_
        refine J_iload 65 dX5_fits_65 rfl ?_
        refine J_topi (y := nI (k - 1)) 67 (pk_sub (a := k) (b := 1) (by omega)) ?_
        refine J_bVP (rest := []) (st' := [.int (bI (∀ i_, i_ < min m (ns - sd) → fOkS it la (ki h) (mi h) to he sw sd (nI (k - 1), ar h) i_))]) 67 (c_X5_mightBeSo l G h (k - 1) m o An Ak At Ad kk tp rw rc sh sf de la ns sd to he sw nh ki te mi ar z t_la1 t_ns1 t_sd1 t_to1 t_he1 t_sw1 t_nh1 t_ki1 t_te1 t_mi1 t_ar1 t_z1 Sa so im it (by first | omega | assumption) (by first | omega | assumption) (by first | omega | assumption) (by first | omega | assumption) (by omega) (by first | omega | assumption)) w_627 w_629 v_16 w_1 w_630 ok_X5_mightBeSo [0, 1, 2, 4, 5] 0 5 rfl rfl rfl rfl [[o], [An 0, An 1, An 2, An 3, An 4, An 5, An 6, An 7, An 8], [At 0, At 1, At 2, At 3, At 4, At 5, At 6, At 7, At 8], [Sa], [im]] rfl (fun w1s_ => ∃ (x_67_2_te : Nat → Int32) (x_67_2_ar : Nat → Int32) (x_67_2_sd : Nat), w1s_ = [wMe o (An 0) (Ak 0) (At 0) (Ad 0) kk tp rw rc sh sf de, wCt G An la ns sd to he sw nh ki te mi ar z, wCt G At la ns x_67_2_sd to he sw nh ki x_67_2_te mi x_67_2_ar z, wSh Sa so (nI m) im, wJ G im 40 it]) (by rintro _ ⟨x_67_2_te, x_67_2_ar, x_67_2_sd, rfl⟩; exact ⟨_, rfl, ⟨x_67_2_te, x_67_2_ar, x_67_2_sd, rfl⟩, rfl⟩) rfl rfl rfl (Nat.le_of_ble_eq_true rfl) rfl dX5_fits_67 (fun w1_ hw1_ => ?_)
        obtain ⟨x_67_2_te, x_67_2_ar, x_67_2_sd, rfl⟩ := hw1_
        refine J_ws (ws' := (wF [wMe o (An 0) (Ak 0) (At 0) (Ad 0) kk tp rw rc sh sf de, wCt G An la ns sd to he sw nh ki te mi ar z, wCt G At la ns x_67_2_sd to he sw nh ki x_67_2_te mi x_67_2_ar z, wQ G sh 4 3 shf, wSh Sa so (nI m) im, wJ G im 40 it])) 70 rfl ?_
        refine J_ifB_eq (tgt := 80) 70 dX5_fits_70 (by decide) (fun c_3_ => ?_) (fun c_3_ => ?_)
        · skip
          refine J_iinc (v := nI (k - 1) - 1) (lv' := [some (.ref o), some (.int (nI s)), some (.int (nI h)), some (.int 1), some (.int (nI c)), some (.int m1), some (.int (nI (k - 1) - 1))]) 80 dX5_fits_80 rfl (dn_i hk hk1_) (by decide) rfl ?_
          refine J_goto (tgt := 52) 83 dX5_fits_83 (by decide) ?_
          exact ih_52_ (k - 1) c m1 la ns x_67_2_sd to he sw nh ki x_67_2_te mi x_67_2_ar z (by omega) (by first | assumption | omega | rfl) (by first | (rw [show 100 - (k - 1) = (100 - k) + 1 by omega]; exact fFit_t hf (by omega) (by assumption)) | (rw [show 100 - (k - 1) = (100 - k) + 1 by omega]; exact fFit_f (t := k - 1) hf (by omega) (by assumption)) | rfl) (by first | assumption | omega | rfl)
        · skip
          refine J_iinc (v := nI (c + 1)) (lv' := [some (.ref o), some (.int (nI s)), some (.int (nI h)), some (.int 1), some (.int (nI (c + 1))), some (.int m1), some (.int (nI k - 1))]) 73 dX5_fits_73 rfl (nI_add _ 1) (by decide) rfl ?_
          refine J_iload 76 dX5_fits_76 rfl ?_
          refine J_topi (y := nI (k - 1)) 78 (pk_sub (a := k) (b := 1) (by omega)) ?_
          refine J_istore (lv' := [some (.ref o), some (.int (nI s)), some (.int (nI h)), some (.int 1), some (.int (nI (c + 1))), some (.int (nI (k - 1))), some (.int (nI k - 1))]) 78 dX5_fits_78 (by decide) rfl ?_
          refine J_iinc (v := nI (k - 1) - 1) (lv' := [some (.ref o), some (.int (nI s)), some (.int (nI h)), some (.int 1), some (.int (nI (c + 1))), some (.int (nI (k - 1))), some (.int (nI (k - 1) - 1))]) 80 dX5_fits_80 rfl (dn_i hk hk1_) (by decide) rfl ?_
          refine J_goto (tgt := 52) 83 dX5_fits_83 (by decide) ?_
          exact ih_52_ (k - 1) (c + 1) (nI (k - 1)) la ns x_67_2_sd to he sw nh ki x_67_2_te mi x_67_2_ar z (by omega) (by first | assumption | omega | rfl) (by first | (rw [show 100 - (k - 1) = (100 - k) + 1 by omega]; exact fFit_t hf (by omega) (by assumption)) | (rw [show 100 - (k - 1) = (100 - k) + 1 by omega]; exact fFit_f (t := k - 1) hf (by omega) (by assumption)) | rfl) (by first | assumption | omega | rfl)
  refine J_iload_n 0 1 dX5_fits_0 rfl rfl ?_
  refine kb_RX5_219 (bs' := [wMe o (An 0) (Ak 0) (At 0) (Ad 0) kk tp rw rc sh sf de, wCt G An la ns sd to he sw nh ki te mi ar z, wCt G At t_la t_ns t_sd t_to t_he t_sw t_nh t_ki t_te t_mi t_ar t_z, wQ G sh 4 3 shf, wSh Sa so (nI m) im, wJ G im 40 it]) (rest := []) (st' := [.int 1]) 1 (c_X5_isPlace_t l G s (by first | omega | assumption)) [] rfl rfl [] rfl rfl rfl rfl rfl rfl (Nat.le_of_ble_eq_true rfl) rfl dX5_fits_1 ?_
  refine J_if_eq (tgt := 24) 4 dX5_fits_4 (by decide) (fun c_4_ => absurd c_4_ (by decide)) (fun _ => ?_)
  refine J_aload_n 7 0 dX5_fits_7 rfl rfl ?_
  refine J_iload_n 8 2 dX5_fits_8 rfl rfl ?_
  refine kb_RX5_135 (bs' := [wMe o (An 0) (Ak 0) (At 0) (Ad 0) kk tp rw rc sh sf de, wCt G An la ns sd to he sw nh ki te mi ar z, wCt G At t_la t_ns t_sd t_to t_he t_sw t_nh t_ki t_te t_mi t_ar t_z, wQ G sh 4 3 shf, wSh Sa so (nI m) im, wJ G im 40 it]) (rest := []) (st' := [.int 1]) 9 (c_X5_isHearer_t l G h o An Ak At Ad kk tp rw rc sh sf de la ns sd to he sw nh ki te mi ar z (by assumption) (by omega)) [0, 1] 0 rfl rfl rfl [[o], [An 0, An 1, An 2, An 3, An 4, An 5, An 6, An 7, An 8]] rfl rfl rfl rfl rfl rfl (Nat.le_of_ble_eq_true rfl) rfl dX5_fits_9 ?_
  refine J_if_eq (tgt := 24) 12 dX5_fits_12 (by decide) (fun c_5_ => absurd c_5_ (by decide)) (fun _ => ?_)
  refine J_iload_n 15 3 dX5_fits_15 rfl rfl ?_
  refine J_iconst (v := 0) 16 dX5_fits_16 rfl ?_
  refine J_iconst (v := 1) 17 dX5_fits_17 rfl ?_
  refine kb_RX5_65 (bs' := [wMe o (An 0) (Ak 0) (At 0) (Ad 0) kk tp rw rc sh sf de, wCt G An la ns sd to he sw nh ki te mi ar z, wCt G At t_la t_ns t_sd t_to t_he t_sw t_nh t_ki t_te t_mi t_ar t_z, wQ G sh 4 3 shf, wSh Sa so (nI m) im, wJ G im 40 it]) (rest := []) (st' := [.int 1]) 18 (c_X5_within_t l G 1 0 1 (by decide)) [] rfl rfl [] rfl rfl rfl rfl rfl rfl (Nat.le_of_ble_eq_true rfl) rfl dX5_fits_18 ?_
  refine J_if_ne (tgt := 26) 21 dX5_fits_21 (by decide) (fun _ => ?_) (fun c_6_ => absurd c_6_ (by decide))
  refine J_aload_n 26 0 dX5_fits_26 rfl rfl ?_
  refine g_204 (v := .ref sh) 27 0 rfl rfl dX5_fits_27 ?_
  refine J_iload_n 30 1 dX5_fits_30 rfl rfl ?_
  refine J_aldq (b := Sa) 31 19 3 s rfl rfl rfl (by omega) (by decide) hx dX5_fits_31 ?_
  refine kb_RX5_222 (bs' := [wMe o (An 0) (Ak 0) (At 0) (Ad 0) kk tp rw rc sh sf de, wCt G An la ns sd to he sw nh ki te mi ar z, wCt G At t_la t_ns t_sd t_to t_he t_sw t_nh t_ki t_te t_mi t_ar t_z, wQ G sh 4 3 shf, wSh Sa so (nI m) im, wJ G im 40 it]) (rest := []) (st' := [.int (bI (so = -1))]) 32 (c_X2_isMissing l G Sa so (nI m) im ) [4] 20 rfl rfl rfl [[Sa]] rfl rfl rfl rfl rfl rfl (Nat.le_of_ble_eq_true rfl) rfl dX5_fits_32 ?_
  refine J_ifB_eq (tgt := 41) 35 dX5_fits_35 (by decide) (fun c_7_ => ?_) (fun c_7_ => ?_)
  · skip
    refine J_iconst (v := 0) 41 dX5_fits_41 rfl ?_
    refine J_istore (lv' := [some (.ref o), some (.int (nI s)), some (.int (nI h)), some (.int 1), some (.int 0), none, none]) 42 dX5_fits_42 (by decide) rfl ?_
    refine J_bipush (v := (-3)) 44 dX5_fits_44 rfl ?_
    refine J_istore (lv' := [some (.ref o), some (.int (nI s)), some (.int (nI h)), some (.int 1), some (.int 0), some (.int (-3)), none]) 46 dX5_fits_46 (by decide) rfl ?_
    refine J_bipush (v := 99) 48 dX5_fits_48 rfl ?_
    refine J_topi (y := nI 100 - 1) 50 rfl ?_
    refine J_istore (lv' := [some (.ref o), some (.int (nI s)), some (.int (nI h)), some (.int 1), some (.int 0), some (.int (-3)), some (.int (nI 100 - 1))]) 50 dX5_fits_50 (by decide) rfl ?_
    exact cut_52_ (100 + 1) 100 0 (-3) t_la t_ns t_sd t_to t_he t_sw t_nh t_ki t_te t_mi t_ar t_z (Nat.lt_succ_self _) (by first | assumption | omega | rfl) (by first | (rw [show 100 - (k - 1) = (100 - k) + 1 by omega]; exact fFit_t hf (by omega) (by assumption)) | (rw [show 100 - (k - 1) = (100 - k) + 1 by omega]; exact fFit_f (t := k - 1) hf (by omega) (by assumption)) | rfl) (by first | assumption | omega | rfl)
  · skip
    exact absurd c_7_ hso
set_option maxRecDepth 100000 in
set_option maxHeartbeats 4000000 in
theorem c_X5_odds_bad (l : Launch) (G : Gd) (n : Int32) (k : Int32) (p : Int32) (o : Nat) (An : Nat → Nat) (Ak : Nat → Nat) (At : Nat → Nat) (Ad : Nat → Nat) (kk : Int32) (tp : Nat) (rw : Nat) (rc : Nat) (sh : Nat) (sf : Nat) (de : Nat) (hw : ¬ ((0 ≤ n ∧ n ≤ 8) ∧ (0 ≤ k ∧ k ≤ n) ∧ (0 ≤ p ∧ p ≤ 1))) : Ct l G yX5_odds cX5_odds 7 (some (FieldType.long)) 2 [.ref o, .int n, .int k, .int p] (wF [wMe o (An 0) (Ak 0) (At 0) (Ad 0) kk tp rw rc sh sf de]) (some (.long (-1))) (wF [wMe o (An 0) (Ak 0) (At 0) (Ad 0) kk tp rw rc sh sf de]) := by
  refine Ct.of "GooseArms" [some (.ref o), some (.int n), some (.int k), some (.int p), none, none, none] (by decide +kernel) rfl (Nat.le_of_ble_eq_true rfl) rfl ?_
  refine J_iload_n 0 1 dX5_odds_0 rfl rfl ?_
  refine J_iconst (v := 0) 1 dX5_odds_1 rfl ?_
  refine J_bipush (v := 8) 2 dX5_odds_2 rfl ?_
  refine kb_RX5_65 (bs' := [wMe o (An 0) (Ak 0) (At 0) (Ad 0) kk tp rw rc sh sf de]) (rest := []) (st' := [.int (bI (0 ≤ n ∧ n ≤ 8))]) 4 (c_X5_within l G n 0 8 ) [] rfl rfl [] rfl rfl rfl rfl rfl rfl (Nat.le_of_ble_eq_true rfl) rfl dX5_odds_4 ?_
  refine J_ifB_eq (tgt := 28) 7 dX5_odds_7 (by decide) (fun c_1_ => ?_) (fun c_1_ => ?_)
  · skip
    refine J_ldc2 (v := (-1)) 28 w_631 dX5_odds_28 ?_
    exact J_lret 31 dX5_odds_31 rfl rfl
  · skip
    refine J_iload_n 10 2 dX5_odds_10 rfl rfl ?_
    refine J_iconst (v := 0) 11 dX5_odds_11 rfl ?_
    refine J_iload_n 12 1 dX5_odds_12 rfl rfl ?_
    refine kb_RX5_65 (bs' := [wMe o (An 0) (Ak 0) (At 0) (Ad 0) kk tp rw rc sh sf de]) (rest := []) (st' := [.int (bI (0 ≤ k ∧ k ≤ n))]) 13 (c_X5_within l G k 0 n ) [] rfl rfl [] rfl rfl rfl rfl rfl rfl (Nat.le_of_ble_eq_true rfl) rfl dX5_odds_13 ?_
    refine J_ifB_eq (tgt := 28) 16 dX5_odds_16 (by decide) (fun c_2_ => ?_) (fun c_2_ => ?_)
    · skip
      refine J_ldc2 (v := (-1)) 28 w_631 dX5_odds_28 ?_
      exact J_lret 31 dX5_odds_31 rfl rfl
    · skip
      refine J_iload_n 19 3 dX5_odds_19 rfl rfl ?_
      refine J_iconst (v := 0) 20 dX5_odds_20 rfl ?_
      refine J_iconst (v := 1) 21 dX5_odds_21 rfl ?_
      refine kb_RX5_65 (bs' := [wMe o (An 0) (Ak 0) (At 0) (Ad 0) kk tp rw rc sh sf de]) (rest := []) (st' := [.int (bI (0 ≤ p ∧ p ≤ 1))]) 22 (c_X5_within l G p 0 1 ) [] rfl rfl [] rfl rfl rfl rfl rfl rfl (Nat.le_of_ble_eq_true rfl) rfl dX5_odds_22 ?_
      refine J_ifB_ne (tgt := 32) 25 dX5_odds_25 (by decide) (fun c_3_ => ?_) (fun c_3_ => ?_)
      · skip
        exact absurd ⟨by assumption, by assumption, by assumption⟩ hw
      · skip
        refine J_ldc2 (v := (-1)) 28 w_631 dX5_odds_28 ?_
        exact J_lret 31 dX5_odds_31 rfl rfl
set_option maxRecDepth 100000 in
set_option maxHeartbeats 4000000 in
theorem c_X5_odds_ok (l : Launch) (G : Gd) (n : Nat) (k : Nat) (p : Int32) (o : Nat) (An : Nat → Nat) (Ak : Nat → Nat) (At : Nat → Nat) (Ad : Nat → Nat) (kk : Int32) (tp : Nat) (rw : Nat) (rc : Nat) (sh : Nat) (sf : Nat) (de : Nat) (la : Nat → Int32) (ns : Nat) (sd : Nat) (to : Nat → Int32) (he : Nat → Int32) (sw : Nat → Int32) (nh : Nat) (ki : Nat → Int32) (te : Nat → Int32) (mi : Nat → Int32) (ar : Nat → Int32) (z : Int32) (hn : n ≤ 8) (hk : k ≤ n) (hp : 0 ≤ p ∧ p ≤ 1) : Ct l G yX5_odds cX5_odds 7 (some (FieldType.long)) 2 [.ref o, .int (nI n), .int (nI k), .int p] (wF [wMe o (An 0) (Ak 0) (At 0) (Ad 0) kk tp rw rc sh sf de, wCt G An la ns sd to he sw nh ki te mi ar z]) (some (.long (fPart (fWays n k k * fPow (la 3).toInt64 k * fPow (100 - la 3).toInt64 (n - k)) (fPow 100 n) p))) (wF [wMe o (An 0) (Ak 0) (At 0) (Ad 0) kk tp rw rc sh sf de, wCt G An la ns sd to he sw nh ki te mi ar z]) := by
  refine Ct.of "GooseArms" [some (.ref o), some (.int (nI n)), some (.int (nI k)), some (.int p), none, none, none] (by decide +kernel) rfl (Nat.le_of_ble_eq_true rfl) rfl ?_
  refine J_iload_n 0 1 dX5_odds_0 rfl rfl ?_
  refine J_iconst (v := 0) 1 dX5_odds_1 rfl ?_
  refine J_bipush (v := 8) 2 dX5_odds_2 rfl ?_
  refine kb_RX5_65 (bs' := [wMe o (An 0) (Ak 0) (At 0) (Ad 0) kk tp rw rc sh sf de, wCt G An la ns sd to he sw nh ki te mi ar z]) (rest := []) (st' := [.int 1]) 4 (c_X5_within_t l G (nI n) 0 8 (inL_t (j := n) (m := 8) hn (by decide))) [] rfl rfl [] rfl rfl rfl rfl rfl rfl (Nat.le_of_ble_eq_true rfl) rfl dX5_odds_4 ?_
  refine J_if_eq (tgt := 28) 7 dX5_odds_7 (by decide) (fun c_1_ => absurd c_1_ (by decide)) (fun _ => ?_)
  refine J_iload_n 10 2 dX5_odds_10 rfl rfl ?_
  refine J_iconst (v := 0) 11 dX5_odds_11 rfl ?_
  refine J_iload_n 12 1 dX5_odds_12 rfl rfl ?_
  refine kb_RX5_65 (bs' := [wMe o (An 0) (Ak 0) (At 0) (Ad 0) kk tp rw rc sh sf de, wCt G An la ns sd to he sw nh ki te mi ar z]) (rest := []) (st' := [.int 1]) 13 (c_X5_within_t l G (nI k) 0 (nI n) (inL_t hk (by omega))) [] rfl rfl [] rfl rfl rfl rfl rfl rfl (Nat.le_of_ble_eq_true rfl) rfl dX5_odds_13 ?_
  refine J_if_eq (tgt := 28) 16 dX5_odds_16 (by decide) (fun c_2_ => absurd c_2_ (by decide)) (fun _ => ?_)
  refine J_iload_n 19 3 dX5_odds_19 rfl rfl ?_
  refine J_iconst (v := 0) 20 dX5_odds_20 rfl ?_
  refine J_iconst (v := 1) 21 dX5_odds_21 rfl ?_
  refine kb_RX5_65 (bs' := [wMe o (An 0) (Ak 0) (At 0) (Ad 0) kk tp rw rc sh sf de, wCt G An la ns sd to he sw nh ki te mi ar z]) (rest := []) (st' := [.int 1]) 22 (c_X5_within_t l G p 0 1 hp) [] rfl rfl [] rfl rfl rfl rfl rfl rfl (Nat.le_of_ble_eq_true rfl) rfl dX5_odds_22 ?_
  refine J_if_ne (tgt := 32) 25 dX5_odds_25 (by decide) (fun _ => ?_) (fun c_3_ => absurd c_3_ (by decide))
  refine J_aload_n 32 0 dX5_odds_32 rfl rfl ?_
  refine g_196 (v := .ref (An 0)) 33 0 rfl rfl dX5_odds_33 ?_
  refine g_39 (v := .ref (An 1)) 36 1 rfl rfl dX5_odds_36 ?_
  refine J_iconst (v := 3) 39 dX5_odds_39 rfl ?_
  refine J_iald 40 2 3 rfl rfl (by omega) (by decide) dX5_odds_40 ?_
  refine J_istore (lv' := [some (.ref o), some (.int (nI n)), some (.int (nI k)), some (.int p), some (.int (la 3)), none, none]) 41 dX5_odds_41 (by decide) rfl ?_
  refine J_iload_n 43 1 dX5_odds_43 rfl rfl ?_
  refine J_iload_n 44 2 dX5_odds_44 rfl rfl ?_
  refine kb_RX5_232 (bs' := [wMe o (An 0) (Ak 0) (At 0) (Ad 0) kk tp rw rc sh sf de, wCt G An la ns sd to he sw nh ki te mi ar z]) (rest := []) (st' := [.long (fWays n k k)]) 45 (c_X5_waysToChoose l G n k (by first | omega | assumption) (by first | omega | assumption)) [] rfl rfl [] rfl rfl rfl rfl rfl rfl (Nat.le_of_ble_eq_true rfl) rfl dX5_odds_45 ?_
  refine J_iload 48 dX5_odds_48 rfl ?_
  refine J_i2l 50 dX5_odds_50 ?_
  refine J_iload_n 51 2 dX5_odds_51 rfl rfl ?_
  refine kb_RX5_236 (bs' := [wMe o (An 0) (Ak 0) (At 0) (Ad 0) kk tp rw rc sh sf de, wCt G An la ns sd to he sw nh ki te mi ar z]) (rest := [.long (fWays n k k)]) (st' := [.long (fPow ((la 3).toInt64) k), .long (fWays n k k)]) 52 (c_X5_power l G ((la 3).toInt64) k (by first | omega | assumption)) [] rfl rfl [] rfl rfl rfl rfl rfl rfl (Nat.le_of_ble_eq_true rfl) rfl dX5_odds_52 ?_
  refine J_lmul 55 dX5_odds_55 ?_
  refine J_bipush (v := 100) 56 dX5_odds_56 rfl ?_
  refine J_iload 58 dX5_odds_58 rfl ?_
  refine J_isub 60 dX5_odds_60 ?_
  refine J_i2l 61 dX5_odds_61 ?_
  refine J_iload_n 62 1 dX5_odds_62 rfl rfl ?_
  refine J_iload_n 63 2 dX5_odds_63 rfl rfl ?_
  refine J_isub 64 dX5_odds_64 ?_
  refine J_topi (y := nI (n - k)) 65 (pk_sub (by omega)) ?_
  refine kb_RX5_236 (bs' := [wMe o (An 0) (Ak 0) (At 0) (Ad 0) kk tp rw rc sh sf de, wCt G An la ns sd to he sw nh ki te mi ar z]) (rest := [.long ((fWays n k k) * (fPow ((la 3).toInt64) k))]) (st' := [.long (fPow ((100 - (la 3)).toInt64) (n - k)), .long ((fWays n k k) * (fPow ((la 3).toInt64) k))]) 65 (c_X5_power l G ((100 - (la 3)).toInt64) (n - k) (by first | omega | assumption)) [] rfl rfl [] rfl rfl rfl rfl rfl rfl (Nat.le_of_ble_eq_true rfl) rfl dX5_odds_65 ?_
  refine J_lmul 68 dX5_odds_68 ?_
  refine J_lstore (lv' := [some (.ref o), some (.int (nI n)), some (.int (nI k)), some (.int p), some (.int (la 3)), some (.long (((fWays n k k) * (fPow ((la 3).toInt64) k)) * (fPow ((100 - (la 3)).toInt64) (n - k)))), none]) 69 dX5_odds_69 (by decide) rfl ?_
  refine J_lload 71 dX5_odds_71 rfl ?_
  refine J_ldc2 (v := 100) 73 w_642 dX5_odds_73 ?_
  refine J_iload_n 76 1 dX5_odds_76 rfl rfl ?_
  refine kb_RX5_236 (bs' := [wMe o (An 0) (Ak 0) (At 0) (Ad 0) kk tp rw rc sh sf de, wCt G An la ns sd to he sw nh ki te mi ar z]) (rest := [.long (((fWays n k k) * (fPow ((la 3).toInt64) k)) * (fPow ((100 - (la 3)).toInt64) (n - k)))]) (st' := [.long (fPow 100 n), .long (((fWays n k k) * (fPow ((la 3).toInt64) k)) * (fPow ((100 - (la 3)).toInt64) (n - k)))]) 77 (c_X5_power l G 100 n (by first | omega | assumption)) [] rfl rfl [] rfl rfl rfl rfl rfl rfl (Nat.le_of_ble_eq_true rfl) rfl dX5_odds_77 ?_
  refine J_iload_n 80 3 dX5_odds_80 rfl rfl ?_
  refine kb_RX5_242 (bs' := [wMe o (An 0) (Ak 0) (At 0) (Ad 0) kk tp rw rc sh sf de, wCt G An la ns sd to he sw nh ki te mi ar z]) (rest := []) (st' := [.long (fPart (((fWays n k k) * (fPow ((la 3).toInt64) k)) * (fPow ((100 - (la 3)).toInt64) (n - k))) (fPow 100 n) p)]) 81 (c_X5_partOfFraction l G (((fWays n k k) * (fPow ((la 3).toInt64) k)) * (fPow ((100 - (la 3)).toInt64) (n - k))) (fPow 100 n) p ) [] rfl rfl [] rfl rfl rfl rfl rfl rfl (Nat.le_of_ble_eq_true rfl) rfl dX5_odds_81 ?_
  exact J_lret 84 dX5_odds_84 (congrArg (fun x_ => some (Value.long x_)) (by first | rfl | omega | grind)) rfl
set_option maxRecDepth 100000 in
set_option maxHeartbeats 4000000 in
theorem c_X5_hope_bad (l : Launch) (G : Gd) (n : Int32) (p : Int32) (o : Nat) (An : Nat → Nat) (Ak : Nat → Nat) (At : Nat → Nat) (Ad : Nat → Nat) (kk : Int32) (tp : Nat) (rw : Nat) (rc : Nat) (sh : Nat) (sf : Nat) (de : Nat) (hw : ¬ ((0 ≤ n ∧ n ≤ 99) ∧ (0 ≤ p ∧ p ≤ 1))) : Ct l G yX5_hope cX5_hope 3 (some (FieldType.long)) 2 [.ref o, .int n, .int p] (wF [wMe o (An 0) (Ak 0) (At 0) (Ad 0) kk tp rw rc sh sf de]) (some (.long (-1))) (wF [wMe o (An 0) (Ak 0) (At 0) (Ad 0) kk tp rw rc sh sf de]) := by
  refine Ct.of "GooseArms" [some (.ref o), some (.int n), some (.int p)] (by decide +kernel) rfl (Nat.le_of_ble_eq_true rfl) rfl ?_
  refine J_iload_n 0 1 dX5_hope_0 rfl rfl ?_
  refine J_iconst (v := 0) 1 dX5_hope_1 rfl ?_
  refine J_bipush (v := 99) 2 dX5_hope_2 rfl ?_
  refine kb_RX5_65 (bs' := [wMe o (An 0) (Ak 0) (At 0) (Ad 0) kk tp rw rc sh sf de]) (rest := []) (st' := [.int (bI (0 ≤ n ∧ n ≤ 99))]) 4 (c_X5_within l G n 0 99 ) [] rfl rfl [] rfl rfl rfl rfl rfl rfl (Nat.le_of_ble_eq_true rfl) rfl dX5_hope_4 ?_
  refine J_ifB_eq (tgt := 19) 7 dX5_hope_7 (by decide) (fun c_1_ => ?_) (fun c_1_ => ?_)
  · skip
    refine J_ldc2 (v := (-1)) 19 w_631 dX5_hope_19 ?_
    exact J_lret 22 dX5_hope_22 rfl rfl
  · skip
    refine J_iload_n 10 2 dX5_hope_10 rfl rfl ?_
    refine J_iconst (v := 0) 11 dX5_hope_11 rfl ?_
    refine J_iconst (v := 1) 12 dX5_hope_12 rfl ?_
    refine kb_RX5_65 (bs' := [wMe o (An 0) (Ak 0) (At 0) (Ad 0) kk tp rw rc sh sf de]) (rest := []) (st' := [.int (bI (0 ≤ p ∧ p ≤ 1))]) 13 (c_X5_within l G p 0 1 ) [] rfl rfl [] rfl rfl rfl rfl rfl rfl (Nat.le_of_ble_eq_true rfl) rfl dX5_hope_13 ?_
    refine J_ifB_ne (tgt := 23) 16 dX5_hope_16 (by decide) (fun c_2_ => ?_) (fun c_2_ => ?_)
    · skip
      exact absurd ⟨by assumption, by assumption⟩ hw
    · skip
      refine J_ldc2 (v := (-1)) 19 w_631 dX5_hope_19 ?_
      exact J_lret 22 dX5_hope_22 rfl rfl
set_option maxRecDepth 100000 in
set_option maxHeartbeats 4000000 in
theorem c_X5_hope_ok (l : Launch) (G : Gd) (n : Int32) (p : Int32) (o : Nat) (An : Nat → Nat) (Ak : Nat → Nat) (At : Nat → Nat) (Ad : Nat → Nat) (kk : Int32) (tp : Nat) (rw : Nat) (rc : Nat) (sh : Nat) (sf : Nat) (de : Nat) (la : Nat → Int32) (ns : Nat) (sd : Nat) (to : Nat → Int32) (he : Nat → Int32) (sw : Nat → Int32) (nh : Nat) (ki : Nat → Int32) (te : Nat → Int32) (mi : Nat → Int32) (ar : Nat → Int32) (z : Int32) (hw : (0 ≤ n ∧ n ≤ 99) ∧ (0 ≤ p ∧ p ≤ 1)) : Ct l G yX5_hope cX5_hope 3 (some (FieldType.long)) 2 [.ref o, .int n, .int p] (wF [wMe o (An 0) (Ak 0) (At 0) (Ad 0) kk tp rw rc sh sf de, wCt G An la ns sd to he sw nh ki te mi ar z]) (some (.long (fPart (n.toInt64 * (la 3).toInt64) 100 p))) (wF [wMe o (An 0) (Ak 0) (At 0) (Ad 0) kk tp rw rc sh sf de, wCt G An la ns sd to he sw nh ki te mi ar z]) := by
  refine Ct.of "GooseArms" [some (.ref o), some (.int n), some (.int p)] (by decide +kernel) rfl (Nat.le_of_ble_eq_true rfl) rfl ?_
  refine J_iload_n 0 1 dX5_hope_0 rfl rfl ?_
  refine J_iconst (v := 0) 1 dX5_hope_1 rfl ?_
  refine J_bipush (v := 99) 2 dX5_hope_2 rfl ?_
  refine kb_RX5_65 (bs' := [wMe o (An 0) (Ak 0) (At 0) (Ad 0) kk tp rw rc sh sf de, wCt G An la ns sd to he sw nh ki te mi ar z]) (rest := []) (st' := [.int 1]) 4 (c_X5_within_t l G n 0 99 hw.1) [] rfl rfl [] rfl rfl rfl rfl rfl rfl (Nat.le_of_ble_eq_true rfl) rfl dX5_hope_4 ?_
  refine J_if_eq (tgt := 19) 7 dX5_hope_7 (by decide) (fun c_1_ => absurd c_1_ (by decide)) (fun _ => ?_)
  refine J_iload_n 10 2 dX5_hope_10 rfl rfl ?_
  refine J_iconst (v := 0) 11 dX5_hope_11 rfl ?_
  refine J_iconst (v := 1) 12 dX5_hope_12 rfl ?_
  refine kb_RX5_65 (bs' := [wMe o (An 0) (Ak 0) (At 0) (Ad 0) kk tp rw rc sh sf de, wCt G An la ns sd to he sw nh ki te mi ar z]) (rest := []) (st' := [.int 1]) 13 (c_X5_within_t l G p 0 1 hw.2) [] rfl rfl [] rfl rfl rfl rfl rfl rfl (Nat.le_of_ble_eq_true rfl) rfl dX5_hope_13 ?_
  refine J_if_ne (tgt := 23) 16 dX5_hope_16 (by decide) (fun _ => ?_) (fun c_2_ => absurd c_2_ (by decide))
  refine J_iload_n 23 1 dX5_hope_23 rfl rfl ?_
  refine J_i2l 24 dX5_hope_24 ?_
  refine J_aload_n 25 0 dX5_hope_25 rfl rfl ?_
  refine g_196 (v := .ref (An 0)) 26 0 rfl rfl dX5_hope_26 ?_
  refine g_39 (v := .ref (An 1)) 29 1 rfl rfl dX5_hope_29 ?_
  refine J_iconst (v := 3) 32 dX5_hope_32 rfl ?_
  refine J_iald 33 2 3 rfl rfl (by omega) (by decide) dX5_hope_33 ?_
  refine J_i2l 34 dX5_hope_34 ?_
  refine J_lmul 35 dX5_hope_35 ?_
  refine J_ldc2 (v := 100) 36 w_642 dX5_hope_36 ?_
  refine J_iload_n 39 2 dX5_hope_39 rfl rfl ?_
  refine kb_RX5_242 (bs' := [wMe o (An 0) (Ak 0) (At 0) (Ad 0) kk tp rw rc sh sf de, wCt G An la ns sd to he sw nh ki te mi ar z]) (rest := []) (st' := [.long (fPart (n.toInt64 * ((la 3).toInt64)) 100 p)]) 40 (c_X5_partOfFraction l G (n.toInt64 * ((la 3).toInt64)) 100 p ) [] rfl rfl [] rfl rfl rfl rfl rfl rfl (Nat.le_of_ble_eq_true rfl) rfl dX5_hope_40 ?_
  exact J_lret 43 dX5_hope_43 (congrArg (fun x_ => some (Value.long x_)) (by first | rfl | omega | grind)) rfl
set_option maxRecDepth 100000 in
set_option maxHeartbeats 4000000 in
theorem c_X5_prove_bad (l : Launch) (G : Gd) (h : Int32) (n : Int32) (o : Nat) (An : Nat → Nat) (Ak : Nat → Nat) (At : Nat → Nat) (Ad : Nat → Nat) (kk : Int32) (tp : Nat) (rw : Nat) (rc : Nat) (sh : Nat) (sf : Nat) (de : Nat) (la : Nat → Int32) (ns : Nat) (sd : Nat) (to : Nat → Int32) (he : Nat → Int32) (sw : Nat → Int32) (nh : Nat) (ki : Nat → Int32) (te : Nat → Int32) (mi : Nat → Int32) (ar : Nat → Int32) (z : Int32) (hw : ¬ (0 ≤ h ∧ h ≤ nI nh - 1)) : Ct l G yX5_prove cX5_prove 6 (some (FieldType.int)) 4 [.ref o, .int h, .int n] (wF [wMe o (An 0) (Ak 0) (At 0) (Ad 0) kk tp rw rc sh sf de, wCt G An la ns sd to he sw nh ki te mi ar z]) (some (.int (-1))) (wF [wMe o (An 0) (Ak 0) (At 0) (Ad 0) kk tp rw rc sh sf de, wCt G An la ns sd to he sw nh ki te mi ar z]) := by
  refine Ct.of "GooseArms" [some (.ref o), some (.int h), some (.int n), none, none, none] (by decide +kernel) rfl (Nat.le_of_ble_eq_true rfl) rfl ?_
  refine J_aload_n 0 0 dX5_prove_0 rfl rfl ?_
  refine J_iload_n 1 1 dX5_prove_1 rfl rfl ?_
  refine kb_RX5_135 (bs' := [wMe o (An 0) (Ak 0) (At 0) (Ad 0) kk tp rw rc sh sf de, wCt G An la ns sd to he sw nh ki te mi ar z]) (rest := []) (st' := [.int 0]) 2 (c_X5_isHearer_f l G h o An Ak At Ad kk tp rw rc sh sf de la ns sd to he sw nh ki te mi ar z (by first | omega | assumption)) [0, 1] 0 rfl rfl rfl [[o], [An 0, An 1, An 2, An 3, An 4, An 5, An 6, An 7, An 8]] rfl rfl rfl rfl rfl rfl (Nat.le_of_ble_eq_true rfl) rfl dX5_prove_2 ?_
  refine J_if_eq (tgt := 18) 5 dX5_prove_5 (by decide) (fun _ => ?_) (fun c_1_ => absurd c_1_ (by decide))
  refine J_iconst (v := (-1)) 18 dX5_prove_18 rfl ?_
  exact J_iret 19 dX5_prove_19 rfl rfl
set_option maxRecDepth 100000 in
set_option maxHeartbeats 4000000 in
theorem c_X5_prove_badv (l : Launch) (G : Gd) (h : Nat) (n : Int32) (o : Nat) (An : Nat → Nat) (Ak : Nat → Nat) (At : Nat → Nat) (Ad : Nat → Nat) (kk : Int32) (tp : Nat) (rw : Nat) (rc : Nat) (sh : Nat) (sf : Nat) (de : Nat) (la : Nat → Int32) (ns : Nat) (sd : Nat) (to : Nat → Int32) (he : Nat → Int32) (sw : Nat → Int32) (nh : Nat) (ki : Nat → Int32) (te : Nat → Int32) (mi : Nat → Int32) (ar : Nat → Int32) (z : Int32) (hh : h < nh) (hnh : nh ≤ 8) (hw : ¬ (1 ≤ n ∧ n ≤ 10)) : Ct l G yX5_prove cX5_prove 6 (some (FieldType.int)) 4 [.ref o, .int (nI h), .int n] (wF [wMe o (An 0) (Ak 0) (At 0) (Ad 0) kk tp rw rc sh sf de, wCt G An la ns sd to he sw nh ki te mi ar z]) (some (.int (-1))) (wF [wMe o (An 0) (Ak 0) (At 0) (Ad 0) kk tp rw rc sh sf de, wCt G An la ns sd to he sw nh ki te mi ar z]) := by
  refine Ct.of "GooseArms" [some (.ref o), some (.int (nI h)), some (.int n), none, none, none] (by decide +kernel) rfl (Nat.le_of_ble_eq_true rfl) rfl ?_
  refine J_aload_n 0 0 dX5_prove_0 rfl rfl ?_
  refine J_iload_n 1 1 dX5_prove_1 rfl rfl ?_
  refine kb_RX5_135 (bs' := [wMe o (An 0) (Ak 0) (At 0) (Ad 0) kk tp rw rc sh sf de, wCt G An la ns sd to he sw nh ki te mi ar z]) (rest := []) (st' := [.int 1]) 2 (c_X5_isHearer_t l G h o An Ak At Ad kk tp rw rc sh sf de la ns sd to he sw nh ki te mi ar z (by assumption) (by omega)) [0, 1] 0 rfl rfl rfl [[o], [An 0, An 1, An 2, An 3, An 4, An 5, An 6, An 7, An 8]] rfl rfl rfl rfl rfl rfl (Nat.le_of_ble_eq_true rfl) rfl dX5_prove_2 ?_
  refine J_if_eq (tgt := 18) 5 dX5_prove_5 (by decide) (fun c_1_ => absurd c_1_ (by decide)) (fun _ => ?_)
  refine J_iload_n 8 2 dX5_prove_8 rfl rfl ?_
  refine J_iconst (v := 1) 9 dX5_prove_9 rfl ?_
  refine J_bipush (v := 10) 10 dX5_prove_10 rfl ?_
  refine kb_RX5_65 (bs' := [wMe o (An 0) (Ak 0) (At 0) (Ad 0) kk tp rw rc sh sf de, wCt G An la ns sd to he sw nh ki te mi ar z]) (rest := []) (st' := [.int 0]) 12 (c_X5_within_f l G n 1 10 (by first | omega | assumption)) [] rfl rfl [] rfl rfl rfl rfl rfl rfl (Nat.le_of_ble_eq_true rfl) rfl dX5_prove_12 ?_
  refine J_if_ne (tgt := 20) 15 dX5_prove_15 (by decide) (fun c_2_ => absurd c_2_ (by decide)) (fun _ => ?_)
  refine J_iconst (v := (-1)) 18 dX5_prove_18 rfl ?_
  exact J_iret 19 dX5_prove_19 rfl rfl
set_option maxRecDepth 100000 in
set_option maxHeartbeats 4000000 in
theorem c_X5_prove_ok (l : Launch) (G : Gd) (h : Nat) (n : Nat) (o : Nat) (An : Nat → Nat) (Ak : Nat → Nat) (At : Nat → Nat) (Ad : Nat → Nat) (kk : Int32) (tp : Nat) (rw : Nat) (rc : Nat) (sh : Nat) (sf : Nat) (de : Nat) (la : Nat → Int32) (ns : Nat) (sd : Nat) (to : Nat → Int32) (he : Nat → Int32) (sw : Nat → Int32) (nh : Nat) (ki : Nat → Int32) (te : Nat → Int32) (mi : Nat → Int32) (ar : Nat → Int32) (z : Int32) (t_la : Nat → Int32) (t_ns : Nat) (t_sd : Nat) (t_to : Nat → Int32) (t_he : Nat → Int32) (t_sw : Nat → Int32) (t_nh : Nat) (t_ki : Nat → Int32) (t_te : Nat → Int32) (t_mi : Nat → Int32) (t_ar : Nat → Int32) (t_z : Int32) (rwf : Nat → Int32) (hh : h < nh) (hnh : nh ≤ 8) (hns : ns ≤ 12) (hsd : sd ≤ ns) (h1 : 1 ≤ n) (h10 : n ≤ 10) : CtP l G yX5_prove cX5_prove 6 (some (FieldType.int)) 4 [.ref o, .int (nI h), .int (nI n)] (wF [wMe o (An 0) (Ak 0) (At 0) (Ad 0) kk tp rw rc sh sf de, wCt G An la ns sd to he sw nh ki te mi ar z, wCt G At t_la t_ns t_sd t_to t_he t_sw t_nh t_ki t_te t_mi t_ar t_z, wI G rw 30 rwf]) (some (.int (nI (min n (ns - sd))))) (fun w_ => ∃ (j_2_la : Nat → Int32) (j_2_ns : Nat) (j_2_sd : Nat) (j_2_to : Nat → Int32) (j_2_he : Nat → Int32) (j_2_sw : Nat → Int32) (j_2_nh : Nat) (j_2_ki : Nat → Int32) (j_2_te : Nat → Int32) (j_2_mi : Nat → Int32) (j_2_ar : Nat → Int32) (j_2_z : Int32), w_ = (wF [wMe o (An 0) (Ak 0) (At 0) (Ad 0) kk tp rw (min n (ns - sd)) sh sf de, wCt G An la ns sd to he sw nh ki te mi ar z, wCt G At j_2_la j_2_ns j_2_sd j_2_to j_2_he j_2_sw j_2_nh j_2_ki j_2_te j_2_mi j_2_ar j_2_z, wI G rw 30 (fRow3 (fun k_ => fAr (fun h_ => h_ < nh ∧ hasP 255 (nI h_)) la ki mi te ar to he sw sd (k_ + 1) h) (fun k_ => fTe (fun h_ => h_ < nh ∧ hasP 255 (nI h_)) la ki mi te ar to he sw sd (k_ + 1) h) (fun k_ => fBC (fMask (fun h_ => hasP 255 (nI h_) ∧ fUp la ki mi (fTe (fun h_ => h_ < nh ∧ hasP 255 (nI h_)) la ki mi te ar to he sw sd (k_)) to he sw (sd + k_) h_) nh)) rwf (min n (ns - sd)))])) := by
  refine CtP.of "GooseArms" [some (.ref o), some (.int (nI h)), some (.int (nI n)), none, none, none] (by decide +kernel) rfl (Nat.le_of_ble_eq_true rfl) rfl ?_
  have cut_40_ : ∀ (n_40_ : Nat) (i : Nat) (te1 : Nat → Int32) (ar1 : Nat → Int32) (sd1 : Nat) (rw1 : Nat → Int32), (min n (ns - sd) - i < n_40_) → (hi : i ≤ min n (ns - sd)) → (hte : te1 = fTe (fun h_ => h_ < nh ∧ hasP 255 (nI h_)) la ki mi te ar to he sw sd (i)) → (har : ar1 = fAr (fun h_ => h_ < nh ∧ hasP 255 (nI h_)) la ki mi te ar to he sw sd (i)) → (hs1 : sd1 = sd + i) → (hrw : rw1 = fRow3 (fun k_ => fAr (fun h_ => h_ < nh ∧ hasP 255 (nI h_)) la ki mi te ar to he sw sd (k_ + 1) h) (fun k_ => fTe (fun h_ => h_ < nh ∧ hasP 255 (nI h_)) la ki mi te ar to he sw sd (k_ + 1) h) (fun k_ => fBC (fMask (fun h_ => hasP 255 (nI h_) ∧ fUp la ki mi (fTe (fun h_ => h_ < nh ∧ hasP 255 (nI h_)) la ki mi te ar to he sw sd (k_)) to he sw (sd + k_) h_) nh)) rwf i) → J l G (bdP G 4 (some (FieldType.int)) (some (.int (nI (min n (ns - sd))))) (fun w_ => ∃ (j_2_la : Nat → Int32) (j_2_ns : Nat) (j_2_sd : Nat) (j_2_to : Nat → Int32) (j_2_he : Nat → Int32) (j_2_sw : Nat → Int32) (j_2_nh : Nat) (j_2_ki : Nat → Int32) (j_2_te : Nat → Int32) (j_2_mi : Nat → Int32) (j_2_ar : Nat → Int32) (j_2_z : Int32), w_ = (wF [wMe o (An 0) (Ak 0) (At 0) (Ad 0) kk tp rw (min n (ns - sd)) sh sf de, wCt G An la ns sd to he sw nh ki te mi ar z, wCt G At j_2_la j_2_ns j_2_sd j_2_to j_2_he j_2_sw j_2_nh j_2_ki j_2_te j_2_mi j_2_ar j_2_z, wI G rw 30 (fRow3 (fun k_ => fAr (fun h_ => h_ < nh ∧ hasP 255 (nI h_)) la ki mi te ar to he sw sd (k_ + 1) h) (fun k_ => fTe (fun h_ => h_ < nh ∧ hasP 255 (nI h_)) la ki mi te ar to he sw sd (k_ + 1) h) (fun k_ => fBC (fMask (fun h_ => hasP 255 (nI h_) ∧ fUp la ki mi (fTe (fun h_ => h_ < nh ∧ hasP 255 (nI h_)) la ki mi te ar to he sw sd (k_)) to he sw (sd + k_) h_) nh)) rwf (min n (ns - sd)))]))) cX5_prove 6 "GooseArms" 40 [some (.ref o), some (.int (nI h)), some (.int (nI n)), some (.ref (At 0)), some (.int (nI i)), none] [] (wF [wMe o (An 0) (Ak 0) (At 0) (Ad 0) kk tp rw (min n (ns - sd)) sh sf de, wCt G An la ns sd to he sw nh ki te mi ar z, wCt G At la ns sd1 to he sw nh ki te1 mi ar1 z, wI G rw 30 rw1]) := by
    intro n_40_
    induction n_40_ with
    | zero => intro i te1 ar1 sd1 rw1 m_40_; exact absurd m_40_ (Nat.not_lt_zero _)
    | succ n_40_ ih_40_ =>
      intro i te1 ar1 sd1 rw1 m_40_ hi hte har hs1 hrw
      refine J_iload 40 dX5_prove_40 rfl ?_
      refine J_aload_n 42 0 dX5_prove_42 rfl rfl ?_
      refine g_203 (v := .int (nI (min n (ns - sd)))) 43 0 rfl rfl dX5_prove_43 ?_
      refine J_icmp_ge (tgt := 109) 46 dX5_prove_46 (by decide) (fun c_1_ => ?_) (fun c_1_ => ?_)
      · skip
        have c_1_ : (min n (ns - sd)) ≤ i := (nI_leI (a := (min n (ns - sd))) (b := i) (by omega) (by omega)).mp c_1_
        refine J_aload_n 109 0 dX5_prove_109 rfl rfl ?_
        refine g_203 (v := .int (nI (min n (ns - sd)))) 110 0 rfl rfl dX5_prove_110 ?_
        exact J_iretP 113 dX5_prove_113 rfl ⟨la, ns, sd1, to, he, sw, nh, ki, te1, mi, ar1, z, (cg1 (fun (x0_ : Nat → Int32) => (wF [wMe o (An 0) (Ak 0) (At 0) (Ad 0) kk tp rw (min n (ns - sd)) sh sf de, wCt G An la ns sd to he sw nh ki te mi ar z, wCt G At la ns sd1 to he sw nh ki te1 mi ar1 z, wI G rw 30 x0_])) rw1 (fRow3 (fun k_ => fAr (fun h_ => h_ < nh ∧ hasP 255 (nI h_)) la ki mi te ar to he sw sd (k_ + 1) h) (fun k_ => fTe (fun h_ => h_ < nh ∧ hasP 255 (nI h_)) la ki mi te ar to he sw sd (k_ + 1) h) (fun k_ => fBC (fMask (fun h_ => hasP 255 (nI h_) ∧ fUp la ki mi (fTe (fun h_ => h_ < nh ∧ hasP 255 (nI h_)) la ki mi te ar to he sw sd (k_)) to he sw (sd + k_) h_) nh)) rwf (min n (ns - sd))) (by rw [hrw, show i = min n (ns - sd) by omega]))⟩
      · skip
        have c_1_ : ¬ (min n (ns - sd)) ≤ i := fun z_ => c_1_ ((nI_leI (a := (min n (ns - sd))) (b := i) (by omega) (by omega)).mpr z_)
        refine J_aload_n 49 3 dX5_prove_49 rfl rfl ?_
        refine kb_RX5_251 (bs' := [wMe o (An 0) (Ak 0) (At 0) (Ad 0) kk tp rw (min n (ns - sd)) sh sf de, wCt G An la ns sd to he sw nh ki te mi ar z, wCt G At la ns (sd1 + 1) to he sw nh ki (fSel (fun h_ => h_ < nh ∧ hasP (fMask (fun h_ => hasP 255 (nI h_) ∧ fUp la ki mi te1 to he sw sd1 h_) nh) (nI h_)) (fun h_ => heldI (te1 h_ - fWears (ki h_) (la 2))) te1) mi (fSel (fun h_ => h_ < nh ∧ hasP (fMask (fun h_ => hasP 255 (nI h_) ∧ fUp la ki mi te1 to he sw sd1 h_) nh) (nI h_)) (fun h_ => ar1 h_ ||| onlyI (nI sd1)) ar1) z, wI G rw 30 rw1]) (rest := []) (st' := [.int (fMask (fun h_ => hasP 255 (nI h_) ∧ fUp la ki mi te1 to he sw sd1 h_) nh)]) 50 (c_X5_sayNextTried l G At la ns sd1 to he sw nh ki te1 mi ar1 z (by first | omega | assumption) (by first | omega | assumption) (by first | omega | assumption)) [2] rfl rfl [[At 0, At 1, At 2, At 3, At 4, At 5, At 6, At 7, At 8]] rfl rfl rfl rfl rfl rfl (Nat.le_of_ble_eq_true rfl) rfl dX5_prove_50 ?_
        refine kb_RX5_203 (bs' := [wMe o (An 0) (Ak 0) (At 0) (Ad 0) kk tp rw (min n (ns - sd)) sh sf de, wCt G An la ns sd to he sw nh ki te mi ar z, wCt G At la ns (sd1 + 1) to he sw nh ki (fSel (fun h_ => h_ < nh ∧ hasP (fMask (fun h_ => hasP 255 (nI h_) ∧ fUp la ki mi te1 to he sw sd1 h_) nh) (nI h_)) (fun h_ => heldI (te1 h_ - fWears (ki h_) (la 2))) te1) mi (fSel (fun h_ => h_ < nh ∧ hasP (fMask (fun h_ => hasP 255 (nI h_) ∧ fUp la ki mi te1 to he sw sd1 h_) nh) (nI h_)) (fun h_ => ar1 h_ ||| onlyI (nI sd1)) ar1) z, wI G rw 30 rw1]) (rest := []) (st' := [.int (fBC (fMask (fun h_ => hasP 255 (nI h_) ∧ fUp la ki mi te1 to he sw sd1 h_) nh))]) 53 (c_bitCount l G (fMask (fun h_ => hasP 255 (nI h_) ∧ fUp la ki mi te1 to he sw sd1 h_) nh) ) [] rfl rfl [] rfl rfl rfl rfl rfl rfl (Nat.le_of_ble_eq_true rfl) rfl dX5_prove_53 ?_
        refine J_istore (lv' := [some (.ref o), some (.int (nI h)), some (.int (nI n)), some (.ref (At 0)), some (.int (nI i)), some (.int (fBC (fMask (fun h_ => hasP 255 (nI h_) ∧ fUp la ki mi te1 to he sw sd1 h_) nh)))]) 56 dX5_prove_56 (by decide) rfl ?_
        refine J_aload_n 58 0 dX5_prove_58 rfl rfl ?_
        refine g_202 (v := .ref rw) 59 0 rfl rfl dX5_prove_59 ?_
        refine J_iload 62 dX5_prove_62 rfl ?_
        refine J_iconst (v := 3) 64 dX5_prove_64 rfl ?_
        refine J_imul 65 dX5_prove_65 ?_
        refine J_topi (y := nI (i * 3)) 66 (pk_mul i 3) ?_
        refine J_aload_n 66 3 dX5_prove_66 rfl rfl ?_
        refine g_62 (v := .ref (At 8)) 67 10 rfl rfl dX5_prove_67 ?_
        refine J_iload_n 70 1 dX5_prove_70 rfl rfl ?_
        refine J_iald 71 18 h rfl rfl (by omega) (by decide) dX5_prove_71 ?_
        refine J_iast (ws' := (wF [wMe o (An 0) (Ak 0) (At 0) (Ad 0) kk tp rw (min n (ns - sd)) sh sf de, wCt G An la ns sd to he sw nh ki te mi ar z, wCt G At la ns (sd1 + 1) to he sw nh ki (fSel (fun h_ => h_ < nh ∧ hasP (fMask (fun h_ => hasP 255 (nI h_) ∧ fUp la ki mi te1 to he sw sd1 h_) nh) (nI h_)) (fun h_ => heldI (te1 h_ - fWears (ki h_) (la 2))) te1) mi (fSel (fun h_ => h_ < nh ∧ hasP (fMask (fun h_ => hasP 255 (nI h_) ∧ fUp la ki mi te1 to he sw sd1 h_) nh) (nI h_)) (fun h_ => ar1 h_ ||| onlyI (nI sd1)) ar1) z, wI G rw 30 (upd rw1 (i * 3) ((fSel (fun h_ => h_ < nh ∧ hasP (fMask (fun h_ => hasP 255 (nI h_) ∧ fUp la ki mi te1 to he sw sd1 h_) nh) (nI h_)) (fun h_ => ar1 h_ ||| onlyI (nI sd1)) ar1) h))])) 72 19 (i * 3) rfl rfl (by omega) (by decide) rfl dX5_prove_72 ?_
        refine J_aload_n 73 0 dX5_prove_73 rfl rfl ?_
        refine g_202 (v := .ref rw) 74 0 rfl rfl dX5_prove_74 ?_
        refine J_iload 77 dX5_prove_77 rfl ?_
        refine J_iconst (v := 3) 79 dX5_prove_79 rfl ?_
        refine J_imul 80 dX5_prove_80 ?_
        refine J_topi (y := nI (i * 3)) 81 (pk_mul i 3) ?_
        refine J_iconst (v := 1) 81 dX5_prove_81 rfl ?_
        refine J_iadd 82 dX5_prove_82 ?_
        refine J_topi (y := nI ((i * 3) + 1)) 83 (nI_add (i * 3) 1) ?_
        refine J_aload_n 83 3 dX5_prove_83 rfl rfl ?_
        refine g_58 (v := .ref (At 6)) 84 10 rfl rfl dX5_prove_84 ?_
        refine J_iload_n 87 1 dX5_prove_87 rfl rfl ?_
        refine J_iald 88 16 h rfl rfl (by omega) (by decide) dX5_prove_88 ?_
        refine J_iast (ws' := (wF [wMe o (An 0) (Ak 0) (At 0) (Ad 0) kk tp rw (min n (ns - sd)) sh sf de, wCt G An la ns sd to he sw nh ki te mi ar z, wCt G At la ns (sd1 + 1) to he sw nh ki (fSel (fun h_ => h_ < nh ∧ hasP (fMask (fun h_ => hasP 255 (nI h_) ∧ fUp la ki mi te1 to he sw sd1 h_) nh) (nI h_)) (fun h_ => heldI (te1 h_ - fWears (ki h_) (la 2))) te1) mi (fSel (fun h_ => h_ < nh ∧ hasP (fMask (fun h_ => hasP 255 (nI h_) ∧ fUp la ki mi te1 to he sw sd1 h_) nh) (nI h_)) (fun h_ => ar1 h_ ||| onlyI (nI sd1)) ar1) z, wI G rw 30 (upd (upd rw1 (i * 3) ((fSel (fun h_ => h_ < nh ∧ hasP (fMask (fun h_ => hasP 255 (nI h_) ∧ fUp la ki mi te1 to he sw sd1 h_) nh) (nI h_)) (fun h_ => ar1 h_ ||| onlyI (nI sd1)) ar1) h)) ((i * 3) + 1) ((fSel (fun h_ => h_ < nh ∧ hasP (fMask (fun h_ => hasP 255 (nI h_) ∧ fUp la ki mi te1 to he sw sd1 h_) nh) (nI h_)) (fun h_ => heldI (te1 h_ - fWears (ki h_) (la 2))) te1) h))])) 89 19 ((i * 3) + 1) rfl rfl (by omega) (by decide) rfl dX5_prove_89 ?_
        refine J_aload_n 90 0 dX5_prove_90 rfl rfl ?_
        refine g_202 (v := .ref rw) 91 0 rfl rfl dX5_prove_91 ?_
        refine J_iload 94 dX5_prove_94 rfl ?_
        refine J_iconst (v := 3) 96 dX5_prove_96 rfl ?_
        refine J_imul 97 dX5_prove_97 ?_
        refine J_topi (y := nI (i * 3)) 98 (pk_mul i 3) ?_
        refine J_iconst (v := 2) 98 dX5_prove_98 rfl ?_
        refine J_iadd 99 dX5_prove_99 ?_
        refine J_topi (y := nI ((i * 3) + 2)) 100 (nI_add (i * 3) 2) ?_
        refine J_iload 100 dX5_prove_100 rfl ?_
        refine J_iast (ws' := (wF [wMe o (An 0) (Ak 0) (At 0) (Ad 0) kk tp rw (min n (ns - sd)) sh sf de, wCt G An la ns sd to he sw nh ki te mi ar z, wCt G At la ns (sd1 + 1) to he sw nh ki (fSel (fun h_ => h_ < nh ∧ hasP (fMask (fun h_ => hasP 255 (nI h_) ∧ fUp la ki mi te1 to he sw sd1 h_) nh) (nI h_)) (fun h_ => heldI (te1 h_ - fWears (ki h_) (la 2))) te1) mi (fSel (fun h_ => h_ < nh ∧ hasP (fMask (fun h_ => hasP 255 (nI h_) ∧ fUp la ki mi te1 to he sw sd1 h_) nh) (nI h_)) (fun h_ => ar1 h_ ||| onlyI (nI sd1)) ar1) z, wI G rw 30 (upd (upd (upd rw1 (i * 3) ((fSel (fun h_ => h_ < nh ∧ hasP (fMask (fun h_ => hasP 255 (nI h_) ∧ fUp la ki mi te1 to he sw sd1 h_) nh) (nI h_)) (fun h_ => ar1 h_ ||| onlyI (nI sd1)) ar1) h)) ((i * 3) + 1) ((fSel (fun h_ => h_ < nh ∧ hasP (fMask (fun h_ => hasP 255 (nI h_) ∧ fUp la ki mi te1 to he sw sd1 h_) nh) (nI h_)) (fun h_ => heldI (te1 h_ - fWears (ki h_) (la 2))) te1) h)) ((i * 3) + 2) (fBC (fMask (fun h_ => hasP 255 (nI h_) ∧ fUp la ki mi te1 to he sw sd1 h_) nh)))])) 102 19 ((i * 3) + 2) rfl rfl (by omega) (by decide) rfl dX5_prove_102 ?_
        refine J_iinc (v := nI (i + 1)) (lv' := [some (.ref o), some (.int (nI h)), some (.int (nI n)), some (.ref (At 0)), some (.int (nI (i + 1))), some (.int (fBC (fMask (fun h_ => hasP 255 (nI h_) ∧ fUp la ki mi te1 to he sw sd1 h_) nh)))]) 103 dX5_prove_103 rfl (nI_add _ 1) (by decide) rfl ?_
        refine J_goto (tgt := 40) 106 dX5_prove_106 (by decide) ?_
        refine J_mask (lv' := [some (.ref o), some (.int (nI h)), some (.int (nI n)), some (.ref (At 0)), some (.int (nI (i + 1))), none]) 40 [true, true, true, true, true, false] rfl ?_
        exact ih_40_ (i + 1) (fSel (fun h_ => h_ < nh ∧ hasP (fMask (fun h_ => hasP 255 (nI h_) ∧ fUp la ki mi te1 to he sw sd1 h_) nh) (nI h_)) (fun h_ => heldI (te1 h_ - fWears (ki h_) (la 2))) te1) (fSel (fun h_ => h_ < nh ∧ hasP (fMask (fun h_ => hasP 255 (nI h_) ∧ fUp la ki mi te1 to he sw sd1 h_) nh) (nI h_)) (fun h_ => ar1 h_ ||| onlyI (nI sd1)) ar1) (sd1 + 1) (upd (upd (upd rw1 (i * 3) ((fSel (fun h_ => h_ < nh ∧ hasP (fMask (fun h_ => hasP 255 (nI h_) ∧ fUp la ki mi te1 to he sw sd1 h_) nh) (nI h_)) (fun h_ => ar1 h_ ||| onlyI (nI sd1)) ar1) h)) ((i * 3) + 1) ((fSel (fun h_ => h_ < nh ∧ hasP (fMask (fun h_ => hasP 255 (nI h_) ∧ fUp la ki mi te1 to he sw sd1 h_) nh) (nI h_)) (fun h_ => heldI (te1 h_ - fWears (ki h_) (la 2))) te1) h)) ((i * 3) + 2) (fBC (fMask (fun h_ => hasP 255 (nI h_) ∧ fUp la ki mi te1 to he sw sd1 h_) nh))) (by omega) (by first | assumption | omega | rfl) (by first | exact fTe_0 | exact (fTA_s hte har hs1 (fun h_ => by rw [fMask_has8 hnh]; exact and_assoc.symm)).1) (by first | exact fAr_0 | exact (fTA_s hte har hs1 (fun h_ => by rw [fMask_has8 hnh]; exact and_assoc.symm)).2) (by first | assumption | omega | rfl) (by first | exact fRow3_s hrw (congrFun (fTA_s hte har hs1 (fun h_ => by rw [fMask_has8 hnh]; exact and_assoc.symm)).2 h) (congrFun (fTA_s hte har hs1 (fun h_ => by rw [fMask_has8 hnh]; exact and_assoc.symm)).1 h) (by rw [hte, hs1]) | rfl)
  refine J_aload_n 0 0 dX5_prove_0 rfl rfl ?_
  refine J_iload_n 1 1 dX5_prove_1 rfl rfl ?_
  refine kb_RX5_135 (bs' := [wMe o (An 0) (Ak 0) (At 0) (Ad 0) kk tp rw rc sh sf de, wCt G An la ns sd to he sw nh ki te mi ar z, wCt G At t_la t_ns t_sd t_to t_he t_sw t_nh t_ki t_te t_mi t_ar t_z, wI G rw 30 rwf]) (rest := []) (st' := [.int 1]) 2 (c_X5_isHearer_t l G h o An Ak At Ad kk tp rw rc sh sf de la ns sd to he sw nh ki te mi ar z (by assumption) (by omega)) [0, 1] 0 rfl rfl rfl [[o], [An 0, An 1, An 2, An 3, An 4, An 5, An 6, An 7, An 8]] rfl rfl rfl rfl rfl rfl (Nat.le_of_ble_eq_true rfl) rfl dX5_prove_2 ?_
  refine J_if_eq (tgt := 18) 5 dX5_prove_5 (by decide) (fun c_2_ => absurd c_2_ (by decide)) (fun _ => ?_)
  refine J_iload_n 8 2 dX5_prove_8 rfl rfl ?_
  refine J_iconst (v := 1) 9 dX5_prove_9 rfl ?_
  refine J_bipush (v := 10) 10 dX5_prove_10 rfl ?_
  refine kb_RX5_65 (bs' := [wMe o (An 0) (Ak 0) (At 0) (Ad 0) kk tp rw rc sh sf de, wCt G An la ns sd to he sw nh ki te mi ar z, wCt G At t_la t_ns t_sd t_to t_he t_sw t_nh t_ki t_te t_mi t_ar t_z, wI G rw 30 rwf]) (rest := []) (st' := [.int 1]) 12 (c_X5_within_t l G (nI n) 1 10 (inM_t (a := 1) (m := 10) h1 h10 (by decide))) [] rfl rfl [] rfl rfl rfl rfl rfl rfl (Nat.le_of_ble_eq_true rfl) rfl dX5_prove_12 ?_
  refine J_if_ne (tgt := 20) 15 dX5_prove_15 (by decide) (fun _ => ?_) (fun c_3_ => absurd c_3_ (by decide))
  refine J_aload_n 20 0 dX5_prove_20 rfl rfl ?_
  refine kb_RX5_180 (bs' := [wMe o (An 0) (Ak 0) (At 0) (Ad 0) kk tp rw rc sh sf de, wCt G An la ns sd to he sw nh ki te mi ar z, wCt G At la ns sd to he sw nh ki te mi ar z, wI G rw 30 rwf]) (rest := []) (st' := [.ref (At 0)]) 21 (c_X5_tried l G o An Ak At Ad kk tp rw rc sh sf de la ns sd to he sw nh ki te mi ar z t_la t_ns t_sd t_to t_he t_sw t_nh t_ki t_te t_mi t_ar t_z ) [0, 1, 2] 0 rfl rfl rfl [[o], [An 0, An 1, An 2, An 3, An 4, An 5, An 6, An 7, An 8], [At 0, At 1, At 2, At 3, At 4, At 5, At 6, At 7, At 8]] rfl rfl rfl rfl rfl rfl (Nat.le_of_ble_eq_true rfl) rfl dX5_prove_21 ?_
  refine J_astore_n (lv' := [some (.ref o), some (.int (nI h)), some (.int (nI n)), some (.ref (At 0)), none, none]) 24 3 dX5_prove_24 rfl (by decide) rfl ?_
  refine J_aload_n 25 0 dX5_prove_25 rfl rfl ?_
  refine J_iload_n 26 2 dX5_prove_26 rfl rfl ?_
  refine J_aload_n 27 3 dX5_prove_27 rfl rfl ?_
  refine kb_RX5_150 (bs' := [wMe o (An 0) (Ak 0) (At 0) (Ad 0) kk tp rw rc sh sf de, wCt G An la ns sd to he sw nh ki te mi ar z, wCt G At la ns sd to he sw nh ki te mi ar z, wI G rw 30 rwf]) (rest := [.int (nI n), .ref o]) (st' := [.int (nI (ns - sd)), .int (nI n), .ref o]) 28 (c_X0_left l G At la ns sd to he sw nh ki te mi ar z (by first | omega | assumption)) [2] 10 rfl rfl rfl [[At 0, At 1, At 2, At 3, At 4, At 5, At 6, At 7, At 8]] rfl rfl rfl rfl rfl rfl (Nat.le_of_ble_eq_true rfl) rfl dX5_prove_28 ?_
  refine J_min 31 w_495 w_479 w_13 w_480 rfl (Nat.le_of_ble_eq_true rfl) dX5_prove_31 ?_
  refine J_topi (y := nI (min n (ns - sd))) 34 (min_nI (by omega) (by omega)) ?_
  refine p_203 (ws' := (wF [wMe o (An 0) (Ak 0) (At 0) (Ad 0) kk tp rw (min n (ns - sd)) sh sf de, wCt G An la ns sd to he sw nh ki te mi ar z, wCt G At la ns sd to he sw nh ki te mi ar z, wI G rw 30 rwf])) 34 0 rfl rfl rfl (Nat.le_of_ble_eq_true rfl) rfl dX5_prove_34 ?_
  refine J_iconst (v := 0) 37 dX5_prove_37 rfl ?_
  refine J_istore (lv' := [some (.ref o), some (.int (nI h)), some (.int (nI n)), some (.ref (At 0)), some (.int 0), none]) 38 dX5_prove_38 (by decide) rfl ?_
  exact cut_40_ ((min n (ns - sd) - 0) + 1) 0 te ar sd rwf (Nat.lt_succ_self _) (by first | assumption | omega | rfl) (by first | exact fTe_0 | exact (fTA_s hte har hs1 (fun h_ => by rw [fMask_has8 hnh]; exact and_assoc.symm)).1) (by first | exact fAr_0 | exact (fTA_s hte har hs1 (fun h_ => by rw [fMask_has8 hnh]; exact and_assoc.symm)).2) (by first | assumption | omega | rfl) (by first | exact fRow3_s hrw (congrFun (fTA_s hte har hs1 (fun h_ => by rw [fMask_has8 hnh]; exact and_assoc.symm)).2 h) (congrFun (fTA_s hte har hs1 (fun h_ => by rw [fMask_has8 hnh]; exact and_assoc.symm)).1 h) (by rw [hte, hs1]) | rfl)
set_option maxRecDepth 100000 in
set_option maxHeartbeats 4000000 in
theorem c_X5_row_ok (l : Launch) (G : Gd) (i : Nat) (w : Nat) (o : Nat) (An : Nat → Nat) (Ak : Nat → Nat) (At : Nat → Nat) (Ad : Nat → Nat) (kk : Int32) (tp : Nat) (rw : Nat) (rc : Nat) (sh : Nat) (sf : Nat) (de : Nat) (rwf : Nat → Int32) (hi : i < rc) (hb : rc ≤ 10) (hw : w ≤ 2) : Ct l G yX5_row cX5_row 3 (some (FieldType.int)) 2 [.ref o, .int (nI i), .int (nI w)] (wF [wMe o (An 0) (Ak 0) (At 0) (Ad 0) kk tp rw rc sh sf de, wI G rw 30 rwf]) (some (.int (rwf (i * 3 + w)))) (wF [wMe o (An 0) (Ak 0) (At 0) (Ad 0) kk tp rw rc sh sf de, wI G rw 30 rwf]) := by
  refine Ct.of "GooseArms" [some (.ref o), some (.int (nI i)), some (.int (nI w))] (by decide +kernel) rfl (Nat.le_of_ble_eq_true rfl) rfl ?_
  refine J_aload_n 0 0 dX5_row_0 rfl rfl ?_
  refine J_iload_n 1 1 dX5_row_1 rfl rfl ?_
  refine J_iload_n 2 2 dX5_row_2 rfl rfl ?_
  refine kb_RX5_254 (bs' := [wMe o (An 0) (Ak 0) (At 0) (Ad 0) kk tp rw rc sh sf de, wI G rw 30 rwf]) (rest := []) (st' := [.int 1]) 3 (c_X5_isCell_t l G i w o An Ak At Ad kk tp rw rc sh sf de (by first | omega | assumption) (by first | omega | assumption) (by first | omega | assumption)) [0] 0 rfl rfl rfl [[o]] rfl rfl rfl rfl rfl rfl (Nat.le_of_ble_eq_true rfl) rfl dX5_row_3 ?_
  refine J_if_eq (tgt := 22) 6 dX5_row_6 (by decide) (fun c_1_ => absurd c_1_ (by decide)) (fun _ => ?_)
  refine J_aload_n 9 0 dX5_row_9 rfl rfl ?_
  refine g_202 (v := .ref rw) 10 0 rfl rfl dX5_row_10 ?_
  refine J_iload_n 13 1 dX5_row_13 rfl rfl ?_
  refine J_iconst (v := 3) 14 dX5_row_14 rfl ?_
  refine J_imul 15 dX5_row_15 ?_
  refine J_topi (y := nI (i * 3)) 16 (pk_mul i 3) ?_
  refine J_iload_n 16 2 dX5_row_16 rfl rfl ?_
  refine J_iadd 17 dX5_row_17 ?_
  refine J_topi (y := nI ((i * 3) + w)) 18 (nI_add (i * 3) w) ?_
  refine J_iald 18 1 ((i * 3) + w) rfl rfl (by omega) (by decide) dX5_row_18 ?_
  refine J_goto (tgt := 24) 19 dX5_row_19 (by decide) ?_
  exact J_iret 24 dX5_row_24 (congrArg (fun x_ => some (Value.int x_)) (by first | rfl | omega | grind)) rfl
set_option maxRecDepth 100000 in
set_option maxHeartbeats 4000000 in
theorem c_X5_row_bad (l : Launch) (G : Gd) (i : Int32) (w : Int32) (o : Nat) (An : Nat → Nat) (Ak : Nat → Nat) (At : Nat → Nat) (Ad : Nat → Nat) (kk : Int32) (tp : Nat) (rw : Nat) (rc : Nat) (sh : Nat) (sf : Nat) (de : Nat) (hw : ¬ ((0 ≤ i ∧ i ≤ nI rc - 1) ∧ 0 ≤ w ∧ w ≤ 2)) : Ct l G yX5_row cX5_row 3 (some (FieldType.int)) 2 [.ref o, .int i, .int w] (wF [wMe o (An 0) (Ak 0) (At 0) (Ad 0) kk tp rw rc sh sf de]) (some (.int (-9))) (wF [wMe o (An 0) (Ak 0) (At 0) (Ad 0) kk tp rw rc sh sf de]) := by
  refine Ct.of "GooseArms" [some (.ref o), some (.int i), some (.int w)] (by decide +kernel) rfl (Nat.le_of_ble_eq_true rfl) rfl ?_
  refine J_aload_n 0 0 dX5_row_0 rfl rfl ?_
  refine J_iload_n 1 1 dX5_row_1 rfl rfl ?_
  refine J_iload_n 2 2 dX5_row_2 rfl rfl ?_
  refine kb_RX5_254 (bs' := [wMe o (An 0) (Ak 0) (At 0) (Ad 0) kk tp rw rc sh sf de]) (rest := []) (st' := [.int 0]) 3 (c_X5_isCell_f l G i w o An Ak At Ad kk tp rw rc sh sf de (by first | omega | assumption)) [0] 0 rfl rfl rfl [[o]] rfl rfl rfl rfl rfl rfl (Nat.le_of_ble_eq_true rfl) rfl dX5_row_3 ?_
  refine J_if_eq (tgt := 22) 6 dX5_row_6 (by decide) (fun _ => ?_) (fun c_1_ => absurd c_1_ (by decide))
  refine J_bipush (v := (-9)) 22 dX5_row_22 rfl ?_
  exact J_iret 24 dX5_row_24 rfl rfl
set_option maxRecDepth 100000 in
set_option maxHeartbeats 4000000 in
theorem c_X5_alterRow_ok (l : Launch) (G : Gd) (i : Nat) (w : Nat) (v : Int32) (o : Nat) (An : Nat → Nat) (Ak : Nat → Nat) (At : Nat → Nat) (Ad : Nat → Nat) (kk : Int32) (tp : Nat) (rw : Nat) (rc : Nat) (sh : Nat) (sf : Nat) (de : Nat) (rwf : Nat → Int32) (hi : i < rc) (hb : rc ≤ 10) (hw : w ≤ 2) : Ct l G yX5_alterRow cX5_alterRow 5 (some (FieldType.int)) 2 [.ref o, .int (nI i), .int (nI w), .int v] (wF [wMe o (An 0) (Ak 0) (At 0) (Ad 0) kk tp rw rc sh sf de, wI G rw 30 rwf]) (some (.int (rwf (i * 3 + w)))) (wF [wMe o (An 0) (Ak 0) (At 0) (Ad 0) kk tp rw rc sh sf de, wI G rw 30 (upd rwf (i * 3 + w) v)]) := by
  refine Ct.of "GooseArms" [some (.ref o), some (.int (nI i)), some (.int (nI w)), some (.int v), none] (by decide +kernel) rfl (Nat.le_of_ble_eq_true rfl) rfl ?_
  refine J_aload_n 0 0 dX5_alterRow_0 rfl rfl ?_
  refine J_iload_n 1 1 dX5_alterRow_1 rfl rfl ?_
  refine J_iload_n 2 2 dX5_alterRow_2 rfl rfl ?_
  refine kb_RX5_254 (bs' := [wMe o (An 0) (Ak 0) (At 0) (Ad 0) kk tp rw rc sh sf de, wI G rw 30 rwf]) (rest := []) (st' := [.int 1]) 3 (c_X5_isCell_t l G i w o An Ak At Ad kk tp rw rc sh sf de (by first | omega | assumption) (by first | omega | assumption) (by first | omega | assumption)) [0] 0 rfl rfl rfl [[o]] rfl rfl rfl rfl rfl rfl (Nat.le_of_ble_eq_true rfl) rfl dX5_alterRow_3 ?_
  refine J_if_ne (tgt := 12) 6 dX5_alterRow_6 (by decide) (fun _ => ?_) (fun c_1_ => absurd c_1_ (by decide))
  refine J_aload_n 12 0 dX5_alterRow_12 rfl rfl ?_
  refine g_202 (v := .ref rw) 13 0 rfl rfl dX5_alterRow_13 ?_
  refine J_iload_n 16 1 dX5_alterRow_16 rfl rfl ?_
  refine J_iconst (v := 3) 17 dX5_alterRow_17 rfl ?_
  refine J_imul 18 dX5_alterRow_18 ?_
  refine J_topi (y := nI (i * 3)) 19 (pk_mul i 3) ?_
  refine J_iload_n 19 2 dX5_alterRow_19 rfl rfl ?_
  refine J_iadd 20 dX5_alterRow_20 ?_
  refine J_topi (y := nI ((i * 3) + w)) 21 (nI_add (i * 3) w) ?_
  refine J_iald 21 1 ((i * 3) + w) rfl rfl (by omega) (by decide) dX5_alterRow_21 ?_
  refine J_istore (lv' := [some (.ref o), some (.int (nI i)), some (.int (nI w)), some (.int v), some (.int (rwf ((i * 3) + w)))]) 22 dX5_alterRow_22 (by decide) rfl ?_
  refine J_aload_n 24 0 dX5_alterRow_24 rfl rfl ?_
  refine g_202 (v := .ref rw) 25 0 rfl rfl dX5_alterRow_25 ?_
  refine J_iload_n 28 1 dX5_alterRow_28 rfl rfl ?_
  refine J_iconst (v := 3) 29 dX5_alterRow_29 rfl ?_
  refine J_imul 30 dX5_alterRow_30 ?_
  refine J_topi (y := nI (i * 3)) 31 (pk_mul i 3) ?_
  refine J_iload_n 31 2 dX5_alterRow_31 rfl rfl ?_
  refine J_iadd 32 dX5_alterRow_32 ?_
  refine J_topi (y := nI ((i * 3) + w)) 33 (nI_add (i * 3) w) ?_
  refine J_iload_n 33 3 dX5_alterRow_33 rfl rfl ?_
  refine J_iast (ws' := (wF [wMe o (An 0) (Ak 0) (At 0) (Ad 0) kk tp rw rc sh sf de, wI G rw 30 (upd rwf ((i * 3) + w) v)])) 34 1 ((i * 3) + w) rfl rfl (by omega) (by decide) rfl dX5_alterRow_34 ?_
  refine J_iload 35 dX5_alterRow_35 rfl ?_
  exact J_iret 37 dX5_alterRow_37 (congrArg (fun x_ => some (Value.int x_)) (by first | rfl | omega | grind)) (cg1 (fun (x0_ : Nat → Int32) => (wF [wMe o (An 0) (Ak 0) (At 0) (Ad 0) kk tp rw rc sh sf de, wI G rw 30 x0_])) (upd rwf ((i * 3) + w) v) (upd rwf (i * 3 + w) v) (by first | rfl | omega | grind))
set_option maxRecDepth 100000 in
set_option maxHeartbeats 4000000 in
theorem c_X5_alterRow_bad (l : Launch) (G : Gd) (i : Int32) (w : Int32) (v : Int32) (o : Nat) (An : Nat → Nat) (Ak : Nat → Nat) (At : Nat → Nat) (Ad : Nat → Nat) (kk : Int32) (tp : Nat) (rw : Nat) (rc : Nat) (sh : Nat) (sf : Nat) (de : Nat) (hw : ¬ ((0 ≤ i ∧ i ≤ nI rc - 1) ∧ 0 ≤ w ∧ w ≤ 2)) : Ct l G yX5_alterRow cX5_alterRow 5 (some (FieldType.int)) 2 [.ref o, .int i, .int w, .int v] (wF [wMe o (An 0) (Ak 0) (At 0) (Ad 0) kk tp rw rc sh sf de]) (some (.int (-9))) (wF [wMe o (An 0) (Ak 0) (At 0) (Ad 0) kk tp rw rc sh sf de]) := by
  refine Ct.of "GooseArms" [some (.ref o), some (.int i), some (.int w), some (.int v), none] (by decide +kernel) rfl (Nat.le_of_ble_eq_true rfl) rfl ?_
  refine J_aload_n 0 0 dX5_alterRow_0 rfl rfl ?_
  refine J_iload_n 1 1 dX5_alterRow_1 rfl rfl ?_
  refine J_iload_n 2 2 dX5_alterRow_2 rfl rfl ?_
  refine kb_RX5_254 (bs' := [wMe o (An 0) (Ak 0) (At 0) (Ad 0) kk tp rw rc sh sf de]) (rest := []) (st' := [.int 0]) 3 (c_X5_isCell_f l G i w o An Ak At Ad kk tp rw rc sh sf de (by first | omega | assumption)) [0] 0 rfl rfl rfl [[o]] rfl rfl rfl rfl rfl rfl (Nat.le_of_ble_eq_true rfl) rfl dX5_alterRow_3 ?_
  refine J_if_ne (tgt := 12) 6 dX5_alterRow_6 (by decide) (fun c_1_ => absurd c_1_ (by decide)) (fun _ => ?_)
  refine J_bipush (v := (-9)) 9 dX5_alterRow_9 rfl ?_
  exact J_iret 11 dX5_alterRow_11 rfl rfl
set_option maxRecDepth 100000 in
set_option maxHeartbeats 4000000 in
theorem c_X5_judge_bad (l : Launch) (G : Gd) (h : Int32) (o : Nat) (An : Nat → Nat) (Ak : Nat → Nat) (At : Nat → Nat) (Ad : Nat → Nat) (kk : Int32) (tp : Nat) (rw : Nat) (rc : Nat) (sh : Nat) (sf : Nat) (de : Nat) (la : Nat → Int32) (ns : Nat) (sd : Nat) (to : Nat → Int32) (he : Nat → Int32) (sw : Nat → Int32) (nh : Nat) (ki : Nat → Int32) (te : Nat → Int32) (mi : Nat → Int32) (ar : Nat → Int32) (z : Int32) (hw : ¬ (0 ≤ h ∧ h ≤ nI nh - 1)) : Ct l G yX5_judge cX5_judge 6 (some (FieldType.int)) 4 [.ref o, .int h] (wF [wMe o (An 0) (Ak 0) (At 0) (Ad 0) kk tp rw rc sh sf de, wCt G An la ns sd to he sw nh ki te mi ar z]) (some (.int (-1))) (wF [wMe o (An 0) (Ak 0) (At 0) (Ad 0) kk tp rw rc sh sf de, wCt G An la ns sd to he sw nh ki te mi ar z]) := by
  refine Ct.of "GooseArms" [some (.ref o), some (.int h), none, none, none, none] (by decide +kernel) rfl (Nat.le_of_ble_eq_true rfl) rfl ?_
  refine J_aload_n 0 0 dX5_judge_0 rfl rfl ?_
  refine J_iload_n 1 1 dX5_judge_1 rfl rfl ?_
  refine kb_RX5_135 (bs' := [wMe o (An 0) (Ak 0) (At 0) (Ad 0) kk tp rw rc sh sf de, wCt G An la ns sd to he sw nh ki te mi ar z]) (rest := []) (st' := [.int 0]) 2 (c_X5_isHearer_f l G h o An Ak At Ad kk tp rw rc sh sf de la ns sd to he sw nh ki te mi ar z (by first | omega | assumption)) [0, 1] 0 rfl rfl rfl [[o], [An 0, An 1, An 2, An 3, An 4, An 5, An 6, An 7, An 8]] rfl rfl rfl rfl rfl rfl (Nat.le_of_ble_eq_true rfl) rfl dX5_judge_2 ?_
  refine J_if_ne (tgt := 10) 5 dX5_judge_5 (by decide) (fun c_1_ => absurd c_1_ (by decide)) (fun _ => ?_)
  refine J_iconst (v := (-1)) 8 dX5_judge_8 rfl ?_
  exact J_iret 9 dX5_judge_9 rfl rfl
set_option maxRecDepth 100000 in
set_option maxHeartbeats 4000000 in
theorem c_X5_judge_ok (l : Launch) (G : Gd) (h : Nat) (o : Nat) (An : Nat → Nat) (Ak : Nat → Nat) (At : Nat → Nat) (Ad : Nat → Nat) (kk : Int32) (tp : Nat) (rw : Nat) (rc : Nat) (sh : Nat) (sf : Nat) (de : Nat) (la : Nat → Int32) (ns : Nat) (sd : Nat) (to : Nat → Int32) (he : Nat → Int32) (sw : Nat → Int32) (nh : Nat) (ki : Nat → Int32) (te : Nat → Int32) (mi : Nat → Int32) (ar : Nat → Int32) (z : Int32) (t_la : Nat → Int32) (t_ns : Nat) (t_sd : Nat) (t_to : Nat → Int32) (t_he : Nat → Int32) (t_sw : Nat → Int32) (t_nh : Nat) (t_ki : Nat → Int32) (t_te : Nat → Int32) (t_mi : Nat → Int32) (t_ar : Nat → Int32) (t_z : Int32) (rwf : Nat → Int32) (hh : h < nh) (hnh : nh ≤ 8) (hns : ns ≤ 12) (hsd : sd ≤ ns) (hrc : rc ≤ 10) : CtP l G yX5_judge cX5_judge 6 (some (FieldType.int)) 4 [.ref o, .int (nI h)] (wF [wMe o (An 0) (Ak 0) (At 0) (Ad 0) kk tp rw rc sh sf de, wCt G An la ns sd to he sw nh ki te mi ar z, wCt G At t_la t_ns t_sd t_to t_he t_sw t_nh t_ki t_te t_mi t_ar t_z, wI G rw 30 rwf]) (some (.int (fJu (fun k_ => sd + k_ < ns ∧ rwf (k_ * 3) = (fun k_ => fAr (fun h_ => h_ < nh ∧ hasP 255 (nI h_)) la ki mi te ar to he sw sd (k_ + 1) h) k_ ∧ rwf (k_ * 3 + 1) = (fun k_ => fTe (fun h_ => h_ < nh ∧ hasP 255 (nI h_)) la ki mi te ar to he sw sd (k_ + 1) h) k_ ∧ rwf (k_ * 3 + 2) = (fun k_ => fBC (fMask (fun h_ => hasP 255 (nI h_) ∧ fUp la ki mi (fTe (fun h_ => h_ < nh ∧ hasP 255 (nI h_)) la ki mi te ar to he sw sd (k_)) to he sw (sd + k_) h_) nh)) k_) rc 0))) (fun w_ => ∃ (j_2_la : Nat → Int32) (j_2_ns : Nat) (j_2_sd : Nat) (j_2_to : Nat → Int32) (j_2_he : Nat → Int32) (j_2_sw : Nat → Int32) (j_2_nh : Nat) (j_2_ki : Nat → Int32) (j_2_te : Nat → Int32) (j_2_mi : Nat → Int32) (j_2_ar : Nat → Int32) (j_2_z : Int32), w_ = (wF [wMe o (An 0) (Ak 0) (At 0) (Ad 0) kk tp rw rc sh sf de, wCt G An la ns sd to he sw nh ki te mi ar z, wCt G At j_2_la j_2_ns j_2_sd j_2_to j_2_he j_2_sw j_2_nh j_2_ki j_2_te j_2_mi j_2_ar j_2_z, wI G rw 30 rwf])) := by
  refine CtP.of "GooseArms" [some (.ref o), some (.int (nI h)), none, none, none, none] (by decide +kernel) rfl (Nat.le_of_ble_eq_true rfl) rfl ?_
  have cut_17_ : ∀ (n_17_ : Nat) (i : Nat) (te1 : Nat → Int32) (ar1 : Nat → Int32) (sd1 : Nat), (rc - i < n_17_) → (hi : i ≤ rc) → (hte : te1 = fTe (fun h_ => h_ < nh ∧ hasP 255 (nI h_)) la ki mi te ar to he sw sd (i)) → (har : ar1 = fAr (fun h_ => h_ < nh ∧ hasP 255 (nI h_)) la ki mi te ar to he sw sd (i)) → (hs1 : sd1 = sd + i) → (hsn : sd1 ≤ ns) → (hJ : fJu (fun k_ => sd + k_ < ns ∧ rwf (k_ * 3) = (fun k_ => fAr (fun h_ => h_ < nh ∧ hasP 255 (nI h_)) la ki mi te ar to he sw sd (k_ + 1) h) k_ ∧ rwf (k_ * 3 + 1) = (fun k_ => fTe (fun h_ => h_ < nh ∧ hasP 255 (nI h_)) la ki mi te ar to he sw sd (k_ + 1) h) k_ ∧ rwf (k_ * 3 + 2) = (fun k_ => fBC (fMask (fun h_ => hasP 255 (nI h_) ∧ fUp la ki mi (fTe (fun h_ => h_ < nh ∧ hasP 255 (nI h_)) la ki mi te ar to he sw sd (k_)) to he sw (sd + k_) h_) nh)) k_) rc 0 = fJu (fun k_ => sd + k_ < ns ∧ rwf (k_ * 3) = (fun k_ => fAr (fun h_ => h_ < nh ∧ hasP 255 (nI h_)) la ki mi te ar to he sw sd (k_ + 1) h) k_ ∧ rwf (k_ * 3 + 1) = (fun k_ => fTe (fun h_ => h_ < nh ∧ hasP 255 (nI h_)) la ki mi te ar to he sw sd (k_ + 1) h) k_ ∧ rwf (k_ * 3 + 2) = (fun k_ => fBC (fMask (fun h_ => hasP 255 (nI h_) ∧ fUp la ki mi (fTe (fun h_ => h_ < nh ∧ hasP 255 (nI h_)) la ki mi te ar to he sw sd (k_)) to he sw (sd + k_) h_) nh)) k_) (rc - i) i) → J l G (bdP G 4 (some (FieldType.int)) (some (.int (fJu (fun k_ => sd + k_ < ns ∧ rwf (k_ * 3) = (fun k_ => fAr (fun h_ => h_ < nh ∧ hasP 255 (nI h_)) la ki mi te ar to he sw sd (k_ + 1) h) k_ ∧ rwf (k_ * 3 + 1) = (fun k_ => fTe (fun h_ => h_ < nh ∧ hasP 255 (nI h_)) la ki mi te ar to he sw sd (k_ + 1) h) k_ ∧ rwf (k_ * 3 + 2) = (fun k_ => fBC (fMask (fun h_ => hasP 255 (nI h_) ∧ fUp la ki mi (fTe (fun h_ => h_ < nh ∧ hasP 255 (nI h_)) la ki mi te ar to he sw sd (k_)) to he sw (sd + k_) h_) nh)) k_) rc 0))) (fun w_ => ∃ (j_2_la : Nat → Int32) (j_2_ns : Nat) (j_2_sd : Nat) (j_2_to : Nat → Int32) (j_2_he : Nat → Int32) (j_2_sw : Nat → Int32) (j_2_nh : Nat) (j_2_ki : Nat → Int32) (j_2_te : Nat → Int32) (j_2_mi : Nat → Int32) (j_2_ar : Nat → Int32) (j_2_z : Int32), w_ = (wF [wMe o (An 0) (Ak 0) (At 0) (Ad 0) kk tp rw rc sh sf de, wCt G An la ns sd to he sw nh ki te mi ar z, wCt G At j_2_la j_2_ns j_2_sd j_2_to j_2_he j_2_sw j_2_nh j_2_ki j_2_te j_2_mi j_2_ar j_2_z, wI G rw 30 rwf]))) cX5_judge 6 "GooseArms" 17 [some (.ref o), some (.int (nI h)), some (.ref (At 0)), some (.int (nI i)), none, none] [] (wF [wMe o (An 0) (Ak 0) (At 0) (Ad 0) kk tp rw rc sh sf de, wCt G An la ns sd to he sw nh ki te mi ar z, wCt G At la ns sd1 to he sw nh ki te1 mi ar1 z, wI G rw 30 rwf]) := by
    intro n_17_
    induction n_17_ with
    | zero => intro i te1 ar1 sd1 m_17_; exact absurd m_17_ (Nat.not_lt_zero _)
    | succ n_17_ ih_17_ =>
      intro i te1 ar1 sd1 m_17_ hi hte har hs1 hsn hJ
      refine J_iload_n 17 3 dX5_judge_17 rfl rfl ?_
      refine J_aload_n 18 0 dX5_judge_18 rfl rfl ?_
      refine g_203 (v := .int (nI rc)) 19 0 rfl rfl dX5_judge_19 ?_
      refine J_icmp_ge (tgt := 118) 22 dX5_judge_22 (by decide) (fun c_1_ => ?_) (fun c_1_ => ?_)
      · skip
        have c_1_ : rc ≤ i := (nI_leI (a := rc) (b := i) (by omega) (by omega)).mp c_1_
        refine J_iconst (v := 0) 118 dX5_judge_118 rfl ?_
        exact J_iretP 119 dX5_judge_119 (congrArg (fun x_ => some (Value.int x_)) (by rw [hJ]; exact (fJu_e (by omega)).symm)) ⟨la, ns, sd1, to, he, sw, nh, ki, te1, mi, ar1, z, rfl⟩
      · skip
        have c_1_ : ¬ rc ≤ i := fun z_ => c_1_ ((nI_leI (a := rc) (b := i) (by omega) (by omega)).mpr z_)
        refine J_aload_n 25 2 dX5_judge_25 rfl rfl ?_
        refine kb_RX5_150 (bs' := [wMe o (An 0) (Ak 0) (At 0) (Ad 0) kk tp rw rc sh sf de, wCt G An la ns sd to he sw nh ki te mi ar z, wCt G At la ns sd1 to he sw nh ki te1 mi ar1 z, wI G rw 30 rwf]) (rest := []) (st' := [.int (nI (ns - sd1))]) 26 (c_X0_left l G At la ns sd1 to he sw nh ki te1 mi ar1 z (by first | omega | assumption)) [2] 10 rfl rfl rfl [[At 0, At 1, At 2, At 3, At 4, At 5, At 6, At 7, At 8]] rfl rfl rfl rfl rfl rfl (Nat.le_of_ble_eq_true rfl) rfl dX5_judge_26 ?_
        refine J_if_ne (tgt := 36) 29 dX5_judge_29 (by decide) (fun c_2_ => ?_) (fun c_2_ => ?_)
        · skip
          have c_2_ : ¬ (ns - sd1) = 0 := fun z_ => c_2_ ((nI_eq (a := (ns - sd1)) (b := 0) (by omega) (by omega)).mpr z_)
          refine J_aload_n 36 2 dX5_judge_36 rfl rfl ?_
          refine kb_RX5_251 (bs' := [wMe o (An 0) (Ak 0) (At 0) (Ad 0) kk tp rw rc sh sf de, wCt G An la ns sd to he sw nh ki te mi ar z, wCt G At la ns (sd1 + 1) to he sw nh ki (fSel (fun h_ => h_ < nh ∧ hasP (fMask (fun h_ => hasP 255 (nI h_) ∧ fUp la ki mi te1 to he sw sd1 h_) nh) (nI h_)) (fun h_ => heldI (te1 h_ - fWears (ki h_) (la 2))) te1) mi (fSel (fun h_ => h_ < nh ∧ hasP (fMask (fun h_ => hasP 255 (nI h_) ∧ fUp la ki mi te1 to he sw sd1 h_) nh) (nI h_)) (fun h_ => ar1 h_ ||| onlyI (nI sd1)) ar1) z, wI G rw 30 rwf]) (rest := []) (st' := [.int (fMask (fun h_ => hasP 255 (nI h_) ∧ fUp la ki mi te1 to he sw sd1 h_) nh)]) 37 (c_X5_sayNextTried l G At la ns sd1 to he sw nh ki te1 mi ar1 z (by first | omega | assumption) (by first | omega | assumption) (by first | omega | assumption)) [2] rfl rfl [[At 0, At 1, At 2, At 3, At 4, At 5, At 6, At 7, At 8]] rfl rfl rfl rfl rfl rfl (Nat.le_of_ble_eq_true rfl) rfl dX5_judge_37 ?_
          refine kb_RX5_203 (bs' := [wMe o (An 0) (Ak 0) (At 0) (Ad 0) kk tp rw rc sh sf de, wCt G An la ns sd to he sw nh ki te mi ar z, wCt G At la ns (sd1 + 1) to he sw nh ki (fSel (fun h_ => h_ < nh ∧ hasP (fMask (fun h_ => hasP 255 (nI h_) ∧ fUp la ki mi te1 to he sw sd1 h_) nh) (nI h_)) (fun h_ => heldI (te1 h_ - fWears (ki h_) (la 2))) te1) mi (fSel (fun h_ => h_ < nh ∧ hasP (fMask (fun h_ => hasP 255 (nI h_) ∧ fUp la ki mi te1 to he sw sd1 h_) nh) (nI h_)) (fun h_ => ar1 h_ ||| onlyI (nI sd1)) ar1) z, wI G rw 30 rwf]) (rest := []) (st' := [.int (fBC (fMask (fun h_ => hasP 255 (nI h_) ∧ fUp la ki mi te1 to he sw sd1 h_) nh))]) 40 (c_bitCount l G (fMask (fun h_ => hasP 255 (nI h_) ∧ fUp la ki mi te1 to he sw sd1 h_) nh) ) [] rfl rfl [] rfl rfl rfl rfl rfl rfl (Nat.le_of_ble_eq_true rfl) rfl dX5_judge_40 ?_
          have hkt_ := fTA_s (P := fun h_ => h_ < nh ∧ hasP (fMask (fun h_ => hasP 255 (nI h_) ∧ fUp la ki mi te1 to he sw sd1 h_) nh) (nI h_)) hte har hs1 (fun h_ => by rw [fMask_has8 hnh]; exact and_assoc.symm)
          have hkA_ := congrFun hkt_.2 h
          have hkB_ := congrFun hkt_.1 h
          have hkC_ : fBC (fMask (fun h_ => hasP 255 (nI h_) ∧ fUp la ki mi te1 to he sw sd1 h_) nh) = (fun k_ => fBC (fMask (fun h_ => hasP 255 (nI h_) ∧ fUp la ki mi (fTe (fun h_ => h_ < nh ∧ hasP 255 (nI h_)) la ki mi te ar to he sw sd (k_)) to he sw (sd + k_) h_) nh)) i := by subst hte; subst hs1; rfl
          refine J_istore (lv' := [some (.ref o), some (.int (nI h)), some (.ref (At 0)), some (.int (nI i)), some (.int (fBC (fMask (fun h_ => hasP 255 (nI h_) ∧ fUp la ki mi te1 to he sw sd1 h_) nh))), none]) 43 dX5_judge_43 (by decide) rfl ?_
          refine J_aload_n 45 0 dX5_judge_45 rfl rfl ?_
          refine g_202 (v := .ref rw) 46 0 rfl rfl dX5_judge_46 ?_
          refine J_iload_n 49 3 dX5_judge_49 rfl rfl ?_
          refine J_iconst (v := 3) 50 dX5_judge_50 rfl ?_
          refine J_imul 51 dX5_judge_51 ?_
          refine J_topi (y := nI (i * 3)) 52 (pk_mul i 3) ?_
          refine J_iald 52 19 (i * 3) rfl rfl (by omega) (by decide) dX5_judge_52 ?_
          refine J_aload_n 53 2 dX5_judge_53 rfl rfl ?_
          refine g_62 (v := .ref (At 8)) 54 10 rfl rfl dX5_judge_54 ?_
          refine J_iload_n 57 1 dX5_judge_57 rfl rfl ?_
          refine J_iald 58 18 h rfl rfl (by omega) (by decide) dX5_judge_58 ?_
          refine J_icmp_ne (tgt := 100) 59 dX5_judge_59 (by decide) (fun c_3_ => ?_) (fun c_3_ => ?_)
          · skip
            refine J_iconst (v := 0) 100 dX5_judge_100 rfl ?_
            refine J_istore (lv' := [some (.ref o), some (.int (nI h)), some (.ref (At 0)), some (.int (nI i)), some (.int (fBC (fMask (fun h_ => hasP 255 (nI h_) ∧ fUp la ki mi te1 to he sw sd1 h_) nh))), some (.int 0)]) 101 dX5_judge_101 (by decide) rfl ?_
            refine J_iload 103 dX5_judge_103 rfl ?_
            refine J_if_ne (tgt := 112) 105 dX5_judge_105 (by decide) (fun c_4_ => absurd c_4_ (by decide)) (fun _ => ?_)
            refine J_iload_n 108 3 dX5_judge_108 rfl rfl ?_
            refine J_iconst (v := 1) 109 dX5_judge_109 rfl ?_
            refine J_iadd 110 dX5_judge_110 ?_
            refine J_topi (y := nI (i + 1)) 111 (nI_add i 1) ?_
            exact J_iretP 111 dX5_judge_111 (congrArg (fun x_ => some (Value.int x_)) (by rw [hJ]; exact (fJu_f (by omega) (fun z_ => by first | exact absurd (z_.2.1.trans hkA_.symm) (by assumption) | exact absurd (z_.2.2.1.trans hkB_.symm) (by assumption) | exact absurd (z_.2.2.2.trans hkC_.symm) (by assumption))).symm)) ⟨la, ns, (sd1 + 1), to, he, sw, nh, ki, (fSel (fun h_ => h_ < nh ∧ hasP (fMask (fun h_ => hasP 255 (nI h_) ∧ fUp la ki mi te1 to he sw sd1 h_) nh) (nI h_)) (fun h_ => heldI (te1 h_ - fWears (ki h_) (la 2))) te1), mi, (fSel (fun h_ => h_ < nh ∧ hasP (fMask (fun h_ => hasP 255 (nI h_) ∧ fUp la ki mi te1 to he sw sd1 h_) nh) (nI h_)) (fun h_ => ar1 h_ ||| onlyI (nI sd1)) ar1), z, rfl⟩
          · skip
            refine J_aload_n 62 0 dX5_judge_62 rfl rfl ?_
            refine g_202 (v := .ref rw) 63 0 rfl rfl dX5_judge_63 ?_
            refine J_iload_n 66 3 dX5_judge_66 rfl rfl ?_
            refine J_iconst (v := 3) 67 dX5_judge_67 rfl ?_
            refine J_imul 68 dX5_judge_68 ?_
            refine J_topi (y := nI (i * 3)) 69 (pk_mul i 3) ?_
            refine J_iconst (v := 1) 69 dX5_judge_69 rfl ?_
            refine J_iadd 70 dX5_judge_70 ?_
            refine J_topi (y := nI ((i * 3) + 1)) 71 (nI_add (i * 3) 1) ?_
            refine J_iald 71 19 ((i * 3) + 1) rfl rfl (by omega) (by decide) dX5_judge_71 ?_
            refine J_aload_n 72 2 dX5_judge_72 rfl rfl ?_
            refine g_58 (v := .ref (At 6)) 73 10 rfl rfl dX5_judge_73 ?_
            refine J_iload_n 76 1 dX5_judge_76 rfl rfl ?_
            refine J_iald 77 16 h rfl rfl (by omega) (by decide) dX5_judge_77 ?_
            refine J_icmp_ne (tgt := 100) 78 dX5_judge_78 (by decide) (fun c_5_ => ?_) (fun c_5_ => ?_)
            · skip
              refine J_iconst (v := 0) 100 dX5_judge_100 rfl ?_
              refine J_istore (lv' := [some (.ref o), some (.int (nI h)), some (.ref (At 0)), some (.int (nI i)), some (.int (fBC (fMask (fun h_ => hasP 255 (nI h_) ∧ fUp la ki mi te1 to he sw sd1 h_) nh))), some (.int 0)]) 101 dX5_judge_101 (by decide) rfl ?_
              refine J_iload 103 dX5_judge_103 rfl ?_
              refine J_if_ne (tgt := 112) 105 dX5_judge_105 (by decide) (fun c_6_ => absurd c_6_ (by decide)) (fun _ => ?_)
              refine J_iload_n 108 3 dX5_judge_108 rfl rfl ?_
              refine J_iconst (v := 1) 109 dX5_judge_109 rfl ?_
              refine J_iadd 110 dX5_judge_110 ?_
              refine J_topi (y := nI (i + 1)) 111 (nI_add i 1) ?_
              exact J_iretP 111 dX5_judge_111 (congrArg (fun x_ => some (Value.int x_)) (by rw [hJ]; exact (fJu_f (by omega) (fun z_ => by first | exact absurd (z_.2.1.trans hkA_.symm) (by assumption) | exact absurd (z_.2.2.1.trans hkB_.symm) (by assumption) | exact absurd (z_.2.2.2.trans hkC_.symm) (by assumption))).symm)) ⟨la, ns, (sd1 + 1), to, he, sw, nh, ki, (fSel (fun h_ => h_ < nh ∧ hasP (fMask (fun h_ => hasP 255 (nI h_) ∧ fUp la ki mi te1 to he sw sd1 h_) nh) (nI h_)) (fun h_ => heldI (te1 h_ - fWears (ki h_) (la 2))) te1), mi, (fSel (fun h_ => h_ < nh ∧ hasP (fMask (fun h_ => hasP 255 (nI h_) ∧ fUp la ki mi te1 to he sw sd1 h_) nh) (nI h_)) (fun h_ => ar1 h_ ||| onlyI (nI sd1)) ar1), z, rfl⟩
            · skip
              refine J_aload_n 81 0 dX5_judge_81 rfl rfl ?_
              refine g_202 (v := .ref rw) 82 0 rfl rfl dX5_judge_82 ?_
              refine J_iload_n 85 3 dX5_judge_85 rfl rfl ?_
              refine J_iconst (v := 3) 86 dX5_judge_86 rfl ?_
              refine J_imul 87 dX5_judge_87 ?_
              refine J_topi (y := nI (i * 3)) 88 (pk_mul i 3) ?_
              refine J_iconst (v := 2) 88 dX5_judge_88 rfl ?_
              refine J_iadd 89 dX5_judge_89 ?_
              refine J_topi (y := nI ((i * 3) + 2)) 90 (nI_add (i * 3) 2) ?_
              refine J_iald 90 19 ((i * 3) + 2) rfl rfl (by omega) (by decide) dX5_judge_90 ?_
              refine J_iload 91 dX5_judge_91 rfl ?_
              refine J_icmp_ne (tgt := 100) 93 dX5_judge_93 (by decide) (fun c_7_ => ?_) (fun c_7_ => ?_)
              · skip
                refine J_iconst (v := 0) 100 dX5_judge_100 rfl ?_
                refine J_istore (lv' := [some (.ref o), some (.int (nI h)), some (.ref (At 0)), some (.int (nI i)), some (.int (fBC (fMask (fun h_ => hasP 255 (nI h_) ∧ fUp la ki mi te1 to he sw sd1 h_) nh))), some (.int 0)]) 101 dX5_judge_101 (by decide) rfl ?_
                refine J_iload 103 dX5_judge_103 rfl ?_
                refine J_if_ne (tgt := 112) 105 dX5_judge_105 (by decide) (fun c_8_ => absurd c_8_ (by decide)) (fun _ => ?_)
                refine J_iload_n 108 3 dX5_judge_108 rfl rfl ?_
                refine J_iconst (v := 1) 109 dX5_judge_109 rfl ?_
                refine J_iadd 110 dX5_judge_110 ?_
                refine J_topi (y := nI (i + 1)) 111 (nI_add i 1) ?_
                exact J_iretP 111 dX5_judge_111 (congrArg (fun x_ => some (Value.int x_)) (by rw [hJ]; exact (fJu_f (by omega) (fun z_ => by first | exact absurd (z_.2.1.trans hkA_.symm) (by assumption) | exact absurd (z_.2.2.1.trans hkB_.symm) (by assumption) | exact absurd (z_.2.2.2.trans hkC_.symm) (by assumption))).symm)) ⟨la, ns, (sd1 + 1), to, he, sw, nh, ki, (fSel (fun h_ => h_ < nh ∧ hasP (fMask (fun h_ => hasP 255 (nI h_) ∧ fUp la ki mi te1 to he sw sd1 h_) nh) (nI h_)) (fun h_ => heldI (te1 h_ - fWears (ki h_) (la 2))) te1), mi, (fSel (fun h_ => h_ < nh ∧ hasP (fMask (fun h_ => hasP 255 (nI h_) ∧ fUp la ki mi te1 to he sw sd1 h_) nh) (nI h_)) (fun h_ => ar1 h_ ||| onlyI (nI sd1)) ar1), z, rfl⟩
              · skip
                refine J_iconst (v := 1) 96 dX5_judge_96 rfl ?_
                refine J_goto (tgt := 101) 97 dX5_judge_97 (by decide) ?_
                refine J_istore (lv' := [some (.ref o), some (.int (nI h)), some (.ref (At 0)), some (.int (nI i)), some (.int (fBC (fMask (fun h_ => hasP 255 (nI h_) ∧ fUp la ki mi te1 to he sw sd1 h_) nh))), some (.int 1)]) 101 dX5_judge_101 (by decide) rfl ?_
                refine J_iload 103 dX5_judge_103 rfl ?_
                refine J_if_ne (tgt := 112) 105 dX5_judge_105 (by decide) (fun _ => ?_) (fun c_9_ => absurd c_9_ (by decide))
                refine J_iinc (v := nI (i + 1)) (lv' := [some (.ref o), some (.int (nI h)), some (.ref (At 0)), some (.int (nI (i + 1))), some (.int (fBC (fMask (fun h_ => hasP 255 (nI h_) ∧ fUp la ki mi te1 to he sw sd1 h_) nh))), some (.int 1)]) 112 dX5_judge_112 rfl (nI_add _ 1) (by decide) rfl ?_
                refine J_goto (tgt := 17) 115 dX5_judge_115 (by decide) ?_
                refine J_mask (lv' := [some (.ref o), some (.int (nI h)), some (.ref (At 0)), some (.int (nI (i + 1))), none, none]) 17 [true, true, true, true, false, false] rfl ?_
                exact ih_17_ (i + 1) (fSel (fun h_ => h_ < nh ∧ hasP (fMask (fun h_ => hasP 255 (nI h_) ∧ fUp la ki mi te1 to he sw sd1 h_) nh) (nI h_)) (fun h_ => heldI (te1 h_ - fWears (ki h_) (la 2))) te1) (fSel (fun h_ => h_ < nh ∧ hasP (fMask (fun h_ => hasP 255 (nI h_) ∧ fUp la ki mi te1 to he sw sd1 h_) nh) (nI h_)) (fun h_ => ar1 h_ ||| onlyI (nI sd1)) ar1) (sd1 + 1) (by omega) (by first | assumption | omega | rfl) (by first | exact fTe_0 | exact hkt_.1) (by first | exact fAr_0 | exact hkt_.2) (by first | assumption | omega | rfl) (by first | assumption | omega | rfl) (by first | exact hJ.trans (fJu_t (by omega) ⟨by omega, Eq.trans (by assumption) hkA_, Eq.trans (by assumption) hkB_, Eq.trans (by assumption) hkC_⟩) | rfl)
        · skip
          have c_2_ : (ns - sd1) = 0 := (nI_eq (a := (ns - sd1)) (b := 0) (by omega) (by omega)).mp c_2_
          refine J_iload_n 32 3 dX5_judge_32 rfl rfl ?_
          refine J_iconst (v := 1) 33 dX5_judge_33 rfl ?_
          refine J_iadd 34 dX5_judge_34 ?_
          refine J_topi (y := nI (i + 1)) 35 (nI_add i 1) ?_
          exact J_iretP 35 dX5_judge_35 (congrArg (fun x_ => some (Value.int x_)) (by rw [hJ]; exact (fJu_f (by omega) (fun z_ => absurd z_.1 (by omega))).symm)) ⟨la, ns, sd1, to, he, sw, nh, ki, te1, mi, ar1, z, rfl⟩
  refine J_aload_n 0 0 dX5_judge_0 rfl rfl ?_
  refine J_iload_n 1 1 dX5_judge_1 rfl rfl ?_
  refine kb_RX5_135 (bs' := [wMe o (An 0) (Ak 0) (At 0) (Ad 0) kk tp rw rc sh sf de, wCt G An la ns sd to he sw nh ki te mi ar z, wCt G At t_la t_ns t_sd t_to t_he t_sw t_nh t_ki t_te t_mi t_ar t_z, wI G rw 30 rwf]) (rest := []) (st' := [.int 1]) 2 (c_X5_isHearer_t l G h o An Ak At Ad kk tp rw rc sh sf de la ns sd to he sw nh ki te mi ar z (by assumption) (by omega)) [0, 1] 0 rfl rfl rfl [[o], [An 0, An 1, An 2, An 3, An 4, An 5, An 6, An 7, An 8]] rfl rfl rfl rfl rfl rfl (Nat.le_of_ble_eq_true rfl) rfl dX5_judge_2 ?_
  refine J_if_ne (tgt := 10) 5 dX5_judge_5 (by decide) (fun _ => ?_) (fun c_10_ => absurd c_10_ (by decide))
  refine J_aload_n 10 0 dX5_judge_10 rfl rfl ?_
  refine kb_RX5_180 (bs' := [wMe o (An 0) (Ak 0) (At 0) (Ad 0) kk tp rw rc sh sf de, wCt G An la ns sd to he sw nh ki te mi ar z, wCt G At la ns sd to he sw nh ki te mi ar z, wI G rw 30 rwf]) (rest := []) (st' := [.ref (At 0)]) 11 (c_X5_tried l G o An Ak At Ad kk tp rw rc sh sf de la ns sd to he sw nh ki te mi ar z t_la t_ns t_sd t_to t_he t_sw t_nh t_ki t_te t_mi t_ar t_z ) [0, 1, 2] 0 rfl rfl rfl [[o], [An 0, An 1, An 2, An 3, An 4, An 5, An 6, An 7, An 8], [At 0, At 1, At 2, At 3, At 4, At 5, At 6, At 7, At 8]] rfl rfl rfl rfl rfl rfl (Nat.le_of_ble_eq_true rfl) rfl dX5_judge_11 ?_
  refine J_astore_n (lv' := [some (.ref o), some (.int (nI h)), some (.ref (At 0)), none, none, none]) 14 2 dX5_judge_14 rfl (by decide) rfl ?_
  refine J_iconst (v := 0) 15 dX5_judge_15 rfl ?_
  refine J_istore_n (lv' := [some (.ref o), some (.int (nI h)), some (.ref (At 0)), some (.int 0), none, none]) 16 3 dX5_judge_16 rfl (by decide) rfl ?_
  exact cut_17_ ((rc - 0) + 1) 0 te ar sd (Nat.lt_succ_self _) (by first | assumption | omega | rfl) (by first | exact fTe_0 | exact hkt_.1) (by first | exact fAr_0 | exact hkt_.2) (by first | assumption | omega | rfl) (by first | assumption | omega | rfl) (by first | exact hJ.trans (fJu_t (by omega) ⟨by omega, Eq.trans (by assumption) hkA_, Eq.trans (by assumption) hkB_, Eq.trans (by assumption) hkC_⟩) | rfl)
