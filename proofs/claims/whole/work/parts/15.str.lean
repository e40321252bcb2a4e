/-! String constants: what the JDK's own methods answer on them -/
def ch (i k : Nat) : Int32 := (kSb.getD i []).getD k 0
theorem ch_ok : ∀ i, i < 15 → ∀ k, k < 9 → ((ch i k &&& 255).toUInt32 % 65536).toInt32 = ch i k ∧ narrow .char (.int (ch i k)) = .int (ch i k) := by
  have h_ : ∀ i, i < 15 → ∀ k, k < 9 → ((ch i k &&& 255).toUInt32 % 65536).toInt32 = ch i k ∧ (ch i k).toUInt32.toUInt16.toUInt32.toInt32 = ch i k := by decide +kernel
  intro i hi_ k hk_
  refine ⟨(h_ i hi_ k hk_).1, ?_⟩
  have e_ := (h_ i hi_ k hk_).2
  have q_ : narrow .char (.int (ch i k)) = .int (ch i k).toUInt32.toUInt16.toUInt32.toInt32 := rfl
  rw [q_, e_]
theorem kSl_ok : ∀ i, i < 15 → kSl.getD i 0 < 9 := by decide +kernel
section JS
variable {l : Launch} {G : Gd} {B : Bd} {cc : ByteArray} {nL : Nat} {own : String} {lv : List (Option Value)} {st st' rest : List Value} {ws w0 w1 ws' : va_W}
theorem gS {A : Nat → Prop} {U : State} {H : Heap} (h_ : gG G A U H) : vk_S 15 kSl kSb (fun i => G.2.2 (10 + i)) (fun i => G.2.2 (30 + i)) A U H := h_.2.2.2.2.2.2.2.1
theorem J_sgetv (pc : Nat) {index : Nat} {n d : String} {i : Nat} {v : Value} (hi : i < 15) (hw : Cond.fieldLink own index "java/lang/String" n d ∈ TB) (hv : ∀ (A : Nat → Prop) (U : State) (H : Heap), gG G A U H → va_OF "java/lang/String" n d v (G.2.2 (10 + i)) A U H) (hdg : decode cc pc = .ok (.getfield index, 3)) (kk : J l G B cc nL own (pc + 3) lv (v :: st) ws) : J l G B cc nL own pc lv (.ref (G.2.2 (10 + i)) :: st) ws := by
  intro p e s m args below meth c A H locs ls C hP hD hS hl
  exact vk_getf C.1 C.2.1 (hv _ _ _ C.2.2.2.2.2.2.2.2.2.1) hS C.2.2.2.2.1 (C.2.2.2.1 _ hw) (fun x h => h) hdg (kk p e s m args below meth c A H locs ls C hP hD hS hl)
theorem J_slen (pc : Nat) {i : Nat} (hi : i < 15) (hdg : decode cc pc = .ok (.arraylength, 1)) (kk : J l G B cc nL own (pc + 1) lv (.int (nI (kSl.getD i 0)) :: st) ws) : J l G B cc nL own pc lv (.ref (G.2.2 (30 + i)) :: st) ws := by
  intro p e s m args below meth c A H locs ls C hP hD hS hl
  exact va_tlen C.1 C.2.1 ((gS C.2.2.2.2.2.2.2.2.2.1).1 i hi).2.2.2 hS rfl hdg (kk p e s m args below meth c A H locs ls C hP hD hS hl)
theorem J_sbald (pc : Nat) {i : Nat} (j : Nat) {x : Int32} (hi : i < 15) (hx : x = nI j) (hj : j < kSl.getD i 0) (hdg : decode cc pc = .ok (.baload, 1)) (kk : J l G B cc nL own (pc + 1) lv (.int (ch i j) :: st) ws) : J l G B cc nL own pc lv (.int x :: .ref (G.2.2 (30 + i)) :: st) ws := by
  intro p e s m args below meth c A H locs ls C hP hD hS hl
  subst hx
  have h9_ := kSl_ok i hi
  exact va_tb C.1 C.2.1 ((gS C.2.2.2.2.2.2.2.2.2.1).1 i hi).2.2.2 hS (vp_in_nI hj (by omega)) (by rw [nI_clamp (by omega)]; rfl) hdg (kk p e s m args below meth c A H locs ls C hP hD hS hl)
theorem J_getsq (pc : Nat) {D n d ref : String} {index : Nat} (hw : Cond.fieldLink own index ref n d ∈ TB) (hZ : ∀ (A : Nat → Prop) (U : State) (H : Heap), gG G A U H → va_Zq D n d A U H) (href : D = ref) (hdg : decode cc pc = .ok (.getstatic index, 3)) (kn : J l G B cc nL own (pc + 3) lv (.null :: st) ws) (kr : ∀ t : Nat, J l G B cc nL own (pc + 3) lv (.ref t :: st) ws) : J l G B cc nL own pc lv st ws := by
  intro p e s m args below meth c A H locs ls C hP hD hS hl
  rcases hZ _ _ _ C.2.2.2.2.2.2.2.2.2.1 with z_ | ⟨t_, z_⟩
  · exact va_gets C.1 C.2.1 z_ hS C.2.2.2.2.1 (C.2.2.2.1 _ hw) (fun x h => href ▸ h) hdg (kn p e s m args below meth c A H locs ls C hP hD hS hl)
  · exact va_gets C.1 C.2.1 z_ hS C.2.2.2.2.1 (C.2.2.2.1 _ hw) (fun x h => href ▸ h) hdg (kr t_ p e s m args below meth c A H locs ls C hP hD hS hl)
/-- ldc of a String constant of the Tape's -/
theorem J_ldcs (pc i : Nat) {index : Nat} (hi : i < 15) (hx : kSi.getD i 0 = index) (hdg : decode cc pc = .ok (.ldc index, 2)) (kk : J l G B cc nL "GooseArms$Tape" (pc + 2) lv (.ref (G.2.2 (10 + i)) :: st) ws) : J l G B cc nL "GooseArms$Tape" pc lv st ws := by
  intro p e s m args below meth c A H locs ls C hP hD hS hl
  have r_ := C.2.2.2.2.2.2.2.2.2.1.2.2.2.2.2.2.2.2.1 i hi
  rw [hx] at r_
  exact va_ldcS C.1 C.2.1 C.2.2.2.2.1 r_ hdg (kk p e s m args below meth c A H locs ls C hP hD hS hl)
theorem J_callS0 (pc : Nat) {y : MethodName} {bytes : ByteArray} {maxL : Nat} {ret : Option FieldType} {k index : Nat} {i : Nat} {As : List Value} {r : Option Value} {n : Nat} (hi : i < 15) (hcl : y.cls = "java/lang/String") (hC : Ct l G y bytes maxL ret k (.ref (G.2.2 (10 + i)) :: As) [] r []) (hlink : Cond.methodLink own index y ∈ TB) (hin : Cond.instanceMethod y ∈ TB) (hsel : Cond.selects y.cls y y ∈ TB) (hini : Cond.initialized y.cls ∈ TB) (hcode : Cond.code y bytes maxL ret ∈ TB) (hy : okY y n) (hn : As.length = n) (hst : st = As.reverse ++ .ref (G.2.2 (10 + i)) :: rest) (hst' : r.toList ++ rest = st') (hrm : (rest.map fun v => v.category).sum ≤ 8) (hfit : fitR B k maxL = true) (hdg : decode cc pc = .ok (.invokevirtual index, 3))
    (kk : J l G B cc nL own (pc + 3) lv st' ws) : J l G B cc nL own pc lv st ws := by
  intro p e s m args below meth c A H locs ls C hP hD hS hl
  subst hst'
  obtain ⟨hR, hcl_, hsl⟩ := fit_R hfit
  have ht := C.2.2.2.1
  have hcb : CallB B.1 s args own index y bytes maxL ret (.code y bytes maxL ret :: TB) (lvl k) 0 0 n := callB_of n ht (ct_pay ht hcode) rfl rfl rfl (ht _ hini) (ht _ hlink) hy hR
  have hrv := vk_recv (gS C.2.2.2.2.2.2.2.2.2.1) hi hS
  rw [← hcl] at hrv
  refine ct_go (ws' := ws) (w0 := []) (w1 := []) (is := []) (va_runV (y := y) (C := y.cls) (As := As) (rest := rest) ⟨C.1, C.2.1, C.2.2.1, C.2.2.2.2.1, ht⟩ (hC H.size) ⟨hcb, ht _ hin, ht _ hsel⟩ ⟨ct_blind, hrv, ct_before (is := []) hP hD hS C.2.2.2.2.2.2.2.2.1 C.2.2.2.2.2.2.2.1 C.2.2.2.2.2.2.2.2.2.1 rfl rfl⟩ rfl hn hl.1 hst (lv_room hrm) hdg ⟨hcl_, hsl⟩) hP hD hS C.2.2.2.2.2.2.2.2.1 rfl rfl rfl rfl (fun H1 locs1 hP1 hD1 hS1 => kk p e s m args below meth c A H1 locs1 ls C hP1 hD1 hS1 hl)
end JS
theorem J_zretc {l : Launch} {G : Gd} {k : Nat} {r1 : Option Value} {w1 : va_W} {cc : ByteArray} {nL : Nat} {own : String} {lv : List (Option Value)} {ws : va_W} (pc : Nat) {v : Int32} {ty : FieldType} (hn : narrow ty (.int v) = .int v) (hdg : decode cc pc = .ok (.ireturn, 1)) (hr : some (.int v) = r1) (hw : ws = w1) : J l G (bd G k (some ty) r1 w1) cc nL own pc lv [.int v] ws := J_zret pc hn hdg hr hw
set_option maxRecDepth 100000 in
theorem c_coder (l : Launch) (G : Gd) (i : Nat) (hi : i < 15) : Ct l G yJ0_coder_7d493 cJ0_coder_7d493 1 (some (FieldType.byte)) 0 [.ref (G.2.2 (10 + i))] [] (some (.int 0)) [] := by
  refine Ct.of "java/lang/String" [some (.ref (G.2.2 (10 + i)))] (by decide +kernel) rfl (Nat.le_of_ble_eq_true rfl) rfl ?_
  refine J_gets (v := .int 1) 0 w_287 (fun _ _ _ h_ => h_.2.2.2.2.2.2.1.1) rfl dJ0_coder_7d493_0 ?_
  refine J_if_eq (tgt := 13) 3 dJ0_coder_7d493_3 (by decide) (fun c_ => absurd c_ (by decide)) (fun _ => ?_)
  refine J_aload_n 6 0 dJ0_coder_7d493_6 rfl rfl ?_
  refine J_sgetv (v := .int 0) 7 hi w_1316 (fun _ _ _ h_ => ((gS h_).1 i hi).2.1) dJ0_coder_7d493_7 ?_
  refine J_goto (tgt := 14) 10 dJ0_coder_7d493_10 (by decide) ?_
  exact J_zret 14 rfl dJ0_coder_7d493_14 rfl rfl
set_option maxRecDepth 100000 in
theorem c_isLatin1 (l : Launch) (G : Gd) (i : Nat) (hi : i < 15) : Ct l G yJ0_isLatin1_aae02 cJ0_isLatin1_aae02 1 (some (FieldType.boolean)) 0 [.ref (G.2.2 (10 + i))] [] (some (.int 1)) [] := by
  refine Ct.of "java/lang/String" [some (.ref (G.2.2 (10 + i)))] (by decide +kernel) rfl (Nat.le_of_ble_eq_true rfl) rfl ?_
  refine J_gets (v := .int 1) 0 w_287 (fun _ _ _ h_ => h_.2.2.2.2.2.2.1.1) rfl dJ0_isLatin1_aae02_0 ?_
  refine J_if_eq (tgt := 17) 3 dJ0_isLatin1_aae02_3 (by decide) (fun c_ => absurd c_ (by decide)) (fun _ => ?_)
  refine J_aload_n 6 0 dJ0_isLatin1_aae02_6 rfl rfl ?_
  refine J_sgetv (v := .int 0) 7 hi w_1316 (fun _ _ _ h_ => ((gS h_).1 i hi).2.1) dJ0_isLatin1_aae02_7 ?_
  refine J_if_ne (tgt := 17) 10 dJ0_isLatin1_aae02_10 (by decide) (fun c_ => absurd rfl c_) (fun _ => ?_)
  refine J_iconst (v := 1) 13 dJ0_isLatin1_aae02_13 rfl ?_
  refine J_goto (tgt := 18) 14 dJ0_isLatin1_aae02_14 (by decide) ?_
  exact J_zret 18 rfl dJ0_isLatin1_aae02_18 rfl rfl
theorem okY_coder : okY yJ0_coder_7d493 0 := ⟨by decide +kernel, by decide +kernel, by decide +kernel⟩
theorem okY_isLatin1 : okY yJ0_isLatin1_aae02 0 := ⟨by decide +kernel, by decide +kernel, by decide +kernel⟩
theorem okY_length : okY yJ0_length_8abf5 0 := ⟨by decide +kernel, by decide +kernel, by decide +kernel⟩
theorem okY_charAt : okY yJ0_charAt_5068e 1 := ⟨by decide +kernel, by decide +kernel, by decide +kernel⟩
set_option maxRecDepth 100000 in
theorem c_length (l : Launch) (G : Gd) (i : Nat) (hi : i < 15) : Ct l G yJ0_length_8abf5 cJ0_length_8abf5 1 (some (FieldType.int)) 1 [.ref (G.2.2 (10 + i))] [] (some (.int (nI (kSl.getD i 0)))) [] := by
  refine Ct.of "java/lang/String" [some (.ref (G.2.2 (10 + i)))] (by decide +kernel) rfl (Nat.le_of_ble_eq_true rfl) rfl ?_
  refine J_aload_n 0 0 dJ0_length_8abf5_0 rfl rfl ?_
  refine J_sgetv (v := .ref (G.2.2 (30 + i))) 1 hi w_1315 (fun _ _ _ h_ => ((gS h_).1 i hi).2.2.1) dJ0_length_8abf5_1 ?_
  refine J_slen 4 hi dJ0_length_8abf5_4 ?_
  refine J_aload_n 5 0 dJ0_length_8abf5_5 rfl rfl ?_
  refine J_callS0 (rest := [.int (nI (kSl.getD i 0))]) (st' := [.int 0, .int (nI (kSl.getD i 0))]) 6 hi rfl (c_coder l G i hi) w_283 w_284 w_285 w_9 w_286 okY_coder rfl rfl rfl (Nat.le_of_ble_eq_true rfl) rfl dJ0_length_8abf5_6 ?_
  refine J_ishr 9 dJ0_length_8abf5_9 ?_
  refine J_topi (y := nI (kSl.getD i 0)) 10 (sb_shr0 _) ?_
  exact J_iret 10 dJ0_length_8abf5_10 rfl rfl
set_option maxRecDepth 100000 in
theorem c_preN (l : Launch) (G : Gd) (j n : Nat) (hj : j < n) (hn : n < 2147483648) : Ct l G yJ3_checkIndex_8e157 cJ3_checkIndex_8e157 3 (some (FieldType.int)) 0 [.int (nI j), .int (nI n), .null] [] (some (.int (nI j))) [] := by
  refine Ct.of "jdk/internal/util/Preconditions" [some (.int (nI j)), some (.int (nI n)), some .null] (by decide +kernel) rfl (Nat.le_of_ble_eq_true rfl) rfl ?_
  refine J_iload_n 0 0 dJ3_checkIndex_8e157_0 rfl rfl ?_
  refine J_if_lt (tgt := 9) 1 dJ3_checkIndex_8e157_1 (by decide) (fun c_ => absurd c_ (nI_pos (by omega))) (fun _ => ?_)
  refine J_iload_n 4 0 dJ3_checkIndex_8e157_4 rfl rfl ?_
  refine J_iload_n 5 1 dJ3_checkIndex_8e157_5 rfl rfl ?_
  refine J_icmp_lt (tgt := 16) 6 dJ3_checkIndex_8e157_6 (by decide) (fun _ => ?_) (fun c_ => absurd (nI_lt hj hn) c_)
  refine J_iload_n 16 0 dJ3_checkIndex_8e157_16 rfl rfl ?_
  exact J_iret 17 dJ3_checkIndex_8e157_17 rfl rfl
set_option maxRecDepth 100000 in
theorem c_preR (l : Launch) (G : Gd) (j n t : Nat) (hj : j < n) (hn : n < 2147483648) : Ct l G yJ3_checkIndex_8e157 cJ3_checkIndex_8e157 3 (some (FieldType.int)) 0 [.int (nI j), .int (nI n), .ref t] [] (some (.int (nI j))) [] := by
  refine Ct.of "jdk/internal/util/Preconditions" [some (.int (nI j)), some (.int (nI n)), some (.ref t)] (by decide +kernel) rfl (Nat.le_of_ble_eq_true rfl) rfl ?_
  refine J_iload_n 0 0 dJ3_checkIndex_8e157_0 rfl rfl ?_
  refine J_if_lt (tgt := 9) 1 dJ3_checkIndex_8e157_1 (by decide) (fun c_ => absurd c_ (nI_pos (by omega))) (fun _ => ?_)
  refine J_iload_n 4 0 dJ3_checkIndex_8e157_4 rfl rfl ?_
  refine J_iload_n 5 1 dJ3_checkIndex_8e157_5 rfl rfl ?_
  refine J_icmp_lt (tgt := 16) 6 dJ3_checkIndex_8e157_6 (by decide) (fun _ => ?_) (fun c_ => absurd (nI_lt hj hn) c_)
  refine J_iload_n 16 0 dJ3_checkIndex_8e157_16 rfl rfl ?_
  exact J_iret 17 dJ3_checkIndex_8e157_17 rfl rfl
set_option maxRecDepth 100000 in
theorem c_sci (l : Launch) (G : Gd) (j n : Nat) (hj : j < n) (hn : n < 2147483648) : Ct l G yJ0_checkIndex_df160 cJ0_checkIndex_df160 2 none 1 [.int (nI j), .int (nI n)] [] none [] := by
  refine Ct.of "java/lang/String" [some (.int (nI j)), some (.int (nI n))] (by decide +kernel) rfl (Nat.le_of_ble_eq_true rfl) rfl ?_
  refine J_iload_n 0 0 dJ0_checkIndex_df160_0 rfl rfl ?_
  refine J_iload_n 1 1 dJ0_checkIndex_df160_1 rfl rfl ?_
  refine J_getsq 2 w_303 (fun _ _ _ h_ => h_.2.2.2.2.2.2.1.2) rfl dJ0_checkIndex_df160_2 ?_ (fun t => ?_)
  · refine k_RJ0_1059 (ws' := []) (rest := []) (st' := [.int (nI j)]) 5 (c_preN l G j n hj hn) [] rfl rfl [] rfl rfl rfl rfl rfl rfl (Nat.le_of_ble_eq_true rfl) rfl dJ0_checkIndex_df160_5 ?_
    refine J_pop 8 dJ0_checkIndex_df160_8 rfl ?_
    exact J_vret 9 dJ0_checkIndex_df160_9 rfl rfl
  · refine k_RJ0_1059 (ws' := []) (rest := []) (st' := [.int (nI j)]) 5 (c_preR l G j n t hj hn) [] rfl rfl [] rfl rfl rfl rfl rfl rfl (Nat.le_of_ble_eq_true rfl) rfl dJ0_checkIndex_df160_5 ?_
    refine J_pop 8 dJ0_checkIndex_df160_8 rfl ?_
    exact J_vret 9 dJ0_checkIndex_df160_9 rfl rfl
set_option maxRecDepth 100000 in
theorem c_lch (l : Launch) (G : Gd) (i j : Nat) (hi : i < 15) (hj : j < kSl.getD i 0) : Ct l G yJ1_charAt_3b067 cJ1_charAt_3b067 2 (some (FieldType.char)) 2 [.ref (G.2.2 (30 + i)), .int (nI j)] [] (some (.int (ch i j))) [] := by
  have h9_ := kSl_ok i hi
  have q_ := ch_ok i hi j (by omega)
  refine Ct.of "java/lang/StringLatin1" [some (.ref (G.2.2 (30 + i))), some (.int (nI j))] (by decide +kernel) rfl (Nat.le_of_ble_eq_true rfl) rfl ?_
  refine J_iload_n 0 1 dJ1_charAt_3b067_0 rfl rfl ?_
  refine J_aload_n 1 0 dJ1_charAt_3b067_1 rfl rfl ?_
  refine J_slen 2 hi dJ1_charAt_3b067_2 ?_
  refine k_RJ1_9 (ws' := []) (rest := []) (st' := []) 3 (c_sci l G j (kSl.getD i 0) hj (by omega)) [] rfl rfl [] rfl rfl rfl rfl rfl rfl (Nat.le_of_ble_eq_true rfl) rfl dJ1_charAt_3b067_3 ?_
  refine J_aload_n 6 0 dJ1_charAt_3b067_6 rfl rfl ?_
  refine J_iload_n 7 1 dJ1_charAt_3b067_7 rfl rfl ?_
  refine J_sbald 8 j hi rfl hj dJ1_charAt_3b067_8 ?_
  refine J_sipush (v := 255) 9 dJ1_charAt_3b067_9 rfl ?_
  refine J_iand 12 dJ1_charAt_3b067_12 ?_
  refine J_i2c 13 dJ1_charAt_3b067_13 ?_
  refine J_topi (y := ch i j) 14 q_.1 ?_
  exact J_zret 14 q_.2 dJ1_charAt_3b067_14 rfl rfl
set_option maxRecDepth 100000 in
theorem c_charAt (l : Launch) (G : Gd) (i j : Nat) (hi : i < 15) (hj : j < kSl.getD i 0) : Ct l G yJ0_charAt_5068e cJ0_charAt_5068e 2 (some (FieldType.char)) 3 [.ref (G.2.2 (10 + i)), .int (nI j)] [] (some (.int (ch i j))) [] := by
  have h9_ := kSl_ok i hi
  have q_ := ch_ok i hi j (by omega)
  refine Ct.of "java/lang/String" [some (.ref (G.2.2 (10 + i))), some (.int (nI j))] (by decide +kernel) rfl (Nat.le_of_ble_eq_true rfl) rfl ?_
  refine J_aload_n 0 0 dJ0_charAt_5068e_0 rfl rfl ?_
  refine J_callS0 (rest := []) (st' := [.int 1]) 1 hi rfl (c_isLatin1 l G i hi) w_293 w_294 w_295 w_9 w_296 okY_isLatin1 rfl rfl rfl (Nat.le_of_ble_eq_true rfl) rfl dJ0_charAt_5068e_1 ?_
  refine J_if_eq (tgt := 16) 4 dJ0_charAt_5068e_4 (by decide) (fun c_ => absurd c_ (by decide)) (fun _ => ?_)
  refine J_aload_n 7 0 dJ0_charAt_5068e_7 rfl rfl ?_
  refine J_sgetv (v := .ref (G.2.2 (30 + i))) 8 hi w_1315 (fun _ _ _ h_ => ((gS h_).1 i hi).2.2.1) dJ0_charAt_5068e_8 ?_
  refine J_iload_n 11 1 dJ0_charAt_5068e_11 rfl rfl ?_
  refine k_RJ0_495 (ws' := []) (rest := []) (st' := [.int (ch i j)]) 12 (c_lch l G i j hi hj) [] rfl rfl [] rfl rfl rfl rfl rfl rfl (Nat.le_of_ble_eq_true rfl) rfl dJ0_charAt_5068e_12 ?_
  exact J_zret 15 q_.2 dJ0_charAt_5068e_15 rfl rfl
