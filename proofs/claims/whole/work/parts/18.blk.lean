/-! worlds by blocks -/
abbrev wF (bs : List va_W) : va_W := bs.flatten
theorem va_P_mem {D : va_G} {cl : List vw_C} {ws : va_W} {H : Heap} : va_P D cl ws H ↔ ∀ q ∈ ws, va_at D cl q H := by
  constructor
  · intro h_ q_ hq_
    obtain ⟨k_, hk_⟩ := List.getElem?_of_mem hq_
    exact h_ k_ q_ hk_
  · intro h_ k_ q_ hk_
    exact h_ q_ (List.mem_of_getElem? hk_)
theorem va_D_nd {A : Nat → Prop} {ws : va_W} : va_D A ws ↔ (ws.map Prod.fst).Nodup ∧ ∀ q ∈ ws, A q.1 := by
  constructor
  · intro h_
    refine ⟨?_, fun q_ hq_ => ?_⟩
    · unfold List.Nodup
      rw [List.pairwise_iff_getElem]
      intro i_ j_ hi_ hj_ hij_ e_
      have hj2_ : j_ < ws.length := by simpa using hj_
      have hi2_ : i_ < ws.length := by simpa using hi_
      have e1_ : ws[i_]? = some ws[i_] := List.getElem?_eq_getElem hi2_
      have e2_ : ws[j_]? = some ws[j_] := List.getElem?_eq_getElem hj2_
      have := h_.1 i_ j_ _ _ e1_ e2_ (by simpa using e_)
      omega
    · obtain ⟨k_, hk_⟩ := List.getElem?_of_mem hq_
      exact h_.2 k_ q_ hk_
  · rintro ⟨hn_, ha_⟩
    refine ⟨fun i_ j_ p_ q_ hi_ hj_ e_ => ?_, fun k_ q_ hk_ => ha_ q_ (List.mem_of_getElem? hk_)⟩
    unfold List.Nodup at hn_
    rw [List.pairwise_iff_getElem] at hn_
    obtain ⟨hil_, ei_⟩ := List.getElem?_eq_some_iff.mp hi_
    obtain ⟨hjl_, ej_⟩ := List.getElem?_eq_some_iff.mp hj_
    rcases Nat.lt_trichotomy i_ j_ with z_ | z_ | z_
    · have := hn_ i_ j_ (by simpa using hil_) (by simpa using hjl_) z_
      simp only [List.getElem_map] at this
      rw [ei_, ej_] at this
      exact absurd e_ this
    · exact z_
    · have := hn_ j_ i_ (by simpa using hjl_) (by simpa using hil_) z_
      simp only [List.getElem_map] at this
      rw [ei_, ej_] at this
      exact absurd e_.symm this
/-- blocks put in at places -/
def updB : List va_W → List Nat → List va_W → List va_W
  | bs, i :: is, e :: es => updB (bs.set i e) is es
  | bs, _, _ => bs
theorem updB_at (k_ : Nat) (b_ : va_W) : ∀ (is_ : List Nat) (w_ bs_ : List va_W), (updB bs_ is_ w_)[k_]? = some b_ → (∃ j : Nat, is_[j]? = some k_ ∧ w_[j]? = some b_) ∨ ((∀ j : Nat, j < w_.length → ¬ is_[j]? = some k_) ∧ bs_[k_]? = some b_) := by
  intro is_
  induction is_ with
  | nil => intro w_ bs_ h_; exact Or.inr ⟨fun j _ z_ => by simp at z_, by cases w_ <;> exact h_⟩
  | cons i_ is_ ih_ =>
    intro w_ bs_ h_
    cases w_ with
    | nil => exact Or.inr ⟨fun j hj_ => by simp at hj_, h_⟩
    | cons e_ es_ =>
      rcases ih_ es_ (bs_.set i_ e_) h_ with ⟨j, h1_, h2_⟩ | ⟨h1_, h2_⟩
      · exact Or.inl ⟨j + 1, by simpa using h1_, by simpa using h2_⟩
      · by_cases hk_ : i_ = k_
        · subst hk_
          by_cases hl_ : i_ < bs_.length
          · rw [List.getElem?_set_self hl_] at h2_
            cases h2_
            exact Or.inl ⟨0, by simp, by simp⟩
          · have h3_ := (List.getElem?_eq_some_iff.mp h2_).1
            simp at h3_
            exact absurd h3_ hl_
        · rw [List.getElem?_set_ne hk_] at h2_
          refine Or.inr ⟨fun j hj_ => ?_, h2_⟩
          cases j with
          | zero => simpa using hk_
          | succ j => simpa using h1_ j (by simpa using hj_)
theorem pickB {bs w0s : List va_W} {ib : List Nat} (h_ : ib.map (fun i => bs[i]?) = w0s.map some) {j_ : Nat} {b_ : va_W} (hj_ : w0s[j_]? = some b_) : ∃ i, ib[j_]? = some i ∧ bs[i]? = some b_ := by
  have h1 : (ib.map (fun i => bs[i]?))[j_]? = some (some b_) := by rw [h_, List.getElem?_map, hj_]; rfl
  rw [List.getElem?_map] at h1
  cases hi : ib[j_]? with
  | none => rw [hi] at h1; cases h1
  | some i => rw [hi] at h1; exact ⟨i, rfl, Option.some.inj h1⟩
theorem updB_fst : ∀ (is_ : List Nat) (w_ bs_ : List va_W), (∀ (j i : Nat) (y_ : va_W), is_[j]? = some i → w_[j]? = some y_ → (bs_.map (fun b => b.map Prod.fst))[i]? = some (y_.map Prod.fst)) → (updB bs_ is_ w_).map (fun b => b.map Prod.fst) = bs_.map (fun b => b.map Prod.fst) := by
  intro is_
  induction is_ with
  | nil => intro w_ bs_ _; cases w_ <;> rfl
  | cons i_ is_ ih_ =>
    intro w_ bs_ h_
    cases w_ with
    | nil => rfl
    | cons e_ es_ =>
      have h0_ := h_ 0 i_ e_ rfl rfl
      have hs_ : (bs_.set i_ e_).map (fun b => b.map Prod.fst) = bs_.map (fun b => b.map Prod.fst) := by
        rw [List.map_set]
        apply List.ext_getElem?
        intro n_
        by_cases z_ : i_ = n_
        · subst z_
          rw [List.getElem?_set_self (List.getElem?_eq_some_iff.mp h0_).1]; exact h0_.symm
        · rw [List.getElem?_set_ne z_]
      show (updB (bs_.set i_ e_) is_ es_).map (fun b => b.map Prod.fst) = _
      rw [ih_ es_ (bs_.set i_ e_) (fun j_ i2_ y_ h1_ h2_ => by rw [hs_]; exact h_ (j_ + 1) i2_ y_ h1_ h2_), hs_]
theorem fst_flat (bs : List va_W) : (wF bs).map Prod.fst = (bs.map (fun b => b.map Prod.fst)).flatten := List.map_flatten ..
/-- what a call needs and leaves, by blocks -/
theorem blk_sub {bs w0s : List va_W} {ib : List Nat} (h0 : ib.map (fun i => bs[i]?) = w0s.map some) : ∀ q ∈ wF w0s, q ∈ wF bs := by
  intro q_ hq_
  obtain ⟨b_, hb_, hq_⟩ := List.mem_flatten.mp hq_
  obtain ⟨j_, hj_⟩ := List.getElem?_of_mem hb_
  obtain ⟨i_, -, h2_⟩ := pickB h0 hj_
  exact List.mem_flatten.mpr ⟨b_, List.mem_of_getElem? h2_, hq_⟩
theorem blk_free {A0 : Nat → Prop} {bs w0s : List va_W} {ib : List Nat} {H0 H : Heap} {locs : List Loc} (hD : va_D A0 (wF bs)) (hS : va_S A0 H0 H locs) (hA : ∀ q, H0.size ≤ q → A0 q) (h0 : ib.map (fun i => bs[i]?) = w0s.map some) : ∀ q, va_A (wF w0s) H.size q → A0 q := by
  intro q_ h_
  rcases h_ with ⟨k_, e_, h_⟩ | h_
  · exact (va_D_nd.mp hD).2 (q_, e_) (blk_sub h0 _ (List.mem_of_getElem? h_))
  · exact hA q_ (Nat.le_trans hS.1 h_)
theorem blk_nd {bs w0s : List va_W} {ib : List Nat} (hn : ((wF bs).map Prod.fst).Nodup) (h0 : ib.map (fun i => bs[i]?) = w0s.map some) (hib : va_nd ib = true) : ((wF w0s).map Prod.fst).Nodup := by
  rw [fst_flat] at hn ⊢
  unfold List.Nodup at hn ⊢
  rw [List.pairwise_flatten] at hn ⊢
  refine ⟨fun l_ hl_ => ?_, ?_⟩
  · obtain ⟨b_, hb_, rfl⟩ := List.mem_map.mp hl_
    obtain ⟨j_, hj_⟩ := List.getElem?_of_mem hb_
    obtain ⟨i_, -, h2_⟩ := pickB h0 hj_
    exact hn.1 _ (List.mem_map.mpr ⟨b_, List.mem_of_getElem? h2_, rfl⟩)
  · rw [List.pairwise_iff_getElem] at hn ⊢
    intro i_ j_ hi_ hj_ hij_
    have hi2_ : i_ < w0s.length := by simpa using hi_
    have hj2_ : j_ < w0s.length := by simpa using hj_
    obtain ⟨a_, g1_, g2_⟩ := pickB h0 (List.getElem?_eq_getElem hi2_)
    obtain ⟨b_, g3_, g4_⟩ := pickB h0 (List.getElem?_eq_getElem hj2_)
    have hab_ : a_ ≠ b_ := fun z_ => by
      subst z_
      have := va_nd_inj ib hib i_ j_ a_ g1_ g3_
      omega
    obtain ⟨ha_, e2_⟩ := List.getElem?_eq_some_iff.mp g2_
    obtain ⟨hb_, e4_⟩ := List.getElem?_eq_some_iff.mp g4_
    simp only [List.getElem_map]
    rw [← e2_, ← e4_]
    rcases Nat.lt_or_gt_of_ne hab_ with z_ | z_
    · have h2_ := hn.2 a_ b_ (by simpa using ha_) (by simpa using hb_) z_
      simp only [List.getElem_map] at h2_
      exact h2_
    · have h2_ := hn.2 b_ a_ (by simpa using hb_) (by simpa using ha_) z_
      simp only [List.getElem_map] at h2_
      exact fun x_ hx_ y_ hy_ e_ => h2_ y_ hy_ x_ hx_ e_.symm
theorem blk_before {G : Gd} {A : Nat → Prop} {s : State} {av : List Value} {bs w0s : List va_W} {ib : List Nat} {H : Heap} {locs : List Loc} (hP : va_P G.1 vwCl (wF bs) H) (hD : va_D A (wF bs)) (hS : va_S A s.heap H locs) (hA : ∀ q, s.heap.size ≤ q → A q) (hK : va_K G.1 vwCl (gT G) s) (hG : gG G A s s.heap) (h0 : ib.map (fun i => bs[i]?) = w0s.map some) (hib : va_nd ib = true) : ∀ U : State, U.heap = H → s.WarmedH U.vm → CtPc G av (wF w0s) H.size av.toArray U := by
  intro U hU hW
  have hfree := blk_free hD hS hA h0
  have hP0_ : va_P G.1 vwCl (wF w0s) H := va_P_mem.mpr (fun q_ hq_ => va_P_mem.mp hP q_ (blk_sub h0 q_ hq_))
  refine ⟨rfl, by rw [hU], by rw [hU]; exact hP0_, va_K.moved hW.alike hK, va_D_nd.mpr ⟨blk_nd (va_D_nd.mp hD).1 h0 hib, fun q_ hq_ => ?_⟩, ?_⟩
  · obtain ⟨k_, hk_⟩ := List.getElem?_of_mem hq_
    exact Or.inl ⟨k_, q_.2, hk_⟩
  · rw [hU]
    exact ((hG.kept (H1 := H) (fun a h1 h2 => hS.2.1 a h1 h2)).narrow hfree).warm hW
theorem blk_after {G : Gd} {A : Nat → Prop} {bs w0s w1s bs' : List va_W} {ib : List Nat} {H0 H H1 : Heap} {locs : List Loc} (hP : va_P G.1 vwCl (wF bs) H) (hD : va_D A (wF bs)) (hS : va_S A H0 H locs) (hA : ∀ q, H0.size ≤ q → A q) (h0 : ib.map (fun i => bs[i]?) = w0s.map some) (hf : w1s.map (fun b => b.map Prod.fst) = w0s.map (fun b => b.map Prod.fst)) (hw : updB bs ib w1s = bs')
    (hP1 : va_P G.1 vwCl (wF w1s) H1) (hz : H.size ≤ H1.size) (hk : ∀ q : Nat, q < H.size → ¬ va_A (wF w0s) H.size q → H1[q]? = H[q]?) : va_P G.1 vwCl (wF bs') H1 ∧ va_D A (wF bs') ∧ va_S A H0 H1 locs := by
  have hfree := blk_free hD hS hA h0
  have hlen_ : w1s.length = w0s.length := by have := congrArg List.length hf; simpa using this
  refine ⟨va_P_mem.mpr (fun q_ hq_ => ?_), ?_, Nat.le_trans hS.1 hz, fun q h1 h2 => by rw [hk q (Nat.lt_of_lt_of_le h1 hS.1) (fun z => h2 (hfree q z))]; exact hS.2.1 q h1 h2, hS.2.2⟩
  · obtain ⟨b_, hb_, hqb_⟩ := List.mem_flatten.mp hq_
    obtain ⟨k_, hk_⟩ := List.getElem?_of_mem hb_
    rw [← hw] at hk_
    rcases updB_at k_ b_ ib w1s bs hk_ with ⟨j_, -, h2_⟩ | ⟨h1_, h2_⟩
    · exact va_P_mem.mp hP1 q_ (List.mem_flatten.mpr ⟨b_, List.mem_of_getElem? h2_, hqb_⟩)
    · have hqm_ : q_ ∈ wF bs := List.mem_flatten.mpr ⟨b_, List.mem_of_getElem? h2_, hqb_⟩
      have hat_ := va_P_mem.mp hP q_ hqm_
      refine hat_.kept (hk q_.1 hat_.lt (fun z_ => ?_))
      rcases z_ with ⟨m_, e_, z_⟩ | z_
      · obtain ⟨b2_, hb2_, hq2_⟩ := List.mem_flatten.mp (List.mem_of_getElem? z_)
        obtain ⟨j_, hj_⟩ := List.getElem?_of_mem hb2_
        obtain ⟨i_, g1_, g2_⟩ := pickB h0 hj_
        have hki_ : k_ ≠ i_ := fun y_ => h1_ j_ (by rw [hlen_]; exact (List.getElem?_eq_some_iff.mp hj_).1) (by rw [y_]; exact g1_)
        have hn_ := (va_D_nd.mp hD).1
        rw [fst_flat] at hn_
        unfold List.Nodup at hn_
        rw [List.pairwise_flatten] at hn_
        have hpw_ := List.pairwise_iff_getElem.mp hn_.2
        obtain ⟨hkl_, ek_⟩ := List.getElem?_eq_some_iff.mp h2_
        obtain ⟨hil_, ei_⟩ := List.getElem?_eq_some_iff.mp g2_
        have m1_ : q_.1 ∈ (bs[k_]).map Prod.fst := by rw [ek_]; exact List.mem_map.mpr ⟨q_, hqb_, rfl⟩
        have m2_ : q_.1 ∈ (bs[i_]).map Prod.fst := by rw [ei_]; exact List.mem_map.mpr ⟨(q_.1, e_), hq2_, rfl⟩
        rcases Nat.lt_or_gt_of_ne hki_ with y_ | y_
        · have d_ := hpw_ k_ i_ (by simpa using hkl_) (by simpa using hil_) y_
          simp only [List.getElem_map] at d_
          exact d_ _ m1_ _ m2_ rfl
        · have d_ := hpw_ i_ k_ (by simpa using hil_) (by simpa using hkl_) y_
          simp only [List.getElem_map] at d_
          exact d_ _ m2_ _ m1_ rfl
      · exact absurd hat_.lt (Nat.not_lt.mpr z_)
  · refine hD.same ?_
    rw [fst_flat, fst_flat, ← hw]
    rw [updB_fst ib w1s bs]
    intro j_ i_ y_ h1_ h2_
    have e_ : (w1s.map (fun b => b.map Prod.fst))[j_]? = some (y_.map Prod.fst) := by rw [List.getElem?_map, h2_]; rfl
    rw [hf, List.getElem?_map] at e_
    cases hw0_ : w0s[j_]? with
    | none => rw [hw0_] at e_; cases e_
    | some b_ =>
      rw [hw0_] at e_
      obtain ⟨i2_, g1_, g2_⟩ := pickB h0 hw0_
      rw [h1_] at g1_
      cases g1_
      rw [List.getElem?_map, g2_]
      exact e_
theorem blk_go {p : Program} {l : Launch} {e : Env} {R : Room} {s : State} {m : MethodId} {args : Array Value} {below : List Frame} {meth : Method} {c : Code} {H : Heap} {locs : List Loc} {cells slots : Nat} {Q : State → Prop} {pc : Nat} {ls : Array Slot} {st0 rest : List Value} {a : Array Value}
    {G : Gd} {A : Nat → Prop} {bs w0s w1s bs' : List va_W} {ib : List Nat} {r : Option Value} (hr : va_Run p l e R s m args below meth c H locs cells slots 0 0 (F0 m pc ls st0) rest (CtQc G (wF w0s) (wF w1s) r H.size a) (va_A (wF w0s) H.size))
    (hP : va_P G.1 vwCl (wF bs) H) (hD : va_D A (wF bs)) (hS : va_S A s.heap H locs) (hA : ∀ q, s.heap.size ≤ q → A q) (h0 : ib.map (fun i => bs[i]?) = w0s.map some) (hf : w1s.map (fun b => b.map Prod.fst) = w0s.map (fun b => b.map Prod.fst)) (hw : updB bs ib w1s = bs')
    (kk : ∀ (H1 : Heap) (locs1 : List Loc), va_P G.1 vwCl (wF bs') H1 → va_D A (wF bs') → va_S A s.heap H1 locs1 → W p l e R s m args below meth c H1 locs1 cells slots Q (F0 m (pc + 3) ls (r.toList ++ rest))) : W p l e R s m args below meth c H locs cells slots Q (F0 m pc ls st0) := by
  intro T hT X
  obtain ⟨v, st₀, t, T', L, g0, X', hL, e1, e2, ⟨hv, hp, hz, hk⟩, st⟩ := hr T hT X
  cases hv
  rw [g0] at hz hk
  obtain ⟨hP1, hD1, hS1⟩ := blk_after (H1 := T'.heap) hP hD hS hA h0 hf hw (by rw [e1]; exact hp) (by rw [e1]; exact hz) (fun q h1 h2 => by rw [e1]; exact hk q h1 h2)
  have hfree := blk_free hD hS hA h0
  obtain ⟨t2, a1, b1⟩ := kk T'.heap (locs ++ L) hP1 hD1 ⟨hS1.1, hS1.2.1, fun q hq => by
    rcases List.mem_append.mp hq with h | h
    · exact hS.2.2 q h
    · exact hfree _ (hL q h)⟩ T' rfl X'
  exact ⟨t2, st t2 a1, b1⟩
theorem blk_goP {p : Program} {l : Launch} {e : Env} {R : Room} {s : State} {m : MethodId} {args : Array Value} {below : List Frame} {meth : Method} {c : Code} {H : Heap} {locs : List Loc} {cells slots : Nat} {Q : State → Prop} {pc : Nat} {ls : Array Slot} {st0 rest : List Value} {a : Array Value}
    {G : Gd} {A : Nat → Prop} {bs w0s : List va_W} {P : va_W → Prop} {ib : List Nat} {r : Option Value} {as : List (List Nat)} (hr : va_Run p l e R s m args below meth c H locs cells slots 0 0 (F0 m pc ls st0) rest (CtQP G (wF w0s) P r H.size a) (va_A (wF w0s) H.size))
    (hP : va_P G.1 vwCl (wF bs) H) (hD : va_D A (wF bs)) (hS : va_S A s.heap H locs) (hA : ∀ q, s.heap.size ≤ q → A q) (h0 : ib.map (fun i => bs[i]?) = w0s.map some) (hf0 : w0s.map (fun b => b.map Prod.fst) = as)
    (Pb : List va_W → Prop) (hPb : ∀ w1, P w1 → ∃ w1s : List va_W, w1 = wF w1s ∧ Pb w1s ∧ w1s.map (fun b => b.map Prod.fst) = as)
    (kk : ∀ (w1s : List va_W) (H1 : Heap) (locs1 : List Loc), Pb w1s → va_P G.1 vwCl (wF (updB bs ib w1s)) H1 → va_D A (wF (updB bs ib w1s)) → va_S A s.heap H1 locs1 → W p l e R s m args below meth c H1 locs1 cells slots Q (F0 m (pc + 3) ls (r.toList ++ rest))) : W p l e R s m args below meth c H locs cells slots Q (F0 m pc ls st0) := by
  intro T hT X
  obtain ⟨v, st₀, t, T', L, g0, X', hL, e1, e2, ⟨hv, ⟨w1, hw1, hp⟩, hz, hk⟩, st⟩ := hr T hT X
  cases hv
  rw [g0] at hz hk
  obtain ⟨w1s, rfl, hw2, hf1⟩ := hPb w1 hw1
  obtain ⟨hP1, hD1, hS1⟩ := blk_after (H1 := T'.heap) hP hD hS hA h0 (hf1.trans hf0.symm) rfl (by rw [e1]; exact hp) (by rw [e1]; exact hz) (fun q h1 h2 => by rw [e1]; exact hk q h1 h2)
  have hfree := blk_free hD hS hA h0
  obtain ⟨t2, a1, b1⟩ := kk w1s T'.heap (locs ++ L) hw2 hP1 hD1 ⟨hS1.1, hS1.2.1, fun q hq => by
    rcases List.mem_append.mp hq with h | h
    · exact hS.2.2 q h
    · exact hfree _ (hL q h)⟩ T' rfl X'
  exact ⟨t2, st t2 a1, b1⟩
section JBL
variable {l : Launch} {G : Gd} {B : Bd} {cc : ByteArray} {nL : Nat} {own : String} {lv : List (Option Value)} {st st' rest : List Value} {bs w0s w1s bs' : List va_W}
theorem J_bV (pc : Nat) {y : MethodName} {bytes : ByteArray} {maxL : Nat} {ret : Option FieldType} {k n index : Nat} {b : Nat} {As : List Value} {r : Option Value} (hC : Ct l G y bytes maxL ret k (.ref b :: As) (wF w0s) r (wF w1s)) (hlink : Cond.methodLink own index y ∈ TB) (hin : Cond.instanceMethod y ∈ TB) (hsel : Cond.selects y.cls y y ∈ TB) (hini : Cond.initialized y.cls ∈ TB) (hcode : Cond.code y bytes maxL ret ∈ TB) (hy : okY y n)
    (ib : List Nat) (qr ci : Nat) {T : u_T} {N : Nat} (hci : vwCl[ci]? = some (y.cls, T, N)) {fs : List Value} (hb : (wF bs)[qr]? = some (b, .inr (ci, fs))) (h0 : ib.map (fun i => bs[i]?) = w0s.map some) (hnd : va_nd ib = true) (as : List (List Nat)) (hf0 : w0s.map (fun b => b.map Prod.fst) = as) (hf1 : w1s.map (fun b => b.map Prod.fst) = as) (hw : updB bs ib w1s = bs') (hn : As.length = n) (hst : st = As.reverse ++ .ref b :: rest) (hst' : r.toList ++ rest = st') (hrm : (rest.map fun v => v.category).sum ≤ 8) (hfit : fitR B k maxL = true) (hdg : decode cc pc = .ok (.invokevirtual index, 3))
    (kk : J l G B cc nL own (pc + 3) lv st' (wF bs')) : J l G B cc nL own pc lv st (wF bs) := by
  intro p e s m args below meth c A H locs ls C hP hD hS hl
  subst hst'
  obtain ⟨hR, hcl, hsl⟩ := fit_R hfit
  have ht := C.2.2.2.1
  have hcb : CallB B.1 s args own index y bytes maxL ret (.code y bytes maxL ret :: TB) (lvl k) 0 0 n := callB_of n ht (ct_pay ht hcode) rfl rfl rfl (ht _ hini) (ht _ hlink) hy hR
  exact blk_go (va_runV (y := y) (C := y.cls) (As := As) (rest := rest) ⟨C.1, C.2.1, C.2.2.1, C.2.2.2.2.1, ht⟩ (hC H.size) ⟨hcb, ht _ hin, ht _ hsel⟩ ⟨ct_blind, va_recv C.2.2.2.2.2.2.2.1 hP hci hb, blk_before hP hD hS C.2.2.2.2.2.2.2.2.1 C.2.2.2.2.2.2.2.1 C.2.2.2.2.2.2.2.2.2.1 h0 hnd⟩ rfl hn hl.1 hst (lv_room hrm) hdg ⟨hcl, hsl⟩) hP hD hS C.2.2.2.2.2.2.2.2.1 h0 (hf1.trans hf0.symm) hw (fun H1 locs1 hP1 hD1 hS1 => kk p e s m args below meth c A H1 locs1 ls C hP1 hD1 hS1 hl)
theorem J_bS (pc : Nat) {y : MethodName} {bytes : ByteArray} {maxL : Nat} {ret : Option FieldType} {k n index : Nat} {As : List Value} {r : Option Value} (hC : Ct l G y bytes maxL ret k As (wF w0s) r (wF w1s)) (hlink : Cond.methodLink own index y ∈ TB) (hstat : Cond.static y ∈ TB) (hini : Cond.initialized y.cls ∈ TB) (hcode : Cond.code y bytes maxL ret ∈ TB) (hy : okY y n)
    (ib : List Nat) (h0 : ib.map (fun i => bs[i]?) = w0s.map some) (hnd : va_nd ib = true) (as : List (List Nat)) (hf0 : w0s.map (fun b => b.map Prod.fst) = as) (hf1 : w1s.map (fun b => b.map Prod.fst) = as) (hw : updB bs ib w1s = bs') (hn : As.length = n) (hst : st = As.reverse ++ rest) (hst' : r.toList ++ rest = st') (hrm : (rest.map fun v => v.category).sum ≤ 8) (hfit : fitR B k maxL = true) (hdg : decode cc pc = .ok (.invokestatic index, 3))
    (kk : J l G B cc nL own (pc + 3) lv st' (wF bs')) : J l G B cc nL own pc lv st (wF bs) := by
  intro p e s m args below meth c A H locs ls C hP hD hS hl
  subst hst'
  obtain ⟨hR, hcl, hsl⟩ := fit_R hfit
  have ht := C.2.2.2.1
  have hcb : CallB B.1 s args own index y bytes maxL ret (.code y bytes maxL ret :: TB) (lvl k) 0 0 n := callB_of n ht (ct_pay ht hcode) rfl rfl rfl (ht _ hini) (ht _ hlink) hy hR
  exact blk_go (va_runS (y := y) (As := As) (rest := rest) ⟨C.1, C.2.1, C.2.2.1, C.2.2.2.2.1, ht⟩ (hC H.size) ⟨hcb, ht _ hstat⟩ ⟨ct_blind, blk_before hP hD hS C.2.2.2.2.2.2.2.2.1 C.2.2.2.2.2.2.2.1 C.2.2.2.2.2.2.2.2.2.1 h0 hnd⟩ rfl hn hl.1 hst (lv_room hrm) hdg ⟨hcl, hsl⟩) hP hD hS C.2.2.2.2.2.2.2.2.1 h0 (hf1.trans hf0.symm) hw (fun H1 locs1 hP1 hD1 hS1 => kk p e s m args below meth c A H1 locs1 ls C hP1 hD1 hS1 hl)
theorem J_bSN (pc : Nat) {y : MethodName} {bytes : ByteArray} {maxL : Nat} {ret : Option FieldType} {k n index : Nat} {As : List Value} {r : Option Value} {host : String} (hC : Ct l G y bytes maxL ret k As (wF w0s) r (wF w1s)) (hlink : ∀ (A : Nat → Prop) (U : State) (H : Heap), gG G A U H → va_Nw (.methodLinkNest own index y host) U) (hstat : Cond.static y ∈ TB) (hini : Cond.initialized y.cls ∈ TB) (hcode : Cond.code y bytes maxL ret ∈ TB) (hy : okY y n)
    (ib : List Nat) (h0 : ib.map (fun i => bs[i]?) = w0s.map some) (hnd : va_nd ib = true) (as : List (List Nat)) (hf0 : w0s.map (fun b => b.map Prod.fst) = as) (hf1 : w1s.map (fun b => b.map Prod.fst) = as) (hw : updB bs ib w1s = bs') (hn : As.length = n) (hst : st = As.reverse ++ rest) (hst' : r.toList ++ rest = st') (hrm : (rest.map fun v => v.category).sum ≤ 8) (hfit : fitR B k maxL = true) (hdg : decode cc pc = .ok (.invokestatic index, 3))
    (kk : J l G B cc nL own (pc + 3) lv st' (wF bs')) : J l G B cc nL own pc lv st (wF bs) := by
  intro p e s m args below meth c A H locs ls C hP hD hS hl
  subst hst'
  obtain ⟨hR, hcl, hsl⟩ := fit_R hfit
  have ht := C.2.2.2.1
  have hcn : va_CN B.1 s args own index y host bytes maxL ret (.code y bytes maxL ret :: TB) (lvl k) 0 0 n := va_cnB n ht (ct_pay ht hcode) rfl rfl rfl (hlink _ _ _ C.2.2.2.2.2.2.2.2.2.1) (ht _ hini) hy hR
  exact blk_go (va_runSN (y := y) (As := As) (rest := rest) ⟨C.1, C.2.1, C.2.2.1, C.2.2.2.2.1, ht⟩ (hC H.size) ⟨hcn, ht _ hstat, trivial⟩ ⟨ct_blind, blk_before hP hD hS C.2.2.2.2.2.2.2.2.1 C.2.2.2.2.2.2.2.1 C.2.2.2.2.2.2.2.2.2.1 h0 hnd⟩ rfl hn hl.1 hst (lv_room hrm) hdg ⟨hcl, hsl⟩) hP hD hS C.2.2.2.2.2.2.2.2.1 h0 (hf1.trans hf0.symm) hw (fun H1 locs1 hP1 hD1 hS1 => kk p e s m args below meth c A H1 locs1 ls C hP1 hD1 hS1 hl)
/-- the same where only a property is told of the world behind; its blocks are named by Pb -/
theorem J_bVP (pc : Nat) {y : MethodName} {bytes : ByteArray} {maxL : Nat} {ret : Option FieldType} {k n index : Nat} {b : Nat} {As : List Value} {r : Option Value} {P : va_W → Prop} (hC : CtP l G y bytes maxL ret k (.ref b :: As) (wF w0s) r P) (hlink : Cond.methodLink own index y ∈ TB) (hin : Cond.instanceMethod y ∈ TB) (hsel : Cond.selects y.cls y y ∈ TB) (hini : Cond.initialized y.cls ∈ TB) (hcode : Cond.code y bytes maxL ret ∈ TB) (hy : okY y n)
    (ib : List Nat) (qr ci : Nat) {T : u_T} {N : Nat} (hci : vwCl[ci]? = some (y.cls, T, N)) {fs : List Value} (hb : (wF bs)[qr]? = some (b, .inr (ci, fs))) (h0 : ib.map (fun i => bs[i]?) = w0s.map some) (hnd : va_nd ib = true) (as : List (List Nat)) (hf0 : w0s.map (fun b => b.map Prod.fst) = as) (Pb : List va_W → Prop) (hPb : ∀ w1, P w1 → ∃ w1s : List va_W, w1 = wF w1s ∧ Pb w1s ∧ w1s.map (fun b => b.map Prod.fst) = as) (hn : As.length = n) (hst : st = As.reverse ++ .ref b :: rest) (hst' : r.toList ++ rest = st') (hrm : (rest.map fun v => v.category).sum ≤ 8) (hfit : fitR B k maxL = true) (hdg : decode cc pc = .ok (.invokevirtual index, 3))
    (kk : ∀ w1s, Pb w1s → J l G B cc nL own (pc + 3) lv st' (wF (updB bs ib w1s))) : J l G B cc nL own pc lv st (wF bs) := by
  intro p e s m args below meth c A H locs ls C hP hD hS hl
  subst hst'
  obtain ⟨hR, hcl, hsl⟩ := fit_R hfit
  have ht := C.2.2.2.1
  have hcb : CallB B.1 s args own index y bytes maxL ret (.code y bytes maxL ret :: TB) (lvl k) 0 0 n := callB_of n ht (ct_pay ht hcode) rfl rfl rfl (ht _ hini) (ht _ hlink) hy hR
  exact blk_goP (va_runV (y := y) (C := y.cls) (As := As) (rest := rest) ⟨C.1, C.2.1, C.2.2.1, C.2.2.2.2.1, ht⟩ (hC H.size) ⟨hcb, ht _ hin, ht _ hsel⟩ ⟨ct_blind, va_recv C.2.2.2.2.2.2.2.1 hP hci hb, blk_before hP hD hS C.2.2.2.2.2.2.2.2.1 C.2.2.2.2.2.2.2.1 C.2.2.2.2.2.2.2.2.2.1 h0 hnd⟩ rfl hn hl.1 hst (lv_room hrm) hdg ⟨hcl, hsl⟩) hP hD hS C.2.2.2.2.2.2.2.2.1 h0 hf0 Pb hPb (fun w1s H1 locs1 hw hP1 hD1 hS1 => kk w1s hw p e s m args below meth c A H1 locs1 ls C hP1 hD1 hS1 hl)
end JBL
