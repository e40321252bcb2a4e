/-! both at once: what holds of the two worlds, and a call on each -/
theorem CtP.fr {l : Launch} {G : Gd} {y : MethodName} {cc : ByteArray} {nL : Nat} {ret : Option FieldType} {k : Nat} {av : List Value} {bs w0s : List va_W} {r : Option Value} {P P' : va_W → Prop} (ib : List Nat) (hC : CtP l G y cc nL ret k av (wF w0s) r P) (h0 : ib.map (fun i => bs[i]?) = w0s.map some) (hib : va_nd ib = true) (as : List (List Nat)) (hf0 : w0s.map (fun b => b.map Prod.fst) = as) (hP' : ∀ w1, P w1 → ∃ w1s : List va_W, w1 = wF w1s ∧ w1s.map (fun b => b.map Prod.fst) = as ∧ P' (wF (updB bs ib w1s))) : CtP l G y cc nL ret k av (wF bs) r P' := by
  intro sz p e a1 a2 a3 s m args below a4 a5 a6 a7
  obtain ⟨hav, hsz, hP, hK, hD, hG⟩ := a6
  have hsub : ∀ q, va_A (wF w0s) sz q → va_A (wF bs) sz q := by
    intro q hq
    rcases hq with ⟨k_, e_, h_⟩ | h_
    · obtain ⟨k2, hk2⟩ := List.getElem?_of_mem (blk_sub h0 _ (List.mem_of_getElem? h_))
      exact Or.inl ⟨k2, e_, hk2⟩
    · exact Or.inr h_
  have hP0 : va_P G.1 vwCl (wF w0s) s.heap := va_P_mem.mpr (fun q hq => va_P_mem.mp hP q (blk_sub h0 _ hq))
  have hD0 : va_D (va_A (wF w0s) sz) (wF w0s) := va_D_nd.mpr ⟨blk_nd (va_D_nd.mp hD).1 h0 hib, fun q hq => by
    obtain ⟨k2, hk2⟩ := List.getElem?_of_mem hq
    exact Or.inl ⟨k2, q.2, hk2⟩⟩
  obtain ⟨t, o, b1, b2, b3, ⟨c1, ⟨w1, hw1, hp1⟩, hz, hk⟩, L, c3, c4⟩ := hC sz p e a1 a2 a3 s m args below a4 a5 ⟨hav, hsz, hP0, hK, hD0, hG.narrow hsub⟩ a7
  obtain ⟨w1s, rfl, hf1, hp'⟩ := hP' w1 hw1
  refine ⟨t, o, b1, b2, b3, ⟨c1, ⟨_, hp', ?_⟩, hz, fun q h1 h2 => hk q h1 (fun z => h2 (hsub q z))⟩, L, c3, fun q hq => hsub _ (c4 q hq)⟩
  exact (blk_after (A := va_A (wF bs) sz) (H0 := s.heap) (H := s.heap) (locs := []) hP hD va_S.rf (fun q h => Or.inr (by rw [hsz] at h; exact h)) h0 (hf1.trans hf0.symm) rfl hp1 hz (fun q h1 h2 => hk q h1 (by rw [hsz] at h2; exact h2))).1
theorem Ct.fr {l : Launch} {G : Gd} {y : MethodName} {cc : ByteArray} {nL : Nat} {ret : Option FieldType} {k : Nat} {av : List Value} {bs w0s w1s bs' : List va_W} {r : Option Value} (ib : List Nat) (hC : Ct l G y cc nL ret k av (wF w0s) r (wF w1s)) (h0 : ib.map (fun i => bs[i]?) = w0s.map some) (hib : va_nd ib = true) (as : List (List Nat)) (hf0 : w0s.map (fun b => b.map Prod.fst) = as) (hf1 : w1s.map (fun b => b.map Prod.fst) = as) (hw : updB bs ib w1s = bs') : CtP l G y cc nL ret k av (wF bs) r (fun w => w = wF bs') :=
  CtP.fr ib hC.P h0 hib as hf0 (fun w1 h => ⟨w1s, h, hf1, by rw [hw]⟩)
theorem CtP.rv {l : Launch} {G : Gd} {y : MethodName} {cc : ByteArray} {nL : Nat} {ret : Option FieldType} {k : Nat} {av : List Value} {w0 : va_W} {r r' : Option Value} {P : va_W → Prop} (hC : CtP l G y cc nL ret k av w0 r P) (h : r = r') : CtP l G y cc nL ret k av w0 r' P := h ▸ hC
theorem CtP.pw {l : Launch} {G : Gd} {y : MethodName} {cc : ByteArray} {nL : Nat} {ret : Option FieldType} {k : Nat} {av : List Value} {w0 : va_W} {r : Option Value} {P P' : va_W → Prop} (hC : CtP l G y cc nL ret k av w0 r P) (h : ∀ w, P w → P' w) : CtP l G y cc nL ret k av w0 r P' := by
  intro sz p e a1 a2 a3 s m args below a4 a5 a6 a7
  obtain ⟨t_, o_, b1_, b2_, b3_, ⟨b4_, ⟨w1, hw, hp⟩, b6_⟩, b5_⟩ := hC sz p e a1 a2 a3 s m args below a4 a5 a6 a7
  exact ⟨t_, o_, b1_, b2_, b3_, ⟨b4_, ⟨w1, h w1 hw, hp⟩, b6_⟩, b5_⟩
abbrev Kc : Type := (Nat → Int32) × Nat × Nat × (Nat → Int32) × (Nat → Int32) × (Nat → Int32) × Nat × (Nat → Int32) × (Nat → Int32) × (Nat → Int32) × (Nat → Int32) × Int32
abbrev wCk (G : Gd) (a : Nat → Nat) (c : Kc) : va_W := wCt G a c.1 c.2.1 c.2.2.1 c.2.2.2.1 c.2.2.2.2.1 c.2.2.2.2.2.1 c.2.2.2.2.2.2.1 c.2.2.2.2.2.2.2.1 c.2.2.2.2.2.2.2.2.1 c.2.2.2.2.2.2.2.2.2.1 c.2.2.2.2.2.2.2.2.2.2.1 c.2.2.2.2.2.2.2.2.2.2.2
abbrev wMk (G : Gd) (a : Nat) (c : Kc) : va_W := wMr G a c.1 c.2.1 c.2.2.1 c.2.2.2.1 c.2.2.2.2.1 c.2.2.2.2.2.1 c.2.2.2.2.2.2.1 c.2.2.2.2.2.2.2.1 c.2.2.2.2.2.2.2.2.1 c.2.2.2.2.2.2.2.2.2.1 c.2.2.2.2.2.2.2.2.2.2.1 c.2.2.2.2.2.2.2.2.2.2.2
abbrev cA (D : Nat → Nat) (b : Nat) : Nat → Nat := fun i => D (b + i)
abbrev shF (D : Nat → Nat) : Nat → Option Nat := va_up (va_up (va_up (va_up (fun _ => none) 0 (some (D 50))) 1 (some (D 51))) 2 (some (D 52))) 3 (some (D 53))
abbrev sfF (D : Nat → Nat) : Nat → Option Nat := va_up (va_up (va_up (va_up (fun _ => none) 0 (some (D 58))) 1 (some (D 59))) 2 (some (D 60))) 3 (some (D 61))
def CW (G : Gd) (o : Nat) (D : Nat → Nat) (la : Nat → Int32) (ns sd : Nat) (to he sw : Nat → Int32) (nh : Nat) (ki te mi ar : Nat → Int32) (z : Int32) (k t d : Kc) (ak : Int32) (ln st en : Nat) (so va fa : Int32) (f : Nat → Int32) (rc : Nat) (rwf sso : Nat → Int32) (ssz : Nat → Nat) (sit : Nat → Nat → Int64) (sho shr shso shsz : Nat → Int32) (ct : Nat) (pz dk nu dt : Int32) (dbo : Nat → Int32) : List va_W :=
  [wMe o (cA D 10 0) (cA D 20 0) (cA D 30 0) (cA D 40 0) ak (D 1) (D 3) rc (D 4) (D 5) (D 6), wCt G (cA D 10) la ns sd to he sw nh ki te mi ar z, wCk G (cA D 20) k, wCk G (cA D 30) t, wCk G (cA D 40) d, wTp (D 1) (D 2) ln st en so va fa, wB G (D 2) 200 f, wI G (D 3) 30 rwf, wQ G (D 4) 4 3 (shF D),
    wSh (D 50) (sso 0) (nI (ssz 0)) (D 54), wSh (D 51) (sso 1) (nI (ssz 1)) (D 55), wSh (D 52) (sso 2) (nI (ssz 2)) (D 56), wSh (D 53) (sso 3) (nI (ssz 3)) (D 57), wJ G (D 54) 40 (sit 0), wJ G (D 55) 40 (sit 1), wJ G (D 56) 40 (sit 2), wJ G (D 57) 40 (sit 3), wQ G (D 5) 4 4 (sfF D),
    wSf (D 58) (sho 0) (shr 0) (shso 0) (shsz 0), wSf (D 59) (sho 1) (shr 1) (shso 1) (shsz 1), wSf (D 60) (sho 2) (shr 2) (shso 2) (shsz 2), wSf (D 61) (sho 3) (shr 3) (shso 3) (shsz 3), wDe (D 6) (D 7) ct pz dk nu dt, wI G (D 7) 30 dbo]
def MW (G : Gd) (q : Nat) (E : Nat → Nat) (la : Nat → Int32) (ns sd : Nat) (to he sw : Nat → Int32) (nh : Nat) (ki te mi ar : Nat → Int32) (z : Int32) (mf mk mt : Kc) (ak : Int32) (tm : Nat) (mso : Int32) (bg men : Nat) (wd : Int64) (mva gd : Int32) (tf : Nat → Int32) (rm : Nat) (muf rf ssf szf : Nat → Int32) (shf : Nat → Int64) (hof hnf hzf : Nat → Int32) (kd nb tn : Int32) (bo : Nat) (ip : Int32) (tcf : Nat → Int32) : List va_W :=
  [wMo q (E 1) (E 2) (E 3) (E 4) ak (E 5) tm mso bg men wd mva gd (E 6) (E 7) rm (E 8) (E 9) (E 10) (E 11) (E 12) (E 13) kd nb tn (E 14) bo ip, wMr G (E 1) la ns sd to he sw nh ki te mi ar z, wMk G (E 2) mf, wMk G (E 3) mk, wMk G (E 4) mt, wI G (E 5) 200 tf, wI G (E 6) 30 rf, wI G (E 7) 30 muf, wI G (E 8) 4 ssf, wI G (E 9) 4 szf, wJ G (E 10) 160 shf, wI G (E 11) 4 hof, wI G (E 12) 4 hnf, wI G (E 13) 4 hzf, wI G (E 14) 30 tcf]
def CAd (G : Gd) (o : Nat) (D : Nat → Nat) : List Nat := (wF (CW G o D zF 0 0 zF zF zF 0 zF zF zF zF 0 (zF, 0, 0, zF, zF, zF, 0, zF, zF, zF, zF, 0) (zF, 0, 0, zF, zF, zF, 0, zF, zF, zF, zF, 0) (zF, 0, 0, zF, zF, zF, 0, zF, zF, zF, zF, 0) 0 0 0 0 0 0 0 zF 0 zF zF (fun _ => 0) (fun _ => zJ) zF zF zF zF 0 0 0 0 0 zF)).map Prod.fst
def MAd (G : Gd) (q : Nat) (E : Nat → Nat) : List Nat := (wF (MW G q E zF 0 0 zF zF zF 0 zF zF zF zF 0 (zF, 0, 0, zF, zF, zF, 0, zF, zF, zF, zF, 0) (zF, 0, 0, zF, zF, zF, 0, zF, zF, zF, zF, 0) (zF, 0, 0, zF, zF, zF, 0, zF, zF, zF, zF, 0) 0 0 0 0 0 0 0 0 zF 0 zF zF zF zF zJ zF zF zF 0 0 0 0 0 zF)).map Prod.fst
theorem cwF {G : Gd} {o : Nat} {D : Nat → Nat} {la : Nat → Int32} {ns sd : Nat} {to he sw : Nat → Int32} {nh : Nat} {ki te mi ar : Nat → Int32} {z : Int32} {k t d : Kc} {ak : Int32} {ln st en : Nat} {so va fa : Int32} {f : Nat → Int32} {rc : Nat} {rwf sso : Nat → Int32} {ssz : Nat → Nat} {sit : Nat → Nat → Int64} {sho shr shso shsz : Nat → Int32} {ct : Nat} {pz dk nu dt : Int32} {dbo : Nat → Int32} : (wF (CW G o D la ns sd to he sw nh ki te mi ar z k t d ak ln st en so va fa f rc rwf sso ssz sit sho shr shso shsz ct pz dk nu dt dbo)).map Prod.fst = CAd G o D := rfl
theorem mwF {G : Gd} {q : Nat} {E : Nat → Nat} {la : Nat → Int32} {ns sd : Nat} {to he sw : Nat → Int32} {nh : Nat} {ki te mi ar : Nat → Int32} {z : Int32} {mf mk mt : Kc} {ak : Int32} {tm : Nat} {mso : Int32} {bg men : Nat} {wd : Int64} {mva gd : Int32} {tf : Nat → Int32} {rm : Nat} {muf rf ssf szf : Nat → Int32} {shf : Nat → Int64} {hof hnf hzf : Nat → Int32} {kd nb tn : Int32} {bo : Nat} {ip : Int32} {tcf : Nat → Int32} : (wF (MW G q E la ns sd to he sw nh ki te mi ar z mf mk mt ak tm mso bg men wd mva gd tf rm muf rf ssf szf shf hof hnf hzf kd nb tn bo ip tcf)).map Prod.fst = MAd G q E := rfl
def RN (la la2 : Nat → Int32) (ns sd : Nat) (to to2 he he2 sw sw2 : Nat → Int32) (nh : Nat) (ki ki2 te te2 mi mi2 ar ar2 : Nat → Int32) : Prop :=
  (∀ j, j < 4 → la j = la2 j) ∧ (∀ i, i < ns → to i = to2 i ∧ he i = he2 i ∧ sw i = sw2 i) ∧ (∀ h, h < nh → ki h = ki2 h ∧ te h = te2 h ∧ mi h = mi2 h ∧ ar h = ar2 h) ∧ ns ≤ 12 ∧ sd ≤ ns ∧ nh ≤ 8 ∧ (∃ pd : Nat, pd ≤ 99 ∧ la2 3 = nI pd) ∧ (∀ i, i < ns → (sw2 i = 0 ∨ sw2 i = 1)) ∧ (∀ h, h < nh → (0 ≤ ki2 h ∧ ki2 h ≤ 5) ∧ loB sd (ar2 h))
def RK (ak : Int32) (k mk : Kc) : Prop := ak = 0 ∨ (ak = 1 ∧ k.2.1 = mk.2.1 ∧ k.2.2.1 = mk.2.2.1 ∧ k.2.2.2.2.2.2.1 = mk.2.2.2.2.2.2.1 ∧ k.2.2.2.2.2.2.2.2.2.2.2 = mk.2.2.2.2.2.2.2.2.2.2.2 ∧
  RN k.1 mk.1 k.2.1 k.2.2.1 k.2.2.2.1 mk.2.2.2.1 k.2.2.2.2.1 mk.2.2.2.2.1 k.2.2.2.2.2.1 mk.2.2.2.2.2.1 k.2.2.2.2.2.2.1 k.2.2.2.2.2.2.2.1 mk.2.2.2.2.2.2.2.1 k.2.2.2.2.2.2.2.2.1 mk.2.2.2.2.2.2.2.2.1 k.2.2.2.2.2.2.2.2.2.1 mk.2.2.2.2.2.2.2.2.2.1 k.2.2.2.2.2.2.2.2.2.2.1 mk.2.2.2.2.2.2.2.2.2.2.1)
def RT (ln : Nat) (f tf : Nat → Int32) : Prop := ln ≤ 200 ∧ TpR f tf ln
def RW (rc : Nat) (rwf rf : Nat → Int32) : Prop := rc ≤ 10 ∧ ∀ j, j < 3 * rc → rwf j = rf j
def RS (sso : Nat → Int32) (ssz : Nat → Nat) (sit : Nat → Nat → Int64) (ssf szf : Nat → Int32) (shf : Nat → Int64) : Prop := ∀ s, s < 4 → sso s = ssf s ∧ szf s = nI (ssz s) ∧ ssz s ≤ 40 ∧ (-1 ≤ ssf s ∧ ssf s ≤ 3) ∧ ∀ i, i < 40 → sit s i = shf (40 * s + i)
def RF (sho shr shso shsz hof hnf hzf : Nat → Int32) : Prop := ∀ s, s < 4 → (sho s = 0 ∧ hof s = -1) ∨ (sho s = 1 ∧ hof s = 0 ∧ shr s = hnf s) ∨ (sho s = 2 ∧ hof s = 1 ∧ shso s = hnf s ∧ shsz s = hzf s ∧ 0 ≤ hnf s ∧ hnf s ≤ 3)
def RB (ct : Nat) (dbo tcf : Nat → Int32) : Prop := ct ≤ 30 ∧ ∀ j, j < ct → dbo j = tcf j
def Inv (G : Gd) (o : Nat) (D : Nat → Nat) (q : Nat) (E : Nat → Nat) (wc wm : va_W) : Prop :=
  ∃ (la la2 : Nat → Int32) (ns sd : Nat) (to to2 he he2 sw sw2 : Nat → Int32) (nh : Nat) (ki ki2 te te2 mi mi2 ar ar2 : Nat → Int32) (z : Int32) (k t d mf mk mt : Kc) (ak : Int32) (ln st en : Nat) (so va fa : Int32) (f tf : Nat → Int32) (mso : Int32) (bg men : Nat) (wd : Int64) (mva gd : Int32) (rc : Nat) (rwf rf muf : Nat → Int32) (sso : Nat → Int32) (ssz : Nat → Nat) (sit : Nat → Nat → Int64) (ssf szf : Nat → Int32) (shf : Nat → Int64) (sho shr shso shsz hof hnf hzf : Nat → Int32) (ct : Nat) (pz dk nu dt kd nb tn ip : Int32) (dbo tcf : Nat → Int32),
    wc = wF (CW G o D la ns sd to he sw nh ki te mi ar z k t d ak ln st en so va fa f rc rwf sso ssz sit sho shr shso shsz ct pz dk nu dt dbo) ∧ wm = wF (MW G q E la2 ns sd to2 he2 sw2 nh ki2 te2 mi2 ar2 z mf mk mt ak ln mso bg men wd mva gd tf rc muf rf ssf szf shf hof hnf hzf kd nb tn ct ip tcf) ∧
    RN la la2 ns sd to to2 he he2 sw sw2 nh ki ki2 te te2 mi mi2 ar ar2 ∧ RK ak k mk ∧ RT ln f tf ∧ RW rc rwf rf ∧ RS sso ssz sit ssf szf shf ∧ RF sho shr shso shsz hof hnf hzf ∧ RB ct dbo tcf
def RV : Option FieldType → Value → Prop
  | some .long, r => ∃ v : Int64, r = .long v
  | _, r => ∃ v : Int32, r = .int v
def Sto (l : Launch) (G : Gd) (o : Nat) (D : Nat → Nat) (q : Nat) (E : Nat → Nat) (y5 : MethodName) (c5 : ByteArray) (n5 k5 : Nat) (y6 : MethodName) (c6 : ByteArray) (n6 k6 : Nat) (ret : Option FieldType) (As : List Value) (wc wm : va_W) : Prop :=
  ∃ (r : Value) (P5 P6 : va_W → Prop), CtP l G y5 c5 n5 ret k5 (.ref o :: As) wc (some r) P5 ∧ CtP l G y6 c6 n6 ret k6 (.ref q :: As) wm (some r) P6 ∧ (∀ w5, P5 w5 → w5.map Prod.fst = CAd G o D) ∧ (∀ w6, P6 w6 → w6.map Prod.fst = MAd G q E) ∧ (∀ w5 w6, P5 w5 → P6 w6 → Inv G o D q E w5 w6) ∧ RV ret r
def Stq (l : Launch) (G : Gd) (o : Nat) (D : Nat → Nat) (q : Nat) (E : Nat → Nat) (y5 : MethodName) (c5 : ByteArray) (n5 k5 : Nat) (y6 : MethodName) (c6 : ByteArray) (n6 k6 : Nat) (ret : Option FieldType) (As : List Value) : Prop :=
  ∀ wc wm, Inv G o D q E wc wm → Sto l G o D q E y5 c5 n5 k5 y6 c6 n6 k6 ret As wc wm
theorem cwE {G : Gd} {o : Nat} {D : Nat → Nat} {la : Nat → Int32} {ns sd : Nat} {to he sw : Nat → Int32} {nh : Nat} {ki te mi ar : Nat → Int32} {z : Int32} {k t d : Kc} {ak : Int32} {ln st en : Nat} {so va fa : Int32} {f : Nat → Int32} {rc : Nat} {rwf sso : Nat → Int32} {ssz : Nat → Nat} {sit : Nat → Nat → Int64} {sho shr shso shsz : Nat → Int32} {ct : Nat} {pz dk nu dt : Int32} {dbo : Nat → Int32} {w : va_W} (h : w = wF (CW G o D la ns sd to he sw nh ki te mi ar z k t d ak ln st en so va fa f rc rwf sso ssz sit sho shr shso shsz ct pz dk nu dt dbo)) : w.map Prod.fst = CAd G o D := (congrArg (List.map Prod.fst) h).trans cwF
theorem mwE {G : Gd} {q : Nat} {E : Nat → Nat} {la : Nat → Int32} {ns sd : Nat} {to he sw : Nat → Int32} {nh : Nat} {ki te mi ar : Nat → Int32} {z : Int32} {mf mk mt : Kc} {ak : Int32} {tm : Nat} {mso : Int32} {bg men : Nat} {wd : Int64} {mva gd : Int32} {tf : Nat → Int32} {rm : Nat} {muf rf ssf szf : Nat → Int32} {shf : Nat → Int64} {hof hnf hzf : Nat → Int32} {kd nb tn : Int32} {bo : Nat} {ip : Int32} {tcf : Nat → Int32} {w : va_W} (h : w = wF (MW G q E la ns sd to he sw nh ki te mi ar z mf mk mt ak tm mso bg men wd mva gd tf rm muf rf ssf szf shf hof hnf hzf kd nb tn bo ip tcf)) : w.map Prod.fst = MAd G q E := (congrArg (List.map Prod.fst) h).trans mwF
theorem Inv.mk {G : Gd} {o : Nat} {D : Nat → Nat} {q : Nat} {E : Nat → Nat} {wc wm : va_W} {la la2 : Nat → Int32} {ns sd : Nat} {to to2 he he2 sw sw2 : Nat → Int32} {nh : Nat} {ki ki2 te te2 mi mi2 ar ar2 : Nat → Int32} {z : Int32} {k t d mf mk mt : Kc} {ak : Int32} {ln st en : Nat} {so va fa : Int32} {f tf : Nat → Int32} {mso : Int32} {bg men : Nat} {wd : Int64} {mva gd : Int32} {rc : Nat} {rwf rf muf : Nat → Int32} {sso : Nat → Int32} {ssz : Nat → Nat} {sit : Nat → Nat → Int64} {ssf szf : Nat → Int32} {shf : Nat → Int64} {sho shr shso shsz hof hnf hzf : Nat → Int32} {ct : Nat} {pz dk nu dt kd nb tn ip : Int32} {dbo tcf : Nat → Int32} (h0_ : wc = wF (CW G o D la ns sd to he sw nh ki te mi ar z k t d ak ln st en so va fa f rc rwf sso ssz sit sho shr shso shsz ct pz dk nu dt dbo)) (h1_ : wm = wF (MW G q E la2 ns sd to2 he2 sw2 nh ki2 te2 mi2 ar2 z mf mk mt ak ln mso bg men wd mva gd tf rc muf rf ssf szf shf hof hnf hzf kd nb tn ct ip tcf)) (h2_ : RN la la2 ns sd to to2 he he2 sw sw2 nh ki ki2 te te2 mi mi2 ar ar2) (h3_ : RK ak k mk) (h4_ : RT ln f tf) (h5_ : RW rc rwf rf) (h6_ : RS sso ssz sit ssf szf shf) (h7_ : RF sho shr shso shsz hof hnf hzf) (h8_ : RB ct dbo tcf) : Inv G o D q E wc wm := ⟨la, la2, ns, sd, to, to2, he, he2, sw, sw2, nh, ki, ki2, te, te2, mi, mi2, ar, ar2, z, k, t, d, mf, mk, mt, ak, ln, st, en, so, va, fa, f, tf, mso, bg, men, wd, mva, gd, rc, rwf, rf, muf, sso, ssz, sit, ssf, szf, shf, sho, shr, shso, shsz, hof, hnf, hzf, ct, pz, dk, nu, dt, kd, nb, tn, ip, dbo, tcf, h0_, h1_, h2_, h3_, h4_, h5_, h6_, h7_, h8_⟩
theorem Inv.elim {G : Gd} {o : Nat} {D : Nat → Nat} {q : Nat} {E : Nat → Nat} {wc wm : va_W} {M : va_W → va_W → Prop} (h_ : Inv G o D q E wc wm) (k_ : ∀ (la la2 : Nat → Int32) (ns sd : Nat) (to to2 he he2 sw sw2 : Nat → Int32) (nh : Nat) (ki ki2 te te2 mi mi2 ar ar2 : Nat → Int32) (z : Int32) (k t d mf mk mt : Kc) (ak : Int32) (ln st en : Nat) (so va fa : Int32) (f tf : Nat → Int32) (mso : Int32) (bg men : Nat) (wd : Int64) (mva gd : Int32) (rc : Nat) (rwf rf muf : Nat → Int32) (sso : Nat → Int32) (ssz : Nat → Nat) (sit : Nat → Nat → Int64) (ssf szf : Nat → Int32) (shf : Nat → Int64) (sho shr shso shsz hof hnf hzf : Nat → Int32) (ct : Nat) (pz dk nu dt kd nb tn ip : Int32) (dbo tcf : Nat → Int32), RN la la2 ns sd to to2 he he2 sw sw2 nh ki ki2 te te2 mi mi2 ar ar2 → RK ak k mk → RT ln f tf → RW rc rwf rf → RS sso ssz sit ssf szf shf → RF sho shr shso shsz hof hnf hzf → RB ct dbo tcf → M (wF (CW G o D la ns sd to he sw nh ki te mi ar z k t d ak ln st en so va fa f rc rwf sso ssz sit sho shr shso shsz ct pz dk nu dt dbo)) (wF (MW G q E la2 ns sd to2 he2 sw2 nh ki2 te2 mi2 ar2 z mf mk mt ak ln mso bg men wd mva gd tf rc muf rf ssf szf shf hof hnf hzf kd nb tn ct ip tcf))) : M wc wm := by
  obtain ⟨la, la2, ns, sd, to, to2, he, he2, sw, sw2, nh, ki, ki2, te, te2, mi, mi2, ar, ar2, z, k, t, d, mf, mk, mt, ak, ln, st, en, so, va, fa, f, tf, mso, bg, men, wd, mva, gd, rc, rwf, rf, muf, sso, ssz, sit, ssf, szf, shf, sho, shr, shso, shsz, hof, hnf, hzf, ct, pz, dk, nu, dt, kd, nb, tn, ip, dbo, tcf, rfl, rfl, hN, hK, hT, hR, hS, hF, hB⟩ := h_
  exact k_ _ _ _ _ _ _ _ _ _ _ _ _ _ _ _ _ _ _ _ _ _ _ _ _ _ _ _ _ _ _ _ _ _ _ _ _ _ _ _ _ _ _ _ _ _ _ _ _ _ _ _ _ _ _ _ _ _ _ _ _ _ _ _ _ _ _ _ _ _ hN hK hT hR hS hF hB
theorem Sto.mk {l : Launch} {G : Gd} {o : Nat} {D : Nat → Nat} {q : Nat} {E : Nat → Nat} {y5 : MethodName} {c5 : ByteArray} {n5 k5 : Nat} {y6 : MethodName} {c6 : ByteArray} {n6 k6 : Nat} {ret : Option FieldType} {As : List Value} {wc wm : va_W} {r : Value} {P5 P6 : va_W → Prop} (h5 : CtP l G y5 c5 n5 ret k5 (.ref o :: As) wc (some r) P5) (h6 : CtP l G y6 c6 n6 ret k6 (.ref q :: As) wm (some r) P6) (f5 : ∀ w5, P5 w5 → w5.map Prod.fst = CAd G o D) (f6 : ∀ w6, P6 w6 → w6.map Prod.fst = MAd G q E) (j : ∀ w5 w6, P5 w5 → P6 w6 → Inv G o D q E w5 w6) (rv : RV ret r) : Sto l G o D q E y5 c5 n5 k5 y6 c6 n6 k6 ret As wc wm := ⟨r, P5, P6, h5, h6, f5, f6, j, rv⟩
/-! arguments -/
theorem inC {v m : Int32} (n : Nat) (hn : n < 2147483648) (hm : m = nI n - 1) (h : 0 ≤ v ∧ v ≤ m) : ∃ j : Nat, j < n ∧ v = nI j := inR_of hn (by rw [← hm]; exact h)
theorem inC1 {v m : Int32} (n : Nat) (hn : n < 2147483647) (hm : m = nI n) (h : 1 ≤ v ∧ v ≤ m) : ∃ j : Nat, 1 ≤ j ∧ j ≤ n ∧ v = nI j := by
  have h0_ : (0 : Int32) ≤ v := Int32.le_trans (by decide) h.1
  subst hm
  obtain ⟨j, hj_, rfl⟩ := nI_of2 (n := n) (nI_toInt (by omega)) (Int32.not_lt.mpr h0_) h.2
  exact ⟨j, (nI_leI (a := 1) (b := j) (by omega) (by omega)).mp h.1, hj_, rfl⟩
theorem inC0 {v : Int32} (n : Nat) (hn : n < 2147483647) (h : 0 ≤ v ∧ v ≤ nI n) : ∃ j : Nat, j ≤ n ∧ v = nI j := nI_of2 (n := n) (nI_toInt (by omega)) (Int32.not_lt.mpr h.1) h.2
theorem b01 {v : Int32} (h : 0 ≤ v ∧ v ≤ 1) : v = 0 ∨ v = 1 := by
  obtain ⟨j, hj, rfl⟩ := inC (m := 1) 2 (by decide) (by decide) h
  rcases (show j = 0 ∨ j = 1 by omega) with rfl | rfl
  · exact Or.inl rfl
  · exact Or.inr rfl
theorem s4 {s : Nat} (h : s < 4) : s = 0 ∨ s = 1 ∨ s = 2 ∨ s = 3 := by omega
theorem h255 {h : Nat} (hh : h < 8) : hasP 255 (nI h) := by
  rw [hasP_bt (by omega)]
  have a_ : ∀ h, h < 8 → bt 255 h = true := by decide +kernel
  exact a_ h hh
/-! congruences -/
section CGS
variable {la la2 : Nat → Int32} {ns sd : Nat} {to to2 he he2 sw sw2 : Nat → Int32} {nh : Nat} {ki ki2 te te2 mi mi2 ar ar2 : Nat → Int32}
theorem ev_e (c1 : ∀ j, j < 4 → la j = la2 j) (c2 : ∀ i, i < ns → to i = to2 i ∧ he i = he2 i ∧ sw i = sw2 i) (c3 : ∀ h, h < nh → ki h = ki2 h ∧ te h = te2 h ∧ mi h = mi2 h ∧ ar h = ar2 h) {h n : Nat} (hh : h < nh) (hn : sd + n ≤ ns) : evTA la (ki h) (mi h) to he sw sd n (te h, ar h) = evTA la2 (ki2 h) (mi2 h) to2 he2 sw2 sd n (te2 h, ar2 h) := by
  obtain ⟨a_, b_, c_, d_⟩ := c3 h hh
  rw [a_, b_, c_, d_]
  exact ev_cg c1 n (fun i _ h2 => c2 i (by omega))
theorem far_e (c1 : ∀ j, j < 4 → la j = la2 j) (c2 : ∀ i, i < ns → to i = to2 i ∧ he i = he2 i ∧ sw i = sw2 i) (c3 : ∀ h, h < nh → ki h = ki2 h ∧ te h = te2 h ∧ mi h = mi2 h ∧ ar h = ar2 h) (c6 : nh ≤ 8) {h n : Nat} (hh : h < nh) (hn : sd + n ≤ ns) : fAr (fun h_ => h_ < nh ∧ hasP 255 (nI h_)) la ki mi te ar to he sw sd n h = fAr (fun h_ => h_ < nh) la2 ki2 mi2 te2 ar2 to2 he2 sw2 sd n h := by
  rw [fAr_at (L := fun h_ => h_ < nh ∧ hasP 255 (nI h_)) ⟨hh, h255 (by omega)⟩, fAr_at (L := fun h_ => h_ < nh) hh, ev_e c1 c2 c3 hh hn]
theorem fte_e (c1 : ∀ j, j < 4 → la j = la2 j) (c2 : ∀ i, i < ns → to i = to2 i ∧ he i = he2 i ∧ sw i = sw2 i) (c3 : ∀ h, h < nh → ki h = ki2 h ∧ te h = te2 h ∧ mi h = mi2 h ∧ ar h = ar2 h) (c6 : nh ≤ 8) {h n : Nat} (hh : h < nh) (hn : sd + n ≤ ns) : fTe (fun h_ => h_ < nh ∧ hasP 255 (nI h_)) la ki mi te ar to he sw sd n h = fTe (fun h_ => h_ < nh) la2 ki2 mi2 te2 ar2 to2 he2 sw2 sd n h := by
  rw [fTe_at (L := fun h_ => h_ < nh ∧ hasP 255 (nI h_)) ⟨hh, h255 (by omega)⟩, fTe_at (L := fun h_ => h_ < nh) hh, ev_e c1 c2 c3 hh hn]
theorem up_e (c1 : ∀ j, j < 4 → la j = la2 j) (c2 : ∀ i, i < ns → to i = to2 i ∧ he i = he2 i ∧ sw i = sw2 i) {h i : Nat} (hk : ki h = ki2 h) (hm : mi h = mi2 h) (ht : te h = te2 h) (hi : i < ns) : fUp la ki mi te to he sw i h ↔ fUp la2 ki2 mi2 te2 to2 he2 sw2 i h := by
  obtain ⟨a_, b_, c_⟩ := c2 i hi
  unfold fUp
  rw [hk, hm, ht, a_, b_, c_, c1 0 (by decide), c1 1 (by decide)]
theorem upd_sn {f g : Nat → Int32} {n : Nat} {v : Int32} (h_ : ∀ i, i < n → f i = g i) : ∀ i, i < n + 1 → upd f n v i = upd g n v i := by
  intro i hi
  by_cases e_ : i = n
  · subst e_; rw [pk_us, pk_us]
  · rw [pk_un e_, pk_un e_]; exact h_ i (by omega)
theorem upd_al1 {f : Nat → Int32} {n k : Nat} {v : Int32} {Q : Int32 → Prop} (hv : Q v) (h_ : ∀ i, i < n → Q (f i)) : ∀ i, i < n → Q (upd f k v i) := by
  intro i hi
  by_cases e_ : i = k
  · subst e_; rw [pk_us]; exact hv
  · rw [pk_un e_]; exact h_ i hi
theorem upd_aln {f : Nat → Int32} {n : Nat} {v : Int32} {Q : Int32 → Prop} (hv : Q v) (h_ : ∀ i, i < n → Q (f i)) : ∀ i, i < n + 1 → Q (upd f n v i) := by
  intro i hi
  by_cases e_ : i = n
  · subst e_; rw [pk_us]; exact hv
  · rw [pk_un e_]; exact h_ i (by omega)
end CGS
