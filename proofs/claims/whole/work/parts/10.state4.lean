/-! the law's helpers: they call a method that may throw, and catch; what they need of the start, and their calls -/
def ncL : List (String × String) := [("java/lang/IllegalStateException", "java/lang/IndexOutOfBoundsException"), ("java/lang/IllegalArgumentException", "java/lang/IndexOutOfBoundsException"), ("java/lang/IllegalStateException", "java/lang/IllegalArgumentException")]
def NC (U : State) : Prop := ∀ q ∈ ncL, va_Nc q.1 q.2 U
theorem NC.warm {s U : State} (h : NC s) (hW : s.WarmedH U.vm) : NC U := fun q hq => va_Nc.moved hW.alike (h q hq)
theorem NC.same {s U : State} (h : NC s) (e : s.vm = U.vm) : NC U := fun q hq => va_Nc.moved (e ▸ Vm.Alike.refl s.vm) (h q hq)
theorem ex_IndexOutOfBoundsException_self : Cond.castable "java/lang/IndexOutOfBoundsException" "java/lang/IndexOutOfBoundsException" ∈ cwL := by decide +kernel
theorem ex_IllegalStateException_self : Cond.castable "java/lang/IllegalStateException" "java/lang/IllegalStateException" ∈ cwL := by decide +kernel
theorem ex_IllegalArgumentException_self : Cond.castable "java/lang/IllegalArgumentException" "java/lang/IllegalArgumentException" ∈ cwL := by decide +kernel
/-- what the helper leaves in its row of one long -/
def outN (k r : Int32) (f : Nat → Int64) : Nat → Int64 := if k = 0 then vp_updL f 0 r.toInt64 else f
theorem outN_0 {k r : Int32} {f : Nat → Int64} (h : k = 0) : outN k r f = vp_updL f 0 r.toInt64 := if_pos h
theorem outN_1 {k r : Int32} {f : Nat → Int64} (h : ¬ k = 0) : outN k r f = f := if_neg h
def PcL (D : va_G) (cI cZ cB cJ : ClassId) (sz : Nat) (wc : va_W) (av : List Value) : Array Value → State → Prop := va_Pc av (fun U => U.heap.size = sz ∧ va_P D vwCl wc U.heap ∧ KK D cI cZ cB cJ U ∧ va_D (fun _ => True) wc ∧ XS U ∧ CW U ∧ NC U ∧ XZ (va_A wc sz) U U.heap)
theorem PcL_blind {D : va_G} {cI cZ cB cJ : ClassId} {sz : Nat} {wc : va_W} {av : List Value} : FrameBlind (PcL D cI cZ cB cJ sz wc av) := fun a U g mk h => ⟨h.1, h.2.1, h.2.2.1, h.2.2.2.1.blind g mk a, h.2.2.2.2.1, h.2.2.2.2.2.1.same rfl, h.2.2.2.2.2.2.1.same rfl, h.2.2.2.2.2.2.2.1.same rfl, h.2.2.2.2.2.2.2.2.moved (u := U) (U := U.calling g mk a) (Vm.Alike.refl U.vm)⟩
theorem bodyL {l : Launch} {y : MethodName} {ws ws' : List Cond} {rm : Room} {D : va_G} {cI cZ cB cJ : ClassId} {sz : Nat} {wc wc' : va_W} {av : List Value} {lv : List (Nat × Value)} {cc : ByteArray} {maxL : Nat} {k : Int32} {hh : List (Nat × Nat × Nat × Nat)}
    (hy : plainName y.cls = true) (hw : ws = Cond.codeWith y cc maxL (some .int) hh :: ws') (hlen : (lg_sl av).length ≤ maxL) (hlv : lv_args 0 av = lv)
    (K : ∀ (p : Program) (e : Env) (s : State) (m : MethodId) (args : Array Value) (below : List Frame) (meth : Method) (c : Code) (Q : State → Prop), p.tables.exec = Jvm.exec → c.code = cc → c.maxLocals = maxL → s.vm.findClass y.cls = some m.cls → (∀ w ∈ ws, w.before args s = true) → c.exceptionTable.toList = tableOf hh → XS s → CW s → NC s → ∀ A : Nat → Prop, XZ A s s.heap → va_P D vwCl wc s.heap → KK D cI cZ cB cJ s → va_D A wc → (∀ q : Nat, s.heap.size ≤ q → A q) → va_S A s.heap s.heap [] →
      (fin : ∀ (pc : Nat) (ls : Array Slot) (H : Heap) (locs : List Loc) (cells slots : Nat), cells ≤ 1 → slots ≤ 6 → decode cc pc = .ok (.ireturn, 1) → va_P D vwCl wc' H → va_D A wc' → va_S A s.heap H locs → W p l e rm s m args below meth c H locs cells slots Q (F0 m pc ls [.int k])) → ∀ ls : Array Slot, lv_has ls maxL lv → W p l e rm s m args below meth c s.heap [] 0 0 Q (F0 m 0 ls [])) : vx_Met l y ws rm (PcL D cI cZ cB cJ sz wc av) (QWi D cI cZ cB cJ sz wc wc' k) (fun _ _ _ => False) 1 6 (va_A wc sz) := by
  refine vx_ofWH (cc := cc) (maxL := maxL) (ret := some .int) (hh := hh) hy hw ?_
  intro p e s m args below meth c s₁ B hml hv
  obtain ⟨rfl, hsz, hP, hK, hD0, hXS, hCW, hNC, hXZ⟩ := hv
  have hl := lv_entry av (n := maxL) hlen
  rw [lg_entry_eq]
  rw [hlv] at hl
  have hts := atoms_spec (ws := ws) B.pre
  have hTab : c.exceptionTable.toList = tableOf hh := vx_table (x := y) B (hts (.codeWith y cc maxL (some .int) hh) (by rw [hw]; exact List.mem_cons_self))
  refine K p e s m av.toArray below meth c _ B.exec B.bytes hml (findClass_of_methodNamed B.named) hts hTab hXS hCW hNC (va_A wc sz) hXZ hP hK (hD0.self (sz := sz)) (fun q h => Or.inr (hsz ▸ h)) va_S.rf ?_ _ hl
  intro pc ls H locs cells slots h1 h2 hd hP1 hD1 hS1
  refine vx_ret ?_
  refine W.widen (k := 1) (n := 6) h1 h2 ?_
  exact W.iret B.exec B.bytes B.returns (fun t ht hW => ⟨⟨k, (), rfl, rfl, by rw [ht]; exact hP1, hD1⟩, hS1.F ht⟩) hS1.2.2 hd B.notSynchronized
section XL
variable {p : Program} {l : Launch} {e : Env} {R : Room} {s : State} {m : MethodId} {args : Array Value} {below : List Frame} {meth : Method} {c : Code} {H : Heap} {locs : List Loc} {cells slots : Nat} {Q : State → Prop}
variable {cc : ByteArray} {nL : Nat} {Ts : List Cond} {own : String} {D : va_G} {cI cZ cB cJ : ClassId} {wsx wc wc' wr : va_W} {pc index maxL n : Nat} {ls : Array Slot} {y : MethodName} {ws : List Cond} {rm : Room} {bytes : ByteArray} {ret : Option FieldType} {C host : String} {T : u_T} {N ci b : Nat} {fs : List Value} {A : Nat → Prop}
/-- a call of a method that may throw -/
theorem callX {As rest st0 : List Value} {k r : Int32} {exl : List (Int32 × String)} (S : CallFix p m c cc nL s args Ts own) (hK : KK D cI cZ cB cJ s) (hXS : XS s) (hCW : CW s) (hXZ : XZ A s s.heap) (hP : va_P D vwCl wsx H) (hD : va_D A wsx) (hS : va_S A s.heap H locs) (hA : ∀ q, s.heap.size ≤ q → A q)
    (hM : vx_Met l y ws rm (PcX D cI cZ cB cJ H.size wc (.ref b :: As)) (QXi D cI cZ cB cJ H.size wc wc' k r) (XXc D exl H.size wc wc' k) 1 6 (va_A wc H.size)) (isC isR : List Nat) (hC : isC.map (fun i => wsx[i]?) = wc.map some) (hR : isR.map (fun i => wsx[i]?) = wr.map some) (hnC : va_nd isC = true) (hnR : va_nd isR = true) (hdis : ∀ i ∈ isR, i ∉ isC)
    (cw : CallW R s args own C index y bytes maxL ret ws rm 1 6 n) (hrec : wc[0]? = some (b, .inr (ci, fs))) (hc : vwCl[ci]? = some (C, T, N)) (hn : As.length = n) (hsz : ls.size = nL) (hst : st0 = As.reverse ++ .ref b :: rest) (hW : (rest.map fun v => v.category).sum ≤ 8)
    (hdg : decode cc pc = .ok (.invokevirtual index, 3)) (hcs : cells + 1 ≤ R.cells ∧ slots + 6 ≤ R.slots)
    (kx : ∀ (E : String) (ce : Cell) (q9 : Addr) (H1 : Heap) (locs1 : List Loc), (k, E) ∈ exl → va_P D vwCl (wr ++ wc') H1 → va_D A (wr ++ wc') → va_S A s.heap H1 locs1 → H1[q9]? = some ce → ce.vm = .none → s.vm.findClass E = some ce.cls → vx_W p l e R s m args below meth c H1 locs1 (cells + 1) (slots + 6) Q (F0 m pc ls rest) q9)
    (kk : k = 0 → ∀ (H1 : Heap) (locs1 : List Loc), va_P D vwCl (wr ++ wc') H1 → va_D A (wr ++ wc') → va_S A s.heap H1 locs1 → W p l e R s m args below meth c H1 locs1 (cells + 1) (slots + 6) Q (F0 m (pc + 3) ls (.int r :: rest))) : W p l e R s m args below meth c H locs cells slots Q (F0 m pc ls st0) := by
  subst hst
  have hPc := hP.sub isC (fm_map hC)
  have hDc := hD.sub isC hnC hC
  have hFc := va_free (wc := wc) hD hS hA isC hC
  refine vx_calli (vx_runV S hM cw ⟨PcX_blind, va_recv hK.1 hPc hc hrec, fun U hU hW => ⟨rfl, by rw [hU], by rw [hU]; exact hPc, hK.warm hW, hDc.weaken (fun _ _ _ _ => trivial), hXS.warm hW, hCW.warm hW, by rw [hU]; exact ((hXZ.kept hS.2.1).narrow hFc).moved hW.alike⟩⟩ rfl hn hsz rfl (lv_room hW) hdg hcs) hS (fun q _ h => hFc q h) hFc (fun q _ h => hFc q h) (fun E ce q9 u t H1 locs1 ht hvm hpx hB hz1 hk1 hS1 hce hcv hcl => ?_) (fun r' u t H1 locs1 ht hvm hw hB hz1 hk1 hS1 => ?_)
  · obtain ⟨hm, hP1, hD1⟩ := hB
    rw [ht] at hP1
    obtain ⟨hP2, hD2⟩ := va_join hP hD isC isR hC hR hnR hdis hk1 hFc hP1 hD1
    exact kx E ce q9 H1 locs1 hm hP2 hD2 hS1 hce hcv hcl
  · obtain ⟨hk0, rfl⟩ := hw
    obtain ⟨hP1, hD1⟩ := hB
    rw [ht] at hP1
    obtain ⟨hP2, hD2⟩ := va_join hP hD isC isR hC hR hnR hdis hk1 hFc hP1 hD1
    exact kk hk0 H1 locs1 hP2 hD2 hS1
/-- a call of a helper of the law -/
theorem callL {As rest st0 : List Value} {k : Int32} {hh : List (Nat × Nat × Nat × Nat)} (S : CallFix p m c cc nL s args Ts own) (hK : KK D cI cZ cB cJ s) (hXS : XS s) (hCW : CW s) (hNC : NC s) (hXZ : XZ A s s.heap) (hP : va_P D vwCl wsx H) (hD : va_D A wsx) (hS : va_S A s.heap H locs) (hA : ∀ q, s.heap.size ≤ q → A q)
    (hM : vx_Met l y ws rm (PcL D cI cZ cB cJ H.size wc As) (QWi D cI cZ cB cJ H.size wc wc' k) (fun _ _ _ => False) 1 6 (va_A wc H.size)) (isC isR : List Nat) (hC : isC.map (fun i => wsx[i]?) = wc.map some) (hR : isR.map (fun i => wsx[i]?) = wr.map some) (hnC : va_nd isC = true) (hnR : va_nd isR = true) (hdis : ∀ i ∈ isR, i ∉ isC)
    (cw : vx_CSW R s args own index y bytes maxL ret hh ws rm 1 6 n) (hn : As.length = n) (hsz : ls.size = nL) (hst : st0 = As.reverse ++ rest) (hW : (rest.map fun v => v.category).sum ≤ 8)
    (hdg : decode cc pc = .ok (.invokestatic index, 3)) (hcs : cells + 1 ≤ R.cells ∧ slots + 6 ≤ R.slots)
    (kk : ∀ (H1 : Heap) (locs1 : List Loc), va_P D vwCl (wr ++ wc') H1 → va_D A (wr ++ wc') → va_S A s.heap H1 locs1 → W p l e R s m args below meth c H1 locs1 (cells + 1) (slots + 6) Q (F0 m (pc + 3) ls (.int k :: rest))) : W p l e R s m args below meth c H locs cells slots Q (F0 m pc ls st0) := by
  subst hst
  have hPc := hP.sub isC (fm_map hC)
  have hDc := hD.sub isC hnC hC
  have hFc := va_free (wc := wc) hD hS hA isC hC
  have hr : vx_Run p l e R s m args below meth c H locs cells slots 1 6 (F0 m pc ls (As.reverse ++ rest)) rest (va_Qi (fun (r' : Int32) (_ : Unit) => r' = k) (fun _ t => va_P D vwCl wc' t.heap ∧ va_D (va_A wc H.size) wc') (va_A wc H.size) As.toArray) (vx_X (fun _ : Unit => False) (fun _ _ _ => True) (fun _ => False)) (va_A wc H.size) := by
    have h : vx_Run p l e R s m args below meth c H locs cells slots 1 6 (F0 m pc ls (As.reverse ++ rest)) rest (QWi D cI cZ cB cJ H.size wc wc' k As.toArray) (fun _ _ _ => False) (va_A wc H.size) := vx_runSX S hM cw ⟨PcL_blind, fun U hU hW => ⟨rfl, by rw [hU], by rw [hU]; exact hPc, hK.warm hW, hDc.weaken (fun _ _ _ _ => trivial), hXS.warm hW, hCW.warm hW, hNC.warm hW, by rw [hU]; exact ((hXZ.kept hS.2.1).narrow hFc).moved hW.alike⟩⟩ (g := F0 m pc ls (As.reverse ++ rest)) rfl hn hsz rfl (lv_room hW) hdg hcs
    intro T hT X
    rcases h T hT X with q | ⟨q, st₀, t, T', L, E, ce, _, _, _, _, _, hF, _⟩
    · exact Or.inl q
    · exact hF.elim
  refine vx_calli hr hS (fun q _ h => hFc q h) hFc (fun q _ h => h.elim) (fun E ce q9 u t H1 locs1 ht hvm hpx hB hz1 hk1 hS1 hce hcv hcl => hpx.elim) (fun r' u t H1 locs1 ht hvm hw hB hz1 hk1 hS1 => ?_)
  subst hw
  obtain ⟨hP1, hD1⟩ := hB
  rw [ht] at hP1
  obtain ⟨hP2, hD2⟩ := va_join hP hD isC isR hC hR hnR hdis hk1 hFc hP1 hD1
  exact kk H1 locs1 hP2 hD2 hS1
end XL
