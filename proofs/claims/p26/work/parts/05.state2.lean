/-! boards by place; methods that throw: the standing facts on texts, casts and Throwable's statics; their bodies -/
/-- a place among the boards, or none -/
def plq (f : Nat → Nat) (r : Int32) : Option Nat := if r < 0 then none else some (f r.toNatClampNeg)
theorem plq_neg {f : Nat → Nat} {r : Int32} (h : r < 0) : va_rf (plq f r) = .null := by unfold plq; rw [if_pos h]; rfl
theorem vp_in_ofI {i M : Int32} {n : Nat} (hM : M.toInt = n) (h1 : ¬ i < 0) (h2 : ¬ M ≤ i) : vp_in i n := by
  rw [vp_in_iff]
  rw [Int32.lt_iff_toInt_lt] at h1
  rw [Int32.le_iff_toInt_le] at h2
  have : (0 : Int32).toInt = 0 := rfl
  omega
section XR2
variable {p : Program} {l : Launch} {e : Env} {R : Room} {s : State} {m : MethodId} {args : Array Value} {below : List Frame} {meth : Method} {c : Code} {H : Heap} {locs : List Loc} {cells slots : Nat} {Q : State → Prop}
variable {cc : ByteArray} {nL : Nat} {Ts : List Cond} {own : String} {D : va_G} {cI cZ cB cJ : ClassId} {wsx wc wc' wr : va_W} {pc index maxL n : Nat} {ls : Array Slot} {y : MethodName} {ws : List Cond} {rm : Room} {bytes : ByteArray} {ret : Option FieldType} {C host : String} {T : u_T} {N ci b : Nat} {fs : List Value} {A : Nat → Prop} {H0 : Heap}
theorem callRVq {As rest st0 : List Value} {q0 : Option Nat} (S : CallFix p m c cc nL s args Ts own) (hK : KK D cI cZ cB cJ s) (hP : va_P D vwCl wsx H)
    (hM : Met l y ws rm (PcR D cI cZ cB cJ wc (.ref b :: As)) (va_Sq (fun q => q = q0)) 0 0 (fun _ => False)) (is : List Nat) (his : is.filterMap (fun i => wsx[i]?) = wc)
    (cw : CallW R s args own C index y bytes maxL ret ws rm 0 0 n) (hrec : wc[0]? = some (b, .inr (ci, fs))) (hc : vwCl[ci]? = some (C, T, N)) (hn : As.length = n) (hsz : ls.size = nL) (hst : st0 = As.reverse ++ .ref b :: rest) (hW : (rest.map fun v => v.category).sum ≤ 8)
    (hdg : decode cc pc = .ok (.invokevirtual index, 3)) (hcs : cells ≤ R.cells ∧ slots ≤ R.slots)
    (kk : W p l e R s m args below meth c H locs cells slots Q (F0 m (pc + 3) ls (va_rf q0 :: rest))) : W p l e R s m args below meth c H locs cells slots Q (F0 m pc ls st0) := by
  subst hst
  exact va_csq (va_Run.run (va_runV S hM cw ⟨PcR_blind, va_recv hK.1 (hP.sub is his) hc hrec, fun U hU hW => ⟨rfl, by rw [hU]; exact hP.sub is his, hK.warm hW⟩⟩ rfl hn hsz rfl (lv_room hW) hdg hcs)) (fun r' e => by subst e; exact kk)
end XR2
def QWd (D : va_G) (cI cZ cB cJ : ClassId) (sz : Nat) (wc wc' : va_W) (r : UInt64) : Array Value → State → Outcome → State → Prop := va_Qd (fun (r' : UInt64) (_ : Unit) => r' = r) (fun _ t => va_P D vwCl wc' t.heap ∧ va_D (va_A wc sz) wc') (va_A wc sz)
theorem bodyWd {l : Launch} {y : MethodName} {ws ws' : List Cond} {rm : Room} {D : va_G} {cI cZ cB cJ : ClassId} {sz : Nat} {wc wc' : va_W} {av : List Value} {lv : List (Nat × Value)} {cc : ByteArray} {maxL : Nat} {r : UInt64}
    (hy : plainName y.cls = true) (hw : ws = Cond.code y cc maxL (some .double) :: ws') (hlen : (lg_sl av).length ≤ maxL) (hlv : lv_args 0 av = lv)
    (K : ∀ (p : Program) (e : Env) (s : State) (m : MethodId) (args : Array Value) (below : List Frame) (meth : Method) (c : Code) (Q : State → Prop), p.tables.exec = Jvm.exec → c.code = cc → c.maxLocals = maxL → s.vm.findClass y.cls = some m.cls → (∀ w ∈ ws, w.before args s = true) → ∀ A : Nat → Prop, va_P D vwCl wc s.heap → KK D cI cZ cB cJ s → va_D A wc → (∀ q : Nat, s.heap.size ≤ q → A q) → va_S A s.heap s.heap [] →
      (fin : ∀ (pc : Nat) (ls : Array Slot) (H : Heap) (locs : List Loc), decode cc pc = .ok (.dreturn, 1) → va_P D vwCl wc' H → va_D A wc' → va_S A s.heap H locs → W p l e rm s m args below meth c H locs 0 0 Q (F0 m pc ls [.double r])) → ∀ ls : Array Slot, lv_has ls maxL lv → W p l e rm s m args below meth c s.heap [] 0 0 Q (F0 m 0 ls [])) : Met l y ws rm (PcW D cI cZ cB cJ sz wc av) (QWd D cI cZ cB cJ sz wc wc' r) 0 0 (va_A wc sz) := by
  refine bodyW hy hw hlen hlv ?_
  intro p e s m below meth c hx hb hr hml hown hts hlocks hsz hP hK hD hA hS ls hl
  exact K p e s m av.toArray below meth c _ hx hb hml hown hts _ hP hK hD hA hS (fun pc ls H locs hd hP1 hD1 hS1 => W.dret hx hb hr (fun t ht hW => ⟨⟨r, (), rfl, rfl, by rw [ht]; exact hP1, hD1⟩, hS1.F ht⟩) hS1.2.2 hd hlocks) ls hl
abbrev exN : List String := ["java/lang/RuntimeException", "java/lang/Exception"]
def xtL : List (Nat × String) := [(60, "no such seat or field"), (74, "an army stands there, or there are 9"), (88, "no such army"), (98, "no such army or field"), (106, "to is no neighbour"), (109, "to is no neighbour, or from is neither to nor a neighbour of to"), (144, "no saved state"), (152, "no snapshot"), (154, "what is not 0 to 6"), (159, "no such field"), (161, "what is not 0 to 4"), (166, "no such seat"), (171, "what is not 0 to 12"), (176, "what is not 0 to 5")]
def XS (U : State) : Prop := ∀ q ∈ xtL, ∃ a : Nat, vk_R RX4 q.1 q.2 a U
theorem XS.warm {s U : State} (h : XS s) (hW : s.WarmedH U.vm) : XS U := fun q hq => (h q hq).imp fun _ ha => vk_R.warm hW ha
theorem XS.same {s U : State} (h : XS s) (e : U.vm = s.vm) : XS U := fun q hq => (h q hq).imp fun _ ha => vk_R.same e ha
def isCast : Cond → Bool
  | .castable _ _ => true
  | .declares _ => true
  | _ => false
theorem warmDe {y : MethodName} {s U : State} (hW : s.WarmedH U.vm) (h : va_Nw (.declares y) s) : va_Nw (.declares y) U := va_tabs rfl (rfl : (s.setVm U.vm).vm = U.vm) (by rw [Cond.declares_setVm hW.alike]; exact h)
def cwL : List Cond := (vx_atS RX4 62 "java/lang/IndexOutOfBoundsException" exN ++ (vx_atS RX4 76 "java/lang/IllegalStateException" exN ++ vx_atS RX4 108 "java/lang/IllegalArgumentException" exN)).filter (fun w => !goodWord w)
theorem cwL_cast : ∀ w ∈ cwL, isCast w = true := by decide +kernel
def CW (U : State) : Prop := ∀ w ∈ cwL, va_Nw w U
theorem CW.warm {s U : State} (h : CW s) (hW : s.WarmedH U.vm) : CW U := by
  intro w hw
  have h1 := h w hw
  have h2 := cwL_cast w hw
  cases w <;> first | exact va_Nw.warmC hW h1 | exact warmDe hW h1 | cases h2
theorem CW.same {s U : State} (h : CW s) (e : s.vm = U.vm) : CW U := by
  intro w hw
  have h1 := h w hw
  have h2 := cwL_cast w hw
  cases w <;> first | exact va_Nw.same rfl e h1 | cases h2
def XZ (A : Nat → Prop) (U : State) (H : Heap) : Prop := vx_Zq Bundle.tN "UNASSIGNED_STACK" Bundle.steD A U H ∧ vx_Zq Bundle.tN "SUPPRESSED_SENTINEL" Bundle.listD A U H
theorem XZ.moved {A : Nat → Prop} {u U : State} {H : Heap} (hvm : u.vm.Alike U.vm) (h : XZ A u H) : XZ A U H := ⟨vx_Zq.moved hvm h.1, vx_Zq.moved hvm h.2⟩
theorem XZ.kept {A : Nat → Prop} {U : State} {H H1 : Heap} (h : XZ A U H) (hq : ∀ a : Nat, a < H.size → ¬ A a → H1[a]? = H[a]?) : XZ A U H1 := ⟨h.1.kept hq, h.2.kept hq⟩
theorem XZ.narrow {A B : Nat → Prop} {U : State} {H : Heap} (h : XZ A U H) (hAB : ∀ q, B q → A q) : XZ B U H := ⟨h.1.narrow hAB, h.2.narrow hAB⟩
theorem ex_IndexOutOfBoundsException_fit : Bundle.fit "java/lang/IndexOutOfBoundsException" = true := by decide +kernel
theorem ex_IndexOutOfBoundsException_cw : ∀ w ∈ (vx_atS RX4 62 "java/lang/IndexOutOfBoundsException" exN).filter (fun w => !goodWord w), w ∈ cwL := by decide +kernel
theorem ex_IndexOutOfBoundsException_ot : ∀ w ∈ Cond.classLink RX4 58 "java/lang/IndexOutOfBoundsException" :: Cond.initialized "java/lang/IndexOutOfBoundsException" :: vx_atS RX4 62 "java/lang/IndexOutOfBoundsException" exN, vx_ot w = true := by decide +kernel
theorem ex_IllegalStateException_fit : Bundle.fit "java/lang/IllegalStateException" = true := by decide +kernel
theorem ex_IllegalStateException_cw : ∀ w ∈ (vx_atS RX4 76 "java/lang/IllegalStateException" exN).filter (fun w => !goodWord w), w ∈ cwL := by decide +kernel
theorem ex_IllegalStateException_ot : ∀ w ∈ Cond.classLink RX4 72 "java/lang/IllegalStateException" :: Cond.initialized "java/lang/IllegalStateException" :: vx_atS RX4 76 "java/lang/IllegalStateException" exN, vx_ot w = true := by decide +kernel
theorem ex_IllegalArgumentException_fit : Bundle.fit "java/lang/IllegalArgumentException" = true := by decide +kernel
theorem ex_IllegalArgumentException_cw : ∀ w ∈ (vx_atS RX4 108 "java/lang/IllegalArgumentException" exN).filter (fun w => !goodWord w), w ∈ cwL := by decide +kernel
theorem ex_IllegalArgumentException_ot : ∀ w ∈ Cond.classLink RX4 104 "java/lang/IllegalArgumentException" :: Cond.initialized "java/lang/IllegalArgumentException" :: vx_atS RX4 108 "java/lang/IllegalArgumentException" exN, vx_ot w = true := by decide +kernel
def PcX (D : va_G) (cI cZ cB cJ : ClassId) (sz : Nat) (wc : va_W) (av : List Value) : Array Value → State → Prop := va_Pc av (fun U => U.heap.size = sz ∧ va_P D vwCl wc U.heap ∧ KK D cI cZ cB cJ U ∧ va_D (fun _ => True) wc ∧ XS U ∧ CW U ∧ XZ (va_A wc sz) U U.heap)
theorem PcX_blind {D : va_G} {cI cZ cB cJ : ClassId} {sz : Nat} {wc : va_W} {av : List Value} : FrameBlind (PcX D cI cZ cB cJ sz wc av) := fun a U g mk h => ⟨h.1, h.2.1, h.2.2.1, h.2.2.2.1.blind g mk a, h.2.2.2.2.1, h.2.2.2.2.2.1.same rfl, h.2.2.2.2.2.2.1.same rfl, h.2.2.2.2.2.2.2.moved (u := U) (U := U.calling g mk a) (Vm.Alike.refl U.vm)⟩
def QXi (D : va_G) (cI cZ cB cJ : ClassId) (sz : Nat) (wc wc' : va_W) (k r : Int32) : Array Value → State → Outcome → State → Prop := va_Qi (fun (r' : Int32) (_ : Unit) => k = 0 ∧ r' = r) (fun _ t => va_P D vwCl wc' t.heap ∧ va_D (va_A wc sz) wc') (va_A wc sz)
def XXc (D : va_G) (exl : List (Int32 × String)) (sz : Nat) (wc wc' : va_W) (k : Int32) : String → State → State → Prop := vx_X (fun (_ : Unit) => True) (fun E _ t => (k, E) ∈ exl ∧ va_P D vwCl wc' t.heap ∧ va_D (va_A wc sz) wc') (va_A wc sz)
theorem bodyX {l : Launch} {y : MethodName} {ws ws' : List Cond} {rm : Room} {D : va_G} {cI cZ cB cJ : ClassId} {sz : Nat} {wc wc' : va_W} {av : List Value} {lv : List (Nat × Value)} {cc : ByteArray} {maxL : Nat} {k r : Int32} {exl : List (Int32 × String)}
    (hst : l.stackTraces = false) (hy : plainName y.cls = true) (hw : ws = Cond.code y cc maxL (some .int) :: ws') (hlen : (lg_sl av).length ≤ maxL) (hlv : lv_args 0 av = lv) (hfr : 6 ≤ rm.frames) (hlo : 82 ≤ rm.locals) (hce : rm.cells = 1) (hsl : rm.slots = 6) (hRX : y.cls = RX4)
    (K : ∀ (p : Program) (e : Env) (s : State) (m : MethodId) (args : Array Value) (below : List Frame) (meth : Method) (c : Code) (Q : State → Prop), p.tables.exec = Jvm.exec → c.code = cc → c.maxLocals = maxL → s.vm.findClass y.cls = some m.cls → (∀ w ∈ ws, w.before args s = true) → ∀ A : Nat → Prop, va_P D vwCl wc s.heap → KK D cI cZ cB cJ s → va_D A wc → (∀ q : Nat, s.heap.size ≤ q → A q) → va_S A s.heap s.heap [] →
      (fin : ∀ (pc : Nat) (ls : Array Slot) (H : Heap) (locs : List Loc), k = 0 → decode cc pc = .ok (.ireturn, 1) → va_P D vwCl wc' H → va_D A wc' → va_S A s.heap H locs → W p l e rm s m args below meth c H locs 0 0 Q (F0 m pc ls [.int r])) →
      (thr : ∀ (pc : Nat) (ls : Array Slot) (H : Heap) (locs : List Loc) (cls text : String) (ik is ic : Nat), ls.size = maxL → (k, cls) ∈ exl → ¬ k = 0 → Bundle.fit cls = true → (is, text) ∈ xtL → Cond.classLink RX4 ik cls ∈ ws → Cond.initialized cls ∈ ws → (∀ w ∈ (vx_atS RX4 ic cls exN).filter goodWord, w ∈ ws) → (∀ w ∈ (vx_atS RX4 ic cls exN).filter (fun w => !goodWord w), w ∈ cwL) → (∀ w ∈ Cond.classLink RX4 ik cls :: Cond.initialized cls :: vx_atS RX4 ic cls exN, vx_ot w = true) →
        decode cc pc = .ok (.new ik, 3) → decode cc (pc + 3) = .ok (.dup, 1) → decode cc (pc + 4) = .ok (.ldc is, 2) → decode cc (pc + 6) = .ok (.invokespecial ic, 3) → decode cc (pc + 9) = .ok (.athrow, 1) → va_P D vwCl wc' H → va_D A wc' → va_S A s.heap H locs → W p l e rm s m args below meth c H locs 0 0 Q (F0 m pc ls [])) →
      ∀ ls : Array Slot, lv_has ls maxL lv → W p l e rm s m args below meth c s.heap [] 0 0 Q (F0 m 0 ls [])) : vx_Met l y ws rm (PcX D cI cZ cB cJ sz wc av) (QXi D cI cZ cB cJ sz wc wc' k r) (XXc D exl sz wc wc' k) 1 6 (va_A wc sz) := by
  refine vx_ofW (cc := cc) (maxL := maxL) (ret := some .int) hy hw ?_
  intro p e s m args below meth c s₁ B hml hex hv
  obtain ⟨rfl, hsz, hP, hK, hD0, hXS, hCW, hXZ⟩ := hv
  have hl := lv_entry av (n := maxL) hlen
  rw [lg_entry_eq]
  rw [hlv] at hl
  have hD := hD0.self (sz := sz)
  have hx := B.exec
  have hb := B.bytes
  have hts := atoms_spec (ws := ws) B.pre
  have hown : s.vm.findClass RX4 = some m.cls := by rw [← hRX]; exact findClass_of_methodNamed B.named
  refine K p e s m av.toArray below meth c (vx_MQ below (QXi D cI cZ cB cJ sz wc wc' k r) (XXc D exl sz wc wc' k) av.toArray s 1 6 (va_A wc sz)) hx hb hml (findClass_of_methodNamed B.named) hts (va_A wc sz) hP hK hD (fun q h => Or.inr (hsz ▸ h)) va_S.rf ?_ ?_ _ hl
  · intro pc ls H locs hk hd hP1 hD1 hS1
    refine vx_ret ?_
    refine W.widen (k := 1) (n := 6) (Nat.zero_le _) (Nat.zero_le _) ?_
    exact W.iret hx hb B.returns (fun t ht hW => ⟨⟨r, (), rfl, ⟨hk, rfl⟩, by rw [ht]; exact hP1, hD1⟩, hS1.F ht⟩) hS1.2.2 hd B.notSynchronized
  · intro pc ls H locs cls text ik is ic hls hkc hk0 hfit htx hck hini hat1 hat2 hot d0 d3 d4 d6 d9 hP1 hD1 hS1
    obtain ⟨sa, hsa⟩ := hXS (is, text) htx
    refine vx_throwS (A := va_A wc sz) (names := exN) (sa := sa) hx hb hst hown hfit (by decide +kernel) (hts _ hck) (hts _ hini) hsa ?_ hot hXZ.1 hXZ.2 hS1 (hls.trans hml.symm) d0 d3 d4 d6 d9 (fun x hx => (hex x hx).elim) ?_ ?_ ?_ ?_ B.notSynchronized ?_ hS1.2.2 (Nat.le_refl _) (Nat.le_refl _)
    · exact vx_hat (B := cwL) (fun w hw => hts w (hat1 w hw)) hat2 (fun w hw => by
        have h1 := hCW w hw
        have h2 := cwL_cast w hw
        cases w <;> first | exact va_Nw.use rfl h1 | cases h2)
    · exact hfr
    · exact hlo
    · rw [hce]; exact Nat.le_refl _
    · rw [hsl]; exact Nat.le_refl _
    · intro t hal hz hk
      refine ⟨(), trivial, ⟨hkc, ?_, hD1⟩, ?_⟩
      · exact hP1.kept (fun i q hq => hk q.1 (hP1 i q hq).lt)
      · exact ⟨Nat.le_trans hS1.1 hz, fun q h1 h2 => (hk q (Nat.lt_of_lt_of_le h1 hS1.1)).trans (hS1.2.1 q h1 h2)⟩
