/-! shares and their bits -/
theorem lN_pred : ∀ n, n < 1024 → lN (n + 1) - 1 = lN n := by decide +kernel
theorem lN_shl : ∀ n, n < 1024 → lN n <<< ((52 : Int32).toInt64 &&& 63) = lN n * 4503599627370496 := by decide +kernel
theorem cg_eq : (0 : Int32) ≤ Op.cmpValue (some .eq) .g := by decide
theorem cg_gt : (0 : Int32) ≤ Op.cmpValue (some .gt) .g := by decide
theorem cg_lt : ¬ (0 : Int32) ≤ Op.cmpValue (some .lt) .g := by decide
theorem x_bitsL {T : Nat} : ∀ (j i nf nf' E : Nat) (v : UInt64), Gd v E T → E + j = 1023 → i + j ≤ 1022 → j < nf → j < nf' → ∃ w, Gd w 1023 T ∧ g_X4_bitsOf_L1 nf v (lN (1023 - i)) (nI i) = some (w, lN (1023 - i - j)) ∧ g_X5_bitsOf_L1 nf' (lN (1023 - i)) v = some (lN (1023 - i - j), w) := by
  intro j
  induction j with
  | zero =>
    intro i nf nf' E v hv hE hi hf hf'
    obtain ⟨nf, rfl⟩ : ∃ k, nf = k + 1 := ⟨nf - 1, by omega⟩
    obtain ⟨nf', rfl⟩ : ∃ k, nf' = k + 1 := ⟨nf' - 1, by omega⟩
    have hc : (0 : Int32) ≤ Op.cmpValue (FP.dcmp v FP.dconst1) .g := by
      rw [fq_one hv (by omega), if_pos (by omega)]
      by_cases q : T = 0
      · rw [if_pos q]; exact cg_eq
      · rw [if_neg q]; exact cg_gt
    obtain rfl : E = 1023 := by omega
    refine ⟨v, hv, ?_, ?_⟩
    · rw [g_X4_bitsOf_L1, if_pos hc, Nat.sub_zero]
      split <;> rfl
    · rw [g_X5_bitsOf_L1, if_pos hc, Nat.sub_zero]
  | succ j ih =>
    intro i nf nf' E v hv hE hi hf hf'
    obtain ⟨nf, rfl⟩ : ∃ k, nf = k + 1 := ⟨nf - 1, by omega⟩
    obtain ⟨nf', rfl⟩ : ∃ k, nf' = k + 1 := ⟨nf' - 1, by omega⟩
    have hc : ¬ (0 : Int32) ≤ Op.cmpValue (FP.dcmp v FP.dconst1) .g := by
      rw [fq_one hv (by omega), if_neg (by omega)]; exact cg_lt
    have hd := fq_mul (j := 1) hv Gd_2 (by omega) (by decide)
    obtain ⟨w, h1, h2, h3⟩ := ih (i + 1) nf nf' (E + 1) (FP.dmul v 4611686018427387904) hd (by omega) (by omega) (by omega) (by omega)
    have hp : lN (1023 - i) - 1 = lN (1023 - (i + 1)) := by
      rw [show 1023 - i = (1023 - (i + 1)) + 1 by omega]; exact lN_pred _ (by omega)
    refine ⟨w, h1, ?_, ?_⟩
    · rw [g_X4_bitsOf_L1, past (M := 1022) 1022 rfl (show i < 1022 by omega) (by decide), if_neg hc, hd.nd, hp, nI_1, h2, show 1023 - (i + 1) - j = 1023 - i - (j + 1) by omega]
    · rw [g_X5_bitsOf_L1, if_neg hc, hd.nd, hp, h3, show 1023 - (i + 1) - j = 1023 - i - (j + 1) by omega]
def ShOK (v : UInt64) : Prop := (∃ E T, Gd v E T ∧ E ≤ 1023) ∨ v = UInt64.ofNat 0
theorem ShOK.nd {v : UInt64} (h : ShOK v) {α : Type} {k : UInt64 → Option α} : ndA v k = k v := by
  rcases h with ⟨E, T, h, _⟩ | rfl
  · exact h.nd
  · exact nd_of (by decide)
theorem ShOK.self {v : UInt64} (h : ShOK v) : Op.cmpValue (FP.dcmp v v) .l = 0 := by
  rcases h with ⟨E, T, h, _⟩ | rfl
  · rw [fq_self h]; rfl
  · decide +kernel
theorem ShOK.bits {v : UInt64} (h : ShOK v) : ∃ z, g_X4_bitsOf v = some z ∧ g_X5_bitsOf v = some z := by
  rcases h with ⟨E, T, h, hE⟩ | rfl
  · obtain ⟨w, h1, h2, h3⟩ := x_bitsL (1023 - E) 0 FU FU E v h (by omega) (by have := h.1; omega) (by show _ < 5000; omega) (by show _ < 5000; omega)
    obtain ⟨y, hy⟩ := fq_frac h1
    refine ⟨lN (1023 - 0 - (1023 - E)) * 4503599627370496 + FP.d2l y, ?_, ?_⟩
    · rw [g_X4_bitsOf, fq_zero h, if_pos (by decide), show g_X4_bitsOf_L1 FU v 1023 0 = some (w, lN (1023 - 0 - (1023 - E))) from h2, b2_some, hy, lN_shl _ (by omega)]
    · rw [g_X5_bitsOf, fq_zero h, if_neg (by decide), show g_X5_bitsOf_L1 FU 1023 v = some (lN (1023 - 0 - (1023 - E)), w) from h3, b2_some, hy]
  · refine ⟨0, ?_, ?_⟩
    · have e : FP.dcmp (UInt64.ofNat 0) FP.dconst0 = some .eq := by decide +kernel
      rw [g_X4_bitsOf, e, if_neg (by decide)]
    · have e : FP.dcmp (UInt64.ofNat 0) FP.dconst0 = some .eq := by decide +kernel
      rw [g_X5_bitsOf, e, if_pos (by decide)]
theorem log2_le {a c : Nat} (h0 : 0 < a) (h : a ≤ c) : a.log2 ≤ c.log2 := by
  have a1 : 2 ^ a.log2 ≤ a := Nat.log2_self_le (by omega)
  have a2 : c < 2 ^ (c.log2 + 1) := Nat.lt_log2_self
  refine Nat.le_of_not_lt (fun w => ?_)
  have : 2 ^ (c.log2 + 1) ≤ 2 ^ a.log2 := Nat.pow_le_pow_right (by decide) w
  omega
theorem fq_quot0 {d : Nat} {q r : Int} (h : 0 < d) : FP.Core.quotient FP.Core.b64 (.fin false 0 q) (.fin false d r) = .fin false 0 (-1074) := by
  have e : FP.Core.quotient FP.Core.b64 (.fin false 0 q) (.fin false d r) = if d = 0 then (if (0 : Nat) = 0 then FP.Core.Datum.nan else FP.Core.Datum.inf (false != false)) else FP.Core.roundRatio FP.Core.b64 (false != false) 0 d (q - r) := rfl
  rw [e, if_neg (by omega)]
  unfold FP.Core.roundRatio
  rw [if_pos rfl, fq_qmin]
  rfl
theorem fq_share {a c : Nat} (hc : 0 < c) (ha : a ≤ c) (hm : c < 100000) : ShOK (FP.ddiv (FP.i2d (nI a)) (FP.i2d (nI c))) := by
  obtain ⟨l2, d1, d2, dc⟩ := fq_i2d hc hm
  by_cases h0 : a = 0
  · subst h0
    refine Or.inr ?_
    have e0 : FP.i2d (nI 0) = UInt64.ofNat 0 := by decide +kernel
    have hd := dc.d
    rw [e0]
    show UInt64.ofNat (FP.Core.encode FP.Core.b64 (FP.Core.quotient FP.Core.b64 (FP.Core.decode FP.Core.b64 (UInt64.ofNat 0).toNat) (FP.Core.decode FP.Core.b64 (FP.i2d (nI c)).toNat))) = _
    rw [hd, show FP.Core.decode FP.Core.b64 (UInt64.ofNat 0).toNat = .fin false 0 (-1074) by decide +kernel]
    rw [fq_quot0 (by omega)]
    decide +kernel
  · obtain ⟨l1, c1, c2, dx⟩ := fq_i2d (a := a) (by omega) (by omega)
    refine Or.inl ?_
    have hl := log2_le (by omega) ha
    obtain ⟨E, T, h1, h2⟩ := fq_div dx dc (by omega) (by omega) (by omega) (by
      by_cases q : a.log2 = c.log2
      · refine Or.inr ⟨by omega, ?_⟩
        rw [q]
        have := Nat.mul_le_mul_right (2 ^ (52 - c.log2)) ha
        omega
      · exact Or.inl (by omega))
    exact ⟨E, T, h1, h2⟩
section SH
variable {K n : Nat} {bN bO bC s : Nat → Int32}
theorem x_share (hok : okS K n s) (hE : eqB n bN bO bC s) (hK : K ≤ 512) : ∃ v, ShOK v ∧ g_X4_successShare bN = some v ∧ g_X5_share s = some v := by
  obtain ⟨_, _, _, ⟨a, b, ha, hb, e3, e4⟩, _, _, _⟩ := hok
  have n4 : g_X0_number bN 4 = some (nI a) := (x0_number (k := 4) (by decide)).trans (by rw [hE.2.1 3 (by decide), e3])
  have n5 : g_X0_number bN 5 = some (nI b) := (x0_number (k := 5) (by decide)).trans (by rw [hE.2.1 4 (by decide), e4])
  by_cases h : a + b = 0
  · refine ⟨FP.dconst1, Or.inl ⟨1023, 0, Gd_1, Nat.le_refl _⟩, ?_, ?_⟩
    · rw [g_X4_successShare, n4, bd_some, n5, bd_some, nI_add, h, if_pos (show nI 0 ≤ 0 by decide), g_X4_successShare_J1]
    · rw [g_X5_share, r77_3, r77_4, e3, e4, nI_add, h, if_pos (show nI 0 = 0 from rfl), g_X5_share_J1]
  · have hs : ShOK (FP.ddiv (FP.i2d (nI a)) (FP.i2d (nI (a + b)))) := fq_share (by omega) (by omega) (by omega)
    refine ⟨_, hs, ?_, ?_⟩
    · rw [g_X4_successShare, n4, bd_some, n5, bd_some, nI_add, if_neg (nI_nle (by omega) (by omega)), hs.nd, g_X4_successShare_J1]
    · rw [g_X5_share, r77_3, r77_4, e3, e4, nI_add, if_neg (nI_ne0 (by omega) (by omega)), r77_3, e3, hs.nd, g_X5_share_J1]
end SH
