/-! doubles: what a share is made of -/
theorem fq_qmin : FP.Core.b64.qmin = -1074 := by decide
theorem fq_qmax : FP.Core.b64.qmax = 971 := by decide
theorem fq_p : FP.Core.b64.p = 53 := rfl
theorem fq_tails : FP.Core.b64.tails = 4503599627370496 := by decide
theorem fq_exps : FP.Core.b64.exps = 2048 := by decide
theorem fq_dec {E T : Nat} (h1 : 1 ≤ E) (h2 : E ≤ 2046) (hT : T < 4503599627370496) : FP.Core.decode FP.Core.b64 (E * 4503599627370496 + T) = .fin false (4503599627370496 + T) ((E : Int) - 1075) := by
  have eT : FP.Core.fieldT FP.Core.b64 (E * 4503599627370496 + T) = T := by unfold FP.Core.fieldT; rw [fq_tails]; omega
  have eE : FP.Core.fieldE FP.Core.b64 (E * 4503599627370496 + T) = E := by unfold FP.Core.fieldE; rw [fq_tails, fq_exps]; omega
  have eS : FP.Core.fieldS FP.Core.b64 (E * 4503599627370496 + T) = false := by
    unfold FP.Core.fieldS
    rw [fq_tails, fq_exps, show (E * 4503599627370496 + T) / 4503599627370496 / 2048 % 2 = 0 by omega]
    rfl
  unfold FP.Core.decode
  rw [eE, eT, eS, fq_exps, fq_tails, fq_qmin, if_neg (by omega), if_neg (by omega)]
  congr 1
  omega
theorem fq_enc {E T : Nat} (h1 : 1 ≤ E) (hT : T < 4503599627370496) : FP.Core.encode FP.Core.b64 (.fin false (4503599627370496 + T) ((E : Int) - 1075)) = E * 4503599627370496 + T := by
  show (if 4503599627370496 + T < FP.Core.b64.tails then FP.Core.assemble FP.Core.b64 false 0 (4503599627370496 + T) else FP.Core.assemble FP.Core.b64 false (((E : Int) - 1075 - FP.Core.b64.qmin).toNat + 1) (4503599627370496 + T - FP.Core.b64.tails)) = _
  rw [fq_tails, fq_qmin, if_neg (by omega), show ((E : Int) - 1075 - -1074).toNat + 1 = E by omega, Nat.add_sub_cancel_left]
  unfold FP.Core.assemble
  rw [fq_tails, show (false : Bool).toNat = 0 from rfl, Nat.zero_mul, Nat.zero_add]
/-- a normal number, positive: exponent and fraction as they are written -/
def Gd (v : UInt64) (E T : Nat) : Prop := 1 ≤ E ∧ E ≤ 2046 ∧ T < 4503599627370496 ∧ v = UInt64.ofNat (E * 4503599627370496 + T)
section FQ
variable {v w : UInt64} {E T : Nat}
theorem u64_n {n : Nat} (h : n < 2 ^ 64) : (UInt64.ofNat n).toNat = n := Nat.mod_eq_of_lt h
theorem fin_c {a b : Nat} {x y : Int} (h1 : a = b) (h2 : x = y) : FP.Core.Datum.fin false a x = FP.Core.Datum.fin false b y := by rw [h1, h2]
theorem Gd.n (h : Gd v E T) : v.toNat = E * 4503599627370496 + T := by
  obtain ⟨h1, h2, h3, rfl⟩ := h
  exact u64_n (by omega)
theorem Gd.d (h : Gd v E T) : FP.Core.decode FP.Core.b64 v.toNat = .fin false (4503599627370496 + T) ((E : Int) - 1075) := by
  rw [h.n]; exact fq_dec h.1 h.2.1 h.2.2.1
theorem nd_of {n : Nat} (h : n ≤ 9218868437227405312) {α : Type} {k : UInt64 → Option α} : ndA (UInt64.ofNat n) k = k (UInt64.ofNat n) := by
  unfold ndA
  refine if_pos ?_
  have e : (UInt64.ofNat n).toNat = n := u64_n (by omega)
  have e2 : ((UInt64.ofNat n) &&& 0x7fffffffffffffff).toNat = n := by
    rw [UInt64.toNat_and, e, show (0x7fffffffffffffff : UInt64).toNat = 2 ^ 63 - 1 from rfl, Nat.and_two_pow_sub_one_eq_mod]
    exact Nat.mod_eq_of_lt (by omega)
  rw [UInt64.le_iff_toNat_le, e2]
  exact h
theorem Gd.nd (h : Gd v E T) {α : Type} {k : UInt64 → Option α} : ndA v k = k v := by
  obtain ⟨h1, h2, h3, rfl⟩ := h
  exact nd_of (by omega)
/-- what comes of a rounded number -/
theorem Gd.mk' (h1 : 1 ≤ E) (h2 : E ≤ 2046) (h3 : T < 4503599627370496) {d : FP.Core.Datum} (hd : d = .fin false (4503599627370496 + T) ((E : Int) - 1075)) : Gd (UInt64.ofNat (FP.Core.encode FP.Core.b64 d)) E T :=
  ⟨h1, h2, h3, by rw [hd, fq_enc h1 h3]⟩
theorem fq_near1 (x : Nat) : FP.Core.nearest x 1 = x := by
  unfold FP.Core.nearest
  rw [if_pos (by rw [Nat.mod_one]; decide), Nat.div_one]
theorem fq_settle {N : Nat} {Q : Int} (h : N < 9007199254740992) (hQ : Q ≤ 971) : FP.Core.settle FP.Core.b64 false N Q = .fin false N Q := by
  unfold FP.Core.settle FP.Core.bound
  rw [fq_p, if_pos (show N < 2 ^ 53 from h), fq_qmax, if_pos hQ]
theorem fq_settle2 {Q : Int} (hQ : Q + 1 ≤ 971) : FP.Core.settle FP.Core.b64 false 9007199254740992 Q = .fin false 4503599627370496 (Q + 1) := by
  unfold FP.Core.settle FP.Core.bound
  rw [fq_p, if_neg (show ¬ 9007199254740992 < 2 ^ 53 by decide), fq_qmax, if_pos hQ, fq_tails]
/-- a whole number is rounded to itself -/
theorem fq_int {N : Nat} {e : Int} (h0 : 0 < N) (h : N < 9007199254740992) (he : -900 ≤ e) (he2 : e ≤ 900) : N.log2 ≤ 52 ∧ 4503599627370496 ≤ N * 2 ^ (52 - N.log2) ∧ N * 2 ^ (52 - N.log2) < 9007199254740992 ∧
    FP.Core.roundRatio FP.Core.b64 false N 1 e = .fin false (N * 2 ^ (52 - N.log2)) ((N.log2 : Int) + e - 52) := by
  have a1 : 2 ^ N.log2 ≤ N := Nat.log2_self_le (by omega)
  have a2 : N < 2 ^ (N.log2 + 1) := Nat.lt_log2_self
  have hl : N.log2 ≤ 52 := by
    refine Nat.le_of_not_lt (fun w => ?_)
    have : 2 ^ 53 ≤ 2 ^ N.log2 := Nat.pow_le_pow_right (by decide) w
    have e53 : (2 : Nat) ^ 53 = 9007199254740992 := by decide
    omega
  have b1 : 4503599627370496 ≤ N * 2 ^ (52 - N.log2) := by
    have : 2 ^ N.log2 * 2 ^ (52 - N.log2) ≤ N * 2 ^ (52 - N.log2) := Nat.mul_le_mul_right _ a1
    rw [← Nat.pow_add, show N.log2 + (52 - N.log2) = 52 by omega] at this
    exact this
  have b2 : N * 2 ^ (52 - N.log2) < 9007199254740992 := by
    have : N * 2 ^ (52 - N.log2) < 2 ^ (N.log2 + 1) * 2 ^ (52 - N.log2) := Nat.mul_lt_mul_of_pos_right a2 (Nat.two_pow_pos _)
    rw [← Nat.pow_add, show N.log2 + 1 + (52 - N.log2) = 53 by omega] at this
    exact this
  refine ⟨hl, b1, b2, ?_⟩
  have lead : FP.Core.leading N 1 = (N.log2 : Int) := by
    unfold FP.Core.leading
    rw [show Nat.log2 1 = 0 from by decide]
    show (if 1 * 2 ^ ((N.log2 : Int) - ((0 : Nat) : Int)).toNat ≤ N * 2 ^ (-((N.log2 : Int) - ((0 : Nat) : Int))).toNat then _ else _) = _
    rw [show ((N.log2 : Int) - ((0 : Nat) : Int)).toNat = N.log2 by omega, show (-((N.log2 : Int) - ((0 : Nat) : Int))).toNat = 0 by omega, Nat.one_mul, Nat.pow_zero, Nat.mul_one, if_pos a1]
    omega
  have hq : FP.Core.quantum FP.Core.b64 N 1 e = (N.log2 : Int) + e - 52 := by
    unfold FP.Core.quantum
    rw [lead, fq_qmin, fq_p]
    omega
  unfold FP.Core.roundRatio
  rw [if_neg (by omega), hq]
  unfold FP.Core.roundAt FP.Core.unitsNum FP.Core.unitsDen
  rw [show (e - ((N.log2 : Int) + e - 52)).toNat = 52 - N.log2 by omega, show (((N.log2 : Int) + e - 52) - e).toNat = 0 by omega, Nat.pow_zero, Nat.one_mul, fq_near1]
  exact fq_settle b2 (by omega)
theorem fq_i2d {a : Nat} (h0 : 0 < a) (h : a < 100000) : a.log2 ≤ 52 ∧ 4503599627370496 ≤ a * 2 ^ (52 - a.log2) ∧ a * 2 ^ (52 - a.log2) < 9007199254740992 ∧ Gd (FP.i2d (nI a)) (a.log2 + 1023) (a * 2 ^ (52 - a.log2) - 4503599627370496) := by
  obtain ⟨k1, k2, k3, k4⟩ := fq_int (N := a) (e := 0) h0 (by omega) (by decide) (by decide)
  refine ⟨k1, k2, k3, ?_⟩
  have e : FP.i2d (nI a) = UInt64.ofNat (FP.Core.encode FP.Core.b64 (FP.Core.roundRatio FP.Core.b64 false a 1 0)) := by
    show UInt64.ofNat (FP.Core.encode FP.Core.b64 (FP.Core.round FP.Core.b64 (FP.Core.ofInt (nI a).toInt))) = _
    rw [nI_toInt (by omega)]
    show UInt64.ofNat (FP.Core.encode FP.Core.b64 (FP.Core.roundRatio FP.Core.b64 (decide ((a : Int) < 0)) (a : Int).natAbs 1 0)) = _
    rw [decide_eq_false (by omega), Int.natAbs_natCast]
  rw [e]
  refine Gd.mk' (by omega) (by omega) (by omega) ?_
  rw [k4]
  exact fin_c (by omega) (by omega)
theorem fq_lead {c d : Nat} (c1 : 4503599627370496 ≤ c) (c2 : c < 9007199254740992) (d1 : 4503599627370496 ≤ d) (d2 : d < 9007199254740992) : FP.Core.leading c d = if d ≤ c then 0 else -1 := by
  have l : ∀ x, 4503599627370496 ≤ x → x < 9007199254740992 → x.log2 = 52 := fun x h1 h2 => by
    have a1 : 2 ^ x.log2 ≤ x := Nat.log2_self_le (by omega)
    have a2 : x < 2 ^ (x.log2 + 1) := Nat.lt_log2_self
    have u : x.log2 < 53 := by
      refine Nat.lt_of_not_le (fun w => ?_)
      have : 2 ^ 53 ≤ 2 ^ x.log2 := Nat.pow_le_pow_right (by decide) w
      have e53 : (2 : Nat) ^ 53 = 9007199254740992 := by decide
      omega
    have u2 : 52 ≤ x.log2 := by
      refine Nat.le_of_not_lt (fun w => ?_)
      have : 2 ^ (x.log2 + 1) ≤ 2 ^ 52 := Nat.pow_le_pow_right (by decide) w
      have e52 : (2 : Nat) ^ 52 = 4503599627370496 := by decide
      omega
    omega
  unfold FP.Core.leading
  rw [l c c1 c2, l d d1 d2]
  show (if d * 2 ^ (((52 : Nat) : Int) - ((52 : Nat) : Int)).toNat ≤ c * 2 ^ (-(((52 : Nat) : Int) - ((52 : Nat) : Int))).toNat then _ else _) = _
  rw [show (((52 : Nat) : Int) - ((52 : Nat) : Int)).toNat = 0 by omega, show (-(((52 : Nat) : Int) - ((52 : Nat) : Int))).toNat = 0 by omega, Nat.pow_zero, Nat.mul_one, Nat.mul_one]
  by_cases q : d ≤ c
  · rw [if_pos q, if_pos q]; rfl
  · rw [if_neg q, if_neg q]; rfl
theorem fq_near {A B M : Nat} (hB : 0 < B) (h1 : M * B ≤ A) (h2 : A < 2 * M * B) : M ≤ FP.Core.nearest A B ∧ FP.Core.nearest A B ≤ 2 * M := by
  have a1 : M ≤ A / B := (Nat.le_div_iff_mul_le hB).mpr h1
  have a2 : A / B < 2 * M := (Nat.div_lt_iff_lt_mul hB).mpr h2
  unfold FP.Core.nearest
  split
  · omega
  · split <;> omega
/-- a share: not greater than one, and normal -/
theorem fq_div {x y : UInt64} {E1 T1 E2 T2 : Nat} (hx : Gd x E1 T1) (hy : Gd y E2 T2) (b1 : 1000 ≤ E1) (b2 : E2 ≤ 1100) (b3 : 1000 ≤ E2) (h : E1 < E2 ∨ (E1 = E2 ∧ T1 ≤ T2)) : ∃ E T, Gd (FP.ddiv x y) E T ∧ E ≤ 1023 := by
  have dx := hx.d
  have dy := hy.d
  obtain ⟨_, _, t1, _⟩ := hx
  obtain ⟨_, _, t2, _⟩ := hy
  obtain ⟨c, hc⟩ : ∃ c, c = 4503599627370496 + T1 := ⟨_, rfl⟩
  obtain ⟨d, hd⟩ : ∃ d, d = 4503599627370496 + T2 := ⟨_, rfl⟩
  rw [← hc] at dx
  rw [← hd] at dy
  have e0 : FP.ddiv x y = UInt64.ofNat (FP.Core.encode FP.Core.b64 (FP.Core.roundRatio FP.Core.b64 false c d (((E1 : Int) - 1075) - ((E2 : Int) - 1075)))) := by
    show UInt64.ofNat (FP.Core.encode FP.Core.b64 (FP.Core.quotient FP.Core.b64 (FP.Core.decode FP.Core.b64 x.toNat) (FP.Core.decode FP.Core.b64 y.toNat))) = _
    rw [dx, dy]
    show UInt64.ofNat (FP.Core.encode FP.Core.b64 (if d = 0 then _ else FP.Core.roundRatio FP.Core.b64 (false != false) c d _)) = _
    rw [if_neg (by omega)]; rfl
  rw [e0]
  have hl := fq_lead (c := c) (d := d) (by omega) (by omega) (by omega) (by omega)
  obtain ⟨e, he⟩ : ∃ e : Int, e = ((E1 : Int) - 1075) - ((E2 : Int) - 1075) := ⟨_, rfl⟩
  rw [← he]
  unfold FP.Core.roundRatio
  rw [if_neg (by omega)]
  by_cases q : d ≤ c
  · rw [if_pos q] at hl
    have hq : FP.Core.quantum FP.Core.b64 c d e = e - 52 := by
      unfold FP.Core.quantum
      rw [hl, fq_qmin, fq_p]
      omega
    rw [hq]
    unfold FP.Core.roundAt FP.Core.unitsNum FP.Core.unitsDen
    rw [show (e - (e - 52)).toNat = 52 by omega, show (e - 52 - e).toNat = 0 by omega, Nat.pow_zero, Nat.mul_one]
    have e52 : (2 : Nat) ^ 52 = 4503599627370496 := by decide
    have hn := fq_near (A := c * 2 ^ 52) (B := d) (M := 4503599627370496) (by omega) (by rw [e52, Nat.mul_comm]; exact Nat.mul_le_mul_right _ q) (by
      rw [e52, Nat.mul_comm c]
      have : 4503599627370496 * c < 4503599627370496 * (2 * d) := Nat.mul_lt_mul_of_pos_left (by omega) (by decide)
      omega)
    obtain ⟨N, hN⟩ : ∃ N, N = FP.Core.nearest (c * 2 ^ 52) d := ⟨_, rfl⟩
    rw [← hN] at hn ⊢
    by_cases q2 : N < 9007199254740992
    · rw [fq_settle q2 (by omega)]
      by_cases q3 : E1 = E2
      · exact ⟨1023, N - 4503599627370496, Gd.mk' (by decide) (by decide) (by omega) (fin_c (by omega) (by omega)), by decide⟩
      · exact ⟨(e + 1023).toNat, N - 4503599627370496, Gd.mk' (by omega) (by omega) (by omega) (fin_c (by omega) (by omega)), by omega⟩
    · have hN2 : N = 9007199254740992 := by omega
      have hne : E1 ≠ E2 := fun w => by
        have hcd : c = d := by omega
        rw [hcd, hN2] at hN
        have : FP.Core.nearest (d * 2 ^ 52) d = 2 ^ 52 := by
          unfold FP.Core.nearest
          rw [Nat.mul_mod_right, if_pos (by omega), Nat.mul_div_cancel_left _ (by omega)]
        rw [this, e52] at hN
        omega
      rw [hN2, fq_settle2 (by omega)]
      exact ⟨(e + 1024).toNat, 0, Gd.mk' (by omega) (by omega) (by omega) (fin_c (by omega) (by omega)), by omega⟩
  · rw [if_neg q] at hl
    have hq : FP.Core.quantum FP.Core.b64 c d e = e - 53 := by
      unfold FP.Core.quantum
      rw [hl, fq_qmin, fq_p]
      omega
    rw [hq]
    unfold FP.Core.roundAt FP.Core.unitsNum FP.Core.unitsDen
    rw [show (e - (e - 53)).toNat = 53 by omega, show (e - 53 - e).toNat = 0 by omega, Nat.pow_zero, Nat.mul_one]
    have e53 : (2 : Nat) ^ 53 = 9007199254740992 := by decide
    have hn := fq_near (A := c * 2 ^ 53) (B := d) (M := 4503599627370496) (by omega) (by rw [e53]; omega) (by rw [e53]; omega)
    obtain ⟨N, hN⟩ : ∃ N, N = FP.Core.nearest (c * 2 ^ 53) d := ⟨_, rfl⟩
    rw [← hN] at hn ⊢
    by_cases q2 : N < 9007199254740992
    · rw [fq_settle q2 (by omega)]
      exact ⟨(e + 1022).toNat, N - 4503599627370496, Gd.mk' (by omega) (by omega) (by omega) (fin_c (by omega) (by omega)), by omega⟩
    · have hN2 : N = 9007199254740992 := by omega
      rw [hN2, fq_settle2 (by omega)]
      exact ⟨(e + 1023).toNat, 0, Gd.mk' (by omega) (by omega) (by omega) (fin_c (by omega) (by omega)), by omega⟩
/-- times a power of two -/
theorem fq_mul {x : UInt64} {j : Nat} (h : Gd v E T) (hx : Gd x (1023 + j) 0) (hE : E + j ≤ 2046) (hj : j ≤ 60) : Gd (FP.dmul v x) (E + j) T := by
  have dv := h.d
  have dx := hx.d
  obtain ⟨h1, h2, h3, _⟩ := h
  have e0 : FP.dmul v x = UInt64.ofNat (FP.Core.encode FP.Core.b64 (FP.Core.roundRatio FP.Core.b64 false ((4503599627370496 + T) * 4503599627370496) 1 (((E : Int) - 1075) + (((1023 + j : Nat) : Int) - 1075)))) := by
    show UInt64.ofNat (FP.Core.encode FP.Core.b64 (FP.Core.round FP.Core.b64 (FP.Core.exactProduct (FP.Core.decode FP.Core.b64 v.toNat) (FP.Core.decode FP.Core.b64 x.toNat)))) = _
    rw [dv, dx]; rfl
  rw [e0]
  obtain ⟨e, he⟩ : ∃ e : Int, e = ((E : Int) - 1075) + (((1023 + j : Nat) : Int) - 1075) := ⟨_, rfl⟩
  rw [← he]
  have hlog : ((4503599627370496 + T) * 4503599627370496).log2 = 104 := by
    have a1 : 2 ^ ((4503599627370496 + T) * 4503599627370496).log2 ≤ (4503599627370496 + T) * 4503599627370496 := Nat.log2_self_le (by omega)
    have a2 : (4503599627370496 + T) * 4503599627370496 < 2 ^ (((4503599627370496 + T) * 4503599627370496).log2 + 1) := Nat.lt_log2_self
    generalize ((4503599627370496 + T) * 4503599627370496).log2 = l at a1 a2
    have e104 : (2 : Nat) ^ 104 = 20282409603651670423947251286016 := by decide
    have e105 : (2 : Nat) ^ 105 = 40564819207303340847894502572032 := by decide
    have u : l < 105 := Nat.lt_of_not_le (fun w => by
      have : 2 ^ 105 ≤ 2 ^ l := Nat.pow_le_pow_right (by decide) w
      omega)
    have u2 : 104 ≤ l := Nat.le_of_not_lt (fun w => by
      have : 2 ^ (l + 1) ≤ 2 ^ 104 := Nat.pow_le_pow_right (by decide) w
      omega)
    omega
  have e104 : (2 : Nat) ^ 104 = 20282409603651670423947251286016 := by decide
  have lead : FP.Core.leading ((4503599627370496 + T) * 4503599627370496) 1 = 104 := by
    unfold FP.Core.leading
    rw [hlog, show Nat.log2 1 = 0 from by decide]
    show (if 1 * 2 ^ (((104 : Nat) : Int) - ((0 : Nat) : Int)).toNat ≤ (4503599627370496 + T) * 4503599627370496 * 2 ^ (-(((104 : Nat) : Int) - ((0 : Nat) : Int))).toNat then _ else _) = _
    rw [show (((104 : Nat) : Int) - ((0 : Nat) : Int)).toNat = 104 by omega, show (-(((104 : Nat) : Int) - ((0 : Nat) : Int))).toNat = 0 by omega, Nat.pow_zero, Nat.mul_one, Nat.one_mul, e104, if_pos (by omega)]
    rfl
  have hq : FP.Core.quantum FP.Core.b64 ((4503599627370496 + T) * 4503599627370496) 1 e = e + 52 := by
    unfold FP.Core.quantum
    rw [lead, fq_qmin, fq_p]
    omega
  unfold FP.Core.roundRatio
  rw [if_neg (by omega), hq]
  unfold FP.Core.roundAt FP.Core.unitsNum FP.Core.unitsDen
  have e52 : (2 : Nat) ^ 52 = 4503599627370496 := by decide
  have nr : FP.Core.nearest ((4503599627370496 + T) * 4503599627370496) 4503599627370496 = 4503599627370496 + T := by
    unfold FP.Core.nearest
    rw [Nat.mul_mod_left, if_pos (by decide), Nat.mul_div_cancel _ (by decide)]
  rw [show (e - (e + 52)).toNat = 0 by omega, show (e + 52 - e).toNat = 52 by omega, Nat.pow_zero, Nat.mul_one, Nat.one_mul, e52, nr, fq_settle (by omega) (by omega)]
  exact Gd.mk' (by omega) (by omega) h3 (fin_c (by omega) (by omega))
theorem Gd_1 : Gd FP.dconst1 1023 0 := ⟨by decide, by decide, by decide, by decide⟩
theorem Gd_2 : Gd 4611686018427387904 (1023 + 1) 0 := ⟨by decide, by decide, by decide, by decide⟩
theorem Gd_52 : Gd 4841369599423283200 (1023 + 52) 0 := ⟨by decide, by decide, by decide, by decide⟩
theorem cmp_int {a b : Int} : compare a b = if a < b then .lt else if a = b then .eq else .gt := rfl
/-- against one -/
theorem fq_one (h : Gd v E T) (hE : E ≤ 1023) : FP.dcmp v FP.dconst1 = if E = 1023 then (if T = 0 then some .eq else some .gt) else some .lt := by
  have dv := h.d
  have d1 := Gd_1.d
  obtain ⟨h1, h2, h3, _⟩ := h
  have e0 : FP.dcmp v FP.dconst1 = FP.Core.order (.fin false (4503599627370496 + T) ((E : Int) - 1075)) (.fin false (4503599627370496 + 0) (((1023 : Nat) : Int) - 1075)) := by
    show FP.Core.order (FP.Core.decode FP.Core.b64 v.toNat) (FP.Core.decode FP.Core.b64 FP.dconst1.toNat) = _
    rw [dv, d1]
  rw [e0]
  have hmin : min ((E : Int) - 1075) (((1023 : Nat) : Int) - 1075) = (E : Int) - 1075 := by omega
  show some (compare (FP.Core.signed false (FP.Core.inUnits (4503599627370496 + T) ((E : Int) - 1075) (min ((E : Int) - 1075) (((1023 : Nat) : Int) - 1075)))) (FP.Core.signed false (FP.Core.inUnits (4503599627370496 + 0) (((1023 : Nat) : Int) - 1075) (min ((E : Int) - 1075) (((1023 : Nat) : Int) - 1075))))) = _
  rw [hmin]
  unfold FP.Core.inUnits
  rw [show ((E : Int) - 1075 - ((E : Int) - 1075)).toNat = 0 by omega, Nat.pow_zero, Nat.mul_one, show (((1023 : Nat) : Int) - 1075 - ((E : Int) - 1075)).toNat = 1023 - E by omega, Nat.add_zero]
  show some (compare (((4503599627370496 + T : Nat) : Int)) (((4503599627370496 * 2 ^ (1023 - E) : Nat) : Int))) = _
  rw [cmp_int]
  by_cases q : E = 1023
  · rw [if_pos q, q, Nat.sub_self, Nat.pow_zero, Nat.mul_one]
    by_cases q2 : T = 0
    · rw [if_pos q2, if_neg (by omega), if_pos (by omega)]
    · rw [if_neg q2, if_neg (by omega), if_neg (by omega)]
  · rw [if_neg q]
    have : 2 ^ 1 ≤ 2 ^ (1023 - E) := Nat.pow_le_pow_right (by decide) (by omega)
    have h2 : 4503599627370496 * 2 ≤ 4503599627370496 * 2 ^ (1023 - E) := Nat.mul_le_mul_left _ this
    rw [if_pos (by omega)]
theorem fq_zero (h : Gd v E T) : FP.dcmp v FP.dconst0 = some .gt := by
  have dv := h.d
  obtain ⟨h1, h2, h3, _⟩ := h
  have e0 : FP.dcmp v FP.dconst0 = FP.Core.order (.fin false (4503599627370496 + T) ((E : Int) - 1075)) (.fin false 0 (-1074)) := by
    show FP.Core.order (FP.Core.decode FP.Core.b64 v.toNat) (FP.Core.decode FP.Core.b64 FP.dconst0.toNat) = _
    rw [dv]; rfl
  rw [e0]
  have hmin : min ((E : Int) - 1075) (-1074) = -1074 := by omega
  show some (compare (FP.Core.signed false (FP.Core.inUnits (4503599627370496 + T) ((E : Int) - 1075) (min ((E : Int) - 1075) (-1074)))) (FP.Core.signed false (FP.Core.inUnits 0 (-1074) (min ((E : Int) - 1075) (-1074))))) = _
  rw [hmin]
  unfold FP.Core.inUnits
  rw [Nat.zero_mul]
  show some (compare (((4503599627370496 + T) * 2 ^ (((E : Int) - 1075) - (-1074)).toNat : Nat) : Int) ((0 : Nat) : Int)) = _
  have : 0 < (4503599627370496 + T) * 2 ^ (((E : Int) - 1075) - (-1074)).toNat := Nat.mul_pos (by omega) (Nat.two_pow_pos _)
  rw [cmp_int, if_neg (by omega), if_neg (by omega)]
theorem fq_self (h : Gd v E T) : FP.dcmp v v = some .eq := by
  have dv := h.d
  have e0 : FP.dcmp v v = FP.Core.order (.fin false (4503599627370496 + T) ((E : Int) - 1075)) (.fin false (4503599627370496 + T) ((E : Int) - 1075)) := by
    show FP.Core.order (FP.Core.decode FP.Core.b64 v.toNat) (FP.Core.decode FP.Core.b64 v.toNat) = _
    rw [dv]
  rw [e0]
  show some (compare (FP.Core.signed false (FP.Core.inUnits (4503599627370496 + T) ((E : Int) - 1075) (min ((E : Int) - 1075) ((E : Int) - 1075)))) (FP.Core.signed false (FP.Core.inUnits (4503599627370496 + T) ((E : Int) - 1075) (min ((E : Int) - 1075) ((E : Int) - 1075))))) = _
  rw [cmp_int, if_neg (by omega), if_pos rfl]
/-- less one, times the power: some number -/
theorem fq_frac (h : Gd v 1023 T) : ∃ y, ∀ {α : Type} (k : UInt64 → Option α), (ndA (FP.dsub v FP.dconst1) fun v6 => ndA (FP.dmul v6 4841369599423283200) k) = k y := by
  have dv := h.d
  have d1 := Gd_1.d
  obtain ⟨h1, h2, h3, _⟩ := h
  have e0 : FP.dsub v FP.dconst1 = UInt64.ofNat (FP.Core.encode FP.Core.b64 (FP.Core.round FP.Core.b64 (FP.Core.exactSum (.fin false (4503599627370496 + T) (((1023 : Nat) : Int) - 1075)) (.fin true (4503599627370496 + 0) (((1023 : Nat) : Int) - 1075))))) := by
    show UInt64.ofNat (FP.Core.encode FP.Core.b64 (FP.Core.round FP.Core.b64 (FP.Core.exactSum (FP.Core.decode FP.Core.b64 v.toNat) (FP.Core.negate (FP.Core.decode FP.Core.b64 FP.dconst1.toNat))))) = _
    rw [dv, d1]; rfl
  have su : FP.Core.sumUnits false (4503599627370496 + T) (((1023 : Nat) : Int) - 1075) true (4503599627370496 + 0) (((1023 : Nat) : Int) - 1075) (min (((1023 : Nat) : Int) - 1075) (((1023 : Nat) : Int) - 1075)) = (T : Int) := by
    unfold FP.Core.sumUnits FP.Core.inUnits
    rw [show (((1023 : Nat) : Int) - 1075 - min (((1023 : Nat) : Int) - 1075) (((1023 : Nat) : Int) - 1075)).toNat = 0 by omega, Nat.pow_zero, Nat.mul_one, Nat.mul_one, Nat.add_zero]
    show (((4503599627370496 + T : Nat) : Int)) + -((4503599627370496 : Nat) : Int) = _
    omega
  have e1 : FP.dsub v FP.dconst1 = UInt64.ofNat (FP.Core.encode FP.Core.b64 (FP.Core.roundRatio FP.Core.b64 false T 1 (-52))) := by
    rw [e0]
    show UInt64.ofNat (FP.Core.encode FP.Core.b64 (FP.Core.round FP.Core.b64 (.fin (FP.Core.sumSign false true (FP.Core.sumUnits false (4503599627370496 + T) (((1023 : Nat) : Int) - 1075) true (4503599627370496 + 0) (((1023 : Nat) : Int) - 1075) (min (((1023 : Nat) : Int) - 1075) (((1023 : Nat) : Int) - 1075)))) (FP.Core.sumUnits false (4503599627370496 + T) (((1023 : Nat) : Int) - 1075) true (4503599627370496 + 0) (((1023 : Nat) : Int) - 1075) (min (((1023 : Nat) : Int) - 1075) (((1023 : Nat) : Int) - 1075))).natAbs (min (((1023 : Nat) : Int) - 1075) (((1023 : Nat) : Int) - 1075))))) = _
    rw [su, Int.natAbs_natCast]
    have sg : FP.Core.sumSign false true (T : Int) = false := by
      unfold FP.Core.sumSign
      by_cases q : (T : Int) = 0
      · rw [if_pos q]; rfl
      · rw [if_neg q, decide_eq_false (by omega)]
    rw [sg]
    rfl
  by_cases q : T = 0
  · subst q
    refine ⟨FP.dmul (UInt64.ofNat 0) 4841369599423283200, fun {α} k => ?_⟩
    have z : FP.dsub v FP.dconst1 = UInt64.ofNat 0 := by rw [e1]; decide
    rw [z, nd_of (by decide)]
    have z2 : FP.dmul (UInt64.ofNat 0) 4841369599423283200 = UInt64.ofNat 0 := by decide +kernel
    rw [z2, nd_of (by decide)]
  · obtain ⟨k1, k2, k3, k4⟩ := fq_int (N := T) (e := -52) (by omega) (by omega) (by decide) (by decide)
    have hG : Gd (FP.dsub v FP.dconst1) (T.log2 + 971) (T * 2 ^ (52 - T.log2) - 4503599627370496) := by
      rw [e1]
      refine Gd.mk' (by omega) (by omega) (by omega) ?_
      rw [k4]
      exact fin_c (by omega) (by omega)
    have hG2 := fq_mul hG Gd_52 (by omega) (by decide)
    exact ⟨_, fun {α} k => by rw [hG.nd, hG2.nd]⟩
end FQ
