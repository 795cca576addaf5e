/-! the orders in the buffer, given -/
section GV
variable {m : Nat} {t codes N : Nat → Int32}
theorem rd_first {i : Nat} (hm : m ≤ 60) (hc : ∀ j, j < m → codes j = t j) (hi : i < m) (h0 : i = 0 ∨ t (i - 1) = 59) {A : Nat} (hA : t i = nI (48 + A)) (a k f o : Int32) : g_X3_read (nI m) a k f o codes (nI i) = some (nI A, 0, 0, 0) := by
  have e : nI (48 + A) - 48 = nI A := (code_sub 48 (by omega)).trans (by rw [Nat.add_sub_cancel_left])
  rw [g_X3_read, x3_code hm hc hi, bd_some, hA]
  by_cases q : i = 0
  · subst q
    rw [if_pos (show nI 0 = 0 from rfl), g_X3_read_J1, e]
  · rw [if_neg (nI_ne0 (by omega) (by omega)), pk_pred (by omega), x3_code hm hc (by omega), bd_some, h0.resolve_left q, if_pos rfl, g_X3_read_J1, e]
theorem rd_else {i : Nat} (hm : m ≤ 60) (hc : ∀ j, j < m → codes j = t j) (hi : i < m) (h0 : 0 < i) (h1 : ¬ t (i - 1) = 59) (a k f o : Int32) : g_X3_read (nI m) a k f o codes (nI i) = (g_X3_isDigit (t i)).bind fun v3 => (if v3 = 0 then (if t i = 45 then some (a, k, o, 0) else (if t i = 109 then some (a, 1, f, o) else (if t i = 115 then some (a, 2, f, o) else some (a, k, f, o)))) else some (a, k, f, (((o * 10) + t i) - 48))) := by
  rw [g_X3_read, x3_code hm hc hi, bd_some, if_neg (nI_ne0 h0 (by omega)), pk_pred h0, x3_code hm hc (by omega), bd_some, if_neg h1]
theorem dig_all : ∀ d, d ≤ 9 → g_X3_isDigit (nI (48 + d)) = some 1 := by
  intro d hd
  have := (by decide +kernel : ∀ d, d < 10 → g_X3_isDigit (nI (48 + d)) = some 1)
  exact this d (by omega)
theorem rd_digit {i d v : Nat} (hm : m ≤ 60) (hc : ∀ j, j < m → codes j = t j) (hi : i < m) (h0 : 0 < i) (h1 : ¬ t (i - 1) = 59) (hd : d ≤ 9) (ht : t i = nI (48 + d)) (a k f : Int32) : g_X3_read (nI m) a k f (nI v) codes (nI i) = some (a, k, f, nI (v * 10 + d)) := by
  have e : nI v * 10 + nI (48 + d) - 48 = nI (v * 10 + d) := by
    rw [show (10 : Int32) = nI 10 from rfl, pk_mul, nI_add]
    exact (code_sub 48 (by omega)).trans (congrArg nI (by omega))
  rw [rd_else hm hc hi h0 h1, ht, dig_all d hd, bd_some, if_neg t10, e]
theorem rd_m {i : Nat} (hm : m ≤ 60) (hc : ∀ j, j < m → codes j = t j) (hi : i < m) (h0 : 0 < i) (h1 : ¬ t (i - 1) = 59) (ht : t i = 109) (a k f o : Int32) : g_X3_read (nI m) a k f o codes (nI i) = some (a, 1, f, o) := by
  rw [rd_else hm hc hi h0 h1, ht, show g_X3_isDigit 109 = some 0 from rfl, bd_some, if_pos rfl, if_neg (by decide), if_pos rfl]
theorem rd_s {i : Nat} (hm : m ≤ 60) (hc : ∀ j, j < m → codes j = t j) (hi : i < m) (h0 : 0 < i) (h1 : ¬ t (i - 1) = 59) (ht : t i = 115) (a k f o : Int32) : g_X3_read (nI m) a k f o codes (nI i) = some (a, 2, f, o) := by
  rw [rd_else hm hc hi h0 h1, ht, show g_X3_isDigit 115 = some 0 from rfl, bd_some, if_pos rfl, if_neg (by decide), if_neg (by decide), if_pos rfl]
theorem rd_h {i : Nat} (hm : m ≤ 60) (hc : ∀ j, j < m → codes j = t j) (hi : i < m) (h0 : 0 < i) (h1 : ¬ t (i - 1) = 59) (ht : t i = 104) (a k f o : Int32) : g_X3_read (nI m) a k f o codes (nI i) = some (a, k, f, o) := by
  rw [rd_else hm hc hi h0 h1, ht, show g_X3_isDigit 104 = some 0 from rfl, bd_some, if_pos rfl, if_neg (by decide), if_neg (by decide), if_neg (by decide)]
theorem rd_d {i : Nat} (hm : m ≤ 60) (hc : ∀ j, j < m → codes j = t j) (hi : i < m) (h0 : 0 < i) (h1 : ¬ t (i - 1) = 59) (ht : t i = 45) (a k f o : Int32) : g_X3_read (nI m) a k f o codes (nI i) = some (a, k, o, 0) := by
  rw [rd_else hm hc hi h0 h1, ht, show g_X3_isDigit 45 = some 0 from rfl, bd_some, if_pos rfl, if_pos rfl]
theorem rd_semi {i : Nat} (hm : m ≤ 60) (hc : ∀ j, j < m → codes j = t j) (hi : i < m) (h0 : 0 < i) (h1 : ¬ t (i - 1) = 59) (ht : t i = 59) (a k f o : Int32) : g_X3_read (nI m) a k f o codes (nI i) = some (a, k, f, o) := by
  rw [rd_else hm hc hi h0 h1, ht, show g_X3_isDigit 59 = some 0 from rfl, bd_some, if_pos rfl, if_neg (by decide), if_neg (by decide), if_neg (by decide)]
/-- the class's loop over the buffer; kind and from in the order in which they are read -/
def GA (m : Nat) (codes N : Nat → Int32) (nf : Nat) (c : Int32) (i : Nat) (C : Nat → Int32) (a k f o : Int32) : Option (Int32 × (Nat → Int32) × Int32 × Int32 × Int32 × Int32) := g_X4_giveAll_L1 (nI m) codes N nf c (nI i) C a f k o
def GS (m : Nat) (codes N : Nat → Int32) (nf : Nat) (c : Int32) (i : Nat) (C : Nat → Int32) (a k f o : Int32) : Option (Int32 × (Nat → Int32) × Int32 × Int32 × Int32 × Int32) :=
  b2 (g_X4_giveRead a k f o N C) fun v15 f14 => (if v15 = 0 then GA m codes N nf c i f14 a k f o else GA m codes N nf (c + 1) i f14 a k f o)
theorem GA_mid {i nf : Nat} {c a k f o a' k' f' o' : Int32} {C : Nat → Int32} (hm : m ≤ 60) (hc : ∀ j, j < m → codes j = t j) (hi : i + 1 < m) (h1 : ¬ t i = 59) (h2 : ¬ t (i + 1) = 59) (hr : g_X3_read (nI m) a k f o codes (nI i) = some (a', k', f', o')) : GA m codes N (nf + 1) c i C a k f o = GA m codes N nf c (i + 1) C a' k' f' o' := by
  unfold GA
  rw [g_X4_giveAll_L1, g_X3_size, bd_some, if_neg (nI_ge (show i < m by omega) (by omega)), hr, b4_some, g_X3_endsPart, x3_code hm hc (by omega), bd_some, if_neg h1, nI_1, if_neg (nI_ge hi (by omega)), x3_code hm hc hi, bd_some, if_neg h2, bd_some, if_pos rfl]
theorem GA_end {i nf : Nat} {c a k f o a' k' f' o' : Int32} {C : Nat → Int32} (hm : m ≤ 60) (hc : ∀ j, j < m → codes j = t j) (hi : i < m) (h1 : ¬ t i = 59) (h2 : i + 1 = m ∨ (i + 1 < m ∧ t (i + 1) = 59)) (hr : g_X3_read (nI m) a k f o codes (nI i) = some (a', k', f', o')) : GA m codes N (nf + 1) c i C a k f o = GS m codes N nf c (i + 1) C a' k' f' o' := by
  have he : g_X3_endsPart (nI m) codes (nI i) = some 1 := by
    rw [g_X3_endsPart, x3_code hm hc hi, bd_some, if_neg h1, nI_1]
    rcases h2 with e | ⟨e1, e2⟩
    · rw [if_pos (nI_le (by omega) (by omega))]
    · rw [if_neg (nI_ge e1 (by omega)), x3_code hm hc e1, bd_some, if_pos e2]
  unfold GS GA
  rw [g_X4_giveAll_L1, g_X3_size, bd_some, if_neg (nI_ge hi (by omega)), hr, b4_some, he, bd_some, if_neg t10, nI_1]
theorem GA_semi {i nf : Nat} {c a k f o : Int32} {C : Nat → Int32} (hm : m ≤ 60) (hc : ∀ j, j < m → codes j = t j) (hi : i < m) (h0 : 0 < i) (h1 : ¬ t (i - 1) = 59) (h2 : t i = 59) : GA m codes N (nf + 1) c i C a k f o = GA m codes N nf c (i + 1) C a k f o := by
  unfold GA
  rw [g_X4_giveAll_L1, g_X3_size, bd_some, if_neg (nI_ge hi (by omega)), rd_semi hm hc hi h0 h1 h2, b4_some, g_X3_endsPart, x3_code hm hc hi, bd_some, if_pos h2, bd_some, if_pos rfl, nI_1]
theorem n59 {d : Nat} (h : d ≤ 9) {x : Int32} (e : x = nI (48 + d)) : ¬ x = 59 := by
  rw [e]; exact fun w => by have := (nI_eq (b := 59) (by omega) (by decide)).mp w; omega
theorem Fld.last {p p' k : Nat} (h : Fld m t p p' k) : ∃ d, d ≤ 9 ∧ t (p' - 1) = nI (48 + d) := by
  obtain ⟨_, ⟨rfl, h1, h2, _⟩ | ⟨rfl, e, h1, _, _, h2⟩⟩ := h
  · exact ⟨k, h1, by rw [Nat.add_sub_cancel]; exact h2⟩
  · exact ⟨e, by omega, by rw [show p + 2 - 1 = p + 1 by omega]; exact h2⟩
/-- a field, more behind it -/
theorem GA_fmid {p p' q nf : Nat} {c a k f : Int32} {C : Nat → Int32} (hm : m ≤ 60) (hc : ∀ j, j < m → codes j = t j) (hF : Fld m t p p' q) (h0 : 0 < p) (h1 : ¬ t (p - 1) = 59) (hp : p' < m) (h2 : ¬ t p' = 59) : GA m codes N (nf + (p' - p)) c p C a k f 0 = GA m codes N nf c p' C a k f (nI q) := by
  obtain ⟨_, ⟨rfl, e1, e2, _⟩ | ⟨rfl, e, e1, rfl, e2, e3⟩⟩ := hF
  · have hr : g_X3_read (nI m) a k f 0 codes (nI p) = some (a, k, f, nI (0 * 10 + q)) := rd_digit (v := 0) hm hc (show p < m by omega) h0 h1 e1 e2 a k f
    rw [show p + 1 - p = 1 by omega, GA_mid hm hc hp (n59 e1 e2) h2 hr, show 0 * 10 + q = q by omega]
  · have e2' : t p = nI (48 + 1) := e2
    have hr : g_X3_read (nI m) a k f 0 codes (nI p) = some (a, k, f, nI (0 * 10 + 1)) := rd_digit (v := 0) (d := 1) hm hc (show p < m by omega) h0 h1 (by decide) e2' a k f
    have hr2 := rd_digit (v := 1) (d := e) hm hc (show p + 1 < m by omega) (by omega) (by rw [Nat.add_sub_cancel]; exact n59 (by decide) e2') (by omega) e3 a k f
    rw [show nf + (p + 2 - p) = (nf + 1) + 1 by omega, GA_mid hm hc (by omega) (n59 (by decide) e2') (n59 (by omega) e3) hr, show 0 * 10 + 1 = 1 by omega, GA_mid hm hc hp (n59 (by omega) e3) h2 hr2]
/-- a field that ends the part -/
theorem GA_fend {p p' q nf : Nat} {c a k f : Int32} {C : Nat → Int32} (hm : m ≤ 60) (hc : ∀ j, j < m → codes j = t j) (hF : Fld m t p p' q) (h0 : 0 < p) (h1 : ¬ t (p - 1) = 59) (h2 : p' = m ∨ (p' < m ∧ t p' = 59)) : GA m codes N (nf + (p' - p)) c p C a k f 0 = GS m codes N nf c p' C a k f (nI q) := by
  obtain ⟨hle, ⟨rfl, e1, e2, _⟩ | ⟨rfl, e, e1, rfl, e2, e3⟩⟩ := hF
  · have hr : g_X3_read (nI m) a k f 0 codes (nI p) = some (a, k, f, nI (0 * 10 + q)) := rd_digit (v := 0) hm hc (show p < m by omega) h0 h1 e1 e2 a k f
    rw [show p + 1 - p = 1 by omega, GA_end hm hc (by omega) (n59 e1 e2) h2 hr, show 0 * 10 + q = q by omega]
  · have e2' : t p = nI (48 + 1) := e2
    have hr : g_X3_read (nI m) a k f 0 codes (nI p) = some (a, k, f, nI (0 * 10 + 1)) := rd_digit (v := 0) (d := 1) hm hc (show p < m by omega) h0 h1 (by decide) e2' a k f
    have hr2 := rd_digit (v := 1) (d := e) hm hc (show p + 1 < m by omega) (by omega) (by rw [Nat.add_sub_cancel]; exact n59 (by decide) e2') (by omega) e3 a k f
    rw [show nf + (p + 2 - p) = (nf + 1) + 1 by omega, GA_mid hm hc (by omega) (n59 (by decide) e2') (n59 (by omega) e3) hr, show 0 * 10 + 1 = 1 by omega, GA_end hm hc (by omega) (n59 (by omega) e3) h2 hr2]
theorem Fld.first {p p' k : Nat} (h : Fld m t p p' k) : p < m ∧ p < p' ∧ ∃ d, d ≤ 9 ∧ t p = nI (48 + d) := by
  obtain ⟨hle, ⟨rfl, h1, h2, _⟩ | ⟨rfl, e, h1, _, h2, _⟩⟩ := h
  · exact ⟨by omega, by omega, k, h1, h2⟩
  · exact ⟨by omega, by omega, 1, by decide, h2⟩
/-- what the class has read behind a part -/
def rdK (x : Int32) : Int32 := if x = 104 then 0 else if x = 109 then 1 else 2
def rdF (x f : Int32) : Int32 := if x = 115 then f else 0
def rdO (x g : Int32) : Int32 := if x = 104 then 0 else g
theorem GA_part {p p' A nf : Nat} {x f g c a k u o : Int32} {C : Nat → Int32} (hm : m ≤ 60) (hc : ∀ j, j < m → codes j = t j) (h : PS m t p p' A x f g) (hp : p = 0 ∨ t (p - 1) = 59) (h2 : p' = m ∨ (p' < m ∧ t p' = 59)) : GA m codes N (nf + (p' - p)) c p C a k u o = GS m codes N nf c p' C (nI A) (rdK x) (rdF x f) (rdO x g) := by
  obtain ⟨h1, hlt, hle, hA, hA2, hx, hor⟩ := h
  have hr := rd_first hm hc (show p < m by omega) hp hA2 a k u o
  have hn : ¬ t p = 59 := n59 (by omega) hA2
  rcases hor with ⟨rfl, rfl, rfl, rfl⟩ | ⟨rfl, rfl, q, hq, rfl, hF⟩ | ⟨rfl, p1, j, q, hj, hq, rfl, rfl, hF1, hp1, hpm, hd, hpp, hF2⟩
  · have hr2 := rd_h hm hc h1 (by omega) (by rw [Nat.add_sub_cancel]; exact hn) hx (nI A) 0 0 0
    rw [show nf + (p + 2 - p) = (nf + 1) + 1 by omega, GA_mid hm hc h1 hn (by rw [hx]; decide) hr, GA_end hm hc h1 (by rw [hx]; decide) h2 hr2]
    rfl
  · obtain ⟨f1, f2, d, d1, d2⟩ := hF.first
    have hr2 := rd_m hm hc h1 (by omega) (by rw [Nat.add_sub_cancel]; exact hn) hx (nI A) 0 0 0
    rw [show nf + (p' - p) = ((nf + (p' - (p + 2))) + 1) + 1 by omega, GA_mid hm hc h1 hn (by rw [hx]; decide) hr, GA_mid hm hc f1 (by rw [hx]; decide) (n59 d1 d2) hr2, GA_fend hm hc hF (by omega) (by rw [show p + 2 - 1 = p + 1 by omega, hx]; decide) h2]
    rfl
  · obtain ⟨f1, f2, d, d1, d2⟩ := hF1.first
    obtain ⟨g1, g2, e, e1, e2⟩ := hF2.first
    obtain ⟨l, l1, l2⟩ := hF1.last
    have hr2 := rd_s hm hc h1 (by omega) (by rw [Nat.add_sub_cancel]; exact hn) hx (nI A) 0 0 0
    have hr3 := rd_d hm hc hpm (by omega) (n59 l1 l2) hd (nI A) 2 0 (nI j)
    rw [show nf + (p' - p) = (((nf + (p' - (p1 + 1))) + 1 + (p1 - (p + 2))) + 1) + 1 by omega, GA_mid hm hc h1 hn (by rw [hx]; decide) hr, GA_mid hm hc f1 (by rw [hx]; decide) (n59 d1 d2) hr2, GA_fmid hm hc hF1 (by omega) (by rw [show p + 2 - 1 = p + 1 by omega, hx]; decide) hpm (by rw [hd]; decide), GA_mid hm hc g1 (by rw [hd]; decide) (n59 e1 e2) hr3, GA_fend hm hc hF2 (by omega) (by rw [Nat.add_sub_cancel, hd]; decide) h2]
    rfl
end GV
section GX
variable {K n : Nat} {bN bO bC s : Nat → Int32}
/-- one order given on both sides, or on neither -/
theorem x_give (hok : okS K n s) (hE : eqB n bN bO bC s) {m p p' A : Nat} {t : Nat → Int32} {x f g : Int32} (h : PS m t p p' A x f g) (pos : Int32) : ∃ y z C' s', g_X4_giveRead (nI A) (rdK x) (rdF x f) (rdO x g) bN bC = some (y, C') ∧ g_X5_part_J6 1 s x (nI A) f g pos 0 = some (z, pos, 0, s') ∧ ((y = 0 ∧ z = 0) ∨ (¬ y = 0 ∧ ¬ z = 0)) ∧ okS K n s' ∧ eqB n bN bO C' s' := by
  have hS := hok.sb hE
  have hn := hok.1
  have k8 : ∀ w v5 v3 v23 v11, w = 0 → g_X5_part_J8 pos 0 s v5 v3 v23 v11 w = some (0, pos, 0, s) := fun w v5 v3 v23 v11 hw => by subst hw; rw [g_X5_part_J8, if_pos rfl]
  obtain ⟨_, _, _, _, _, _, hor⟩ := h
  rcases is_army hS.cb hS.mb (nI A) with ⟨p1, p2⟩ | ⟨a, ha, e, p1, p2⟩
  · refine ⟨0, 0, bC, s, ?_, ?_, Or.inl ⟨rfl, rfl⟩, hok, hE⟩
    · rw [g_X4_giveRead, g_X0_canBeGiven, p1, bd_some, if_pos rfl, bd_some, if_pos rfl]
    · rw [g_X5_part_J6, if_neg t10, p2, bd_some, if_pos rfl, g_X5_part_J7, if_pos rfl, g_X5_part_J10, if_pos rfl, k8 _ _ _ _ _ rfl]
  · rw [e] at p1 p2 ⊢
    have h6 : g_X5_part_J6 1 s x (nI a) f g pos 0 = g_X5_part_J7 pos 0 s x (nI a) g f 1 := by
      rw [g_X5_part_J6, if_neg t10, p2, bd_some, if_neg t10]
    rcases hor with ⟨rfl, _, rfl, rfl⟩ | ⟨rfl, rfl, q, hq, rfl, _⟩ | ⟨rfl, p1', j, q, hj, hq, rfl, rfl, _⟩
    · refine ⟨1, 1, lay3 bC (7 * a) 0 (-1) (-1), lay3 s (14 + 7 * a) 0 (-1) (-1), ?_, ?_, Or.inr ⟨t10, t10⟩, okS_lay hok ha (fun f _ _ => Or.inl ⟨rfl, rfl, rfl⟩), (hS.lay ha 0 (-1) (-1)).2.2⟩
      · have gv : g_X0_give bC (nI a) 0 0 0 = some (av s a 2, lay3 bC (7 * a) 0 (-1) (-1)) := x0_giveS hS ha 0 0 0
        show g_X4_giveRead (nI a) 0 0 0 bN bC = _
        rw [g_X4_giveRead, g_X0_canBeGiven, p1, bd_some, if_neg t10, if_pos rfl, bd_some, if_neg t10, gv, b2_some]
      · rw [h6, g_X5_part_J7, if_neg t10, if_neg (by decide), g_X5_part_J10, if_neg t10, if_neg (by decide), g_X5_part_J8, if_neg t10, if_pos rfl, g_X5_part_J9, x5_lays (by omega), bd_some]
    · have hcan := x0_can hS p1 ha t10 0 (nI q)
      have h7 : g_X5_part_J7 pos 0 s 109 (nI a) (nI q) (-1) 1 = g_X5_part_J8 pos 0 s 109 (nI a) (nI q) (-1) (nb (av s a 1) (nI q)) := by
        rw [g_X5_part_J7, if_neg t10, if_pos rfl, x5_of1 hS.mb ha, bd_some, x5_nb, bd_some]
      by_cases w : nb (av s a 1) (nI q) = 0
      · refine ⟨0, 0, bC, s, ?_, ?_, Or.inl ⟨rfl, rfl⟩, hok, hE⟩
        · show g_X4_giveRead (nI a) 1 0 (nI q) bN bC = _
          rw [g_X4_giveRead, hcan, bd_some, bi_f (fun z => z.1 w), if_pos rfl]
        · rw [h6, h7, k8 _ _ _ _ _ w]
      · have hOrd : okOrd s a 1 (nI q) (-1) := fun f' hf' e1 => Or.inr (Or.inl ⟨rfl, ⟨q, hq, rfl, (nb_adj hf' hq).mp (by rw [← e1]; exact w)⟩, rfl⟩)
        refine ⟨1, nb (av s a 1) (nI q), lay3 bC (7 * a) 1 (nI q) (-1), lay3 s (14 + 7 * a) 1 (nI q) (-1), ?_, ?_, Or.inr ⟨t10, w⟩, okS_lay hok ha hOrd, (hS.lay ha 1 (nI q) (-1)).2.2⟩
        · have gv : g_X0_give bC (nI a) 1 0 (nI q) = some (av s a 2, lay3 bC (7 * a) 1 (nI q) (-1)) := x0_giveS hS ha 1 0 (nI q)
          show g_X4_giveRead (nI a) 1 0 (nI q) bN bC = _
          rw [g_X4_giveRead, hcan, bd_some, bi_t ⟨w, Or.inl rfl⟩, if_neg t10, gv, b2_some]
        · rw [h6, h7, g_X5_part_J8, if_neg w, if_neg (by decide), if_pos rfl, g_X5_part_J9, x5_lays (by omega), bd_some]
    · have hcan := x0_can hS p1 ha t20 (nI j) (nI q)
      have h7 : g_X5_part_J7 pos 0 s 115 (nI a) (nI q) (nI j) 1 = g_X5_part_J8 pos 0 s 115 (nI a) (nI q) (nI j) (bi (¬ nb (av s a 1) (nI q) = 0 ∧ (nI j = nI q ∨ ¬ nb (nI j) (nI q) = 0))) := by
        rw [g_X5_part_J7, if_neg t10, if_neg (by decide), g_X5_part_J10, if_neg t10, if_pos rfl, x5_can hS.mb ha, bd_some]
      by_cases w : ¬ nb (av s a 1) (nI q) = 0 ∧ (nI j = nI q ∨ ¬ nb (nI j) (nI q) = 0)
      · have hOrd : okOrd s a 2 (nI q) (nI j) := fun f' hf' e1 => Or.inr (Or.inr ⟨rfl, ⟨q, hq, rfl, (nb_adj hf' hq).mp (by rw [← e1]; exact w.1)⟩, j, hj, rfl⟩)
        refine ⟨1, 1, lay3 bC (7 * a) 2 (nI q) (nI j), lay3 s (14 + 7 * a) 2 (nI q) (nI j), ?_, ?_, Or.inr ⟨t10, t10⟩, okS_lay hok ha hOrd, (hS.lay ha 2 (nI q) (nI j)).2.2⟩
        · have gv : g_X0_give bC (nI a) 2 (nI j) (nI q) = some (av s a 2, lay3 bC (7 * a) 2 (nI q) (nI j)) := x0_giveS hS ha 2 (nI j) (nI q)
          show g_X4_giveRead (nI a) 2 (nI j) (nI q) bN bC = _
          rw [g_X4_giveRead, hcan, bd_some, bi_t ⟨w.1, Or.inr w.2⟩, if_neg t10, gv, b2_some]
        · rw [h6, h7, bi_t w, g_X5_part_J8, if_neg t10, if_neg (by decide), if_neg (by decide), g_X5_part_J9, x5_lays (by omega), bd_some]
      · refine ⟨0, 0, bC, s, ?_, ?_, Or.inl ⟨rfl, rfl⟩, hok, hE⟩
        · show g_X4_giveRead (nI a) 2 (nI j) (nI q) bN bC = _
          rw [g_X4_giveRead, hcan, bd_some, bi_f (fun z => w ⟨z.1, z.2.resolve_left (by decide)⟩), if_pos rfl]
        · rw [h6, h7, k8 _ _ _ _ _ (bi_f w)]
/-- all orders of a complete text -/
theorem x_giveAll {m : Nat} {t codes : Nat → Int32} (hT : okT m t) (hc : ∀ j, j < m → codes j = t j) (hend : qs t m = 7 ∨ qs t m = 6) : ∀ (d nf nf' p : Nat) (c a k f o : Int32) (C u : Nat → Int32), m - p < d → m - p ≤ nf → m - p ≤ nf' → p ≤ m → qs t p = 0 → (p = 0 ∨ t (p - 1) = 59) → okS K n u → eqB n bN bO C u →
    ∃ c' a' k' f' o' C' u', GA m codes bN (nf + 1) c p C a k f o = some (c', C', a', f', k', o') ∧ g_X5_reads_L1 (nI m) t 1 (nf' + 1) c 1 0 (nI p) u = some (c', 0, nI m, u') ∧ okS K n u' ∧ eqB n bN bO C' u' := by
  intro d
  induction d with
  | zero => intro nf nf' p c a k f o C u h; omega
  | succ d ih =>
    intro nf nf' p c a k f o C u hd hnf hnf' hp hq hp0 hok hE
    have hm := hT.1
    rcases x5_part (s := u) hT hp hq with ⟨p', A, x, fr, g, hPS, hEn, hpt⟩ | ⟨p', hpp, hpt, hB⟩
    · have hlt := hPS.2.1
      have hle := hPS.2.2.1
      obtain ⟨y, z, C', u', g1, g2, g3, g4, g5⟩ := x_give hok hE hPS (nI p')
      have hnx : p' = m ∨ (p' < m ∧ t p' = 59 ∧ qs t (p' + 1) = 0 ∧ g_X5_takes (nI m) (nI p') 0 t 59 59 = some (0, nI (p' + 1), 0)) := by
        by_cases e : p' < m
        · rcases En_next hT hEn e with ⟨b1, b2, b3⟩ | ⟨_, b2, _⟩
          · exact Or.inr ⟨e, b1, b2, b3⟩
          · exfalso
            have := qs_err b2 m (by omega)
            rcases hend with w | w <;> rw [w] at this <;> exact absurd this (by decide)
        · exact Or.inl (by omega)
      obtain ⟨nf0, hnf0⟩ : ∃ k, nf + 1 = (k + 1) + (p' - p) := ⟨nf - (p' - p), by omega⟩
      obtain ⟨nf1, rfl⟩ : ∃ k, nf' = k + 1 := ⟨nf' - 1, by omega⟩
      have hga := GA_part (N := bN) (nf := nf0 + 1) (c := c) (a := a) (k := k) (u := f) (o := o) (C := C) hm hc hPS hp0 (hnx.imp id (fun w => ⟨w.1, w.2.1⟩))
      rw [← hnf0] at hga
      have hgs : GA m codes bN (nf + 1) c p C a k f o = GA m codes bN (nf0 + 1) (if y = 0 then c else c + 1) p' C' (nI A) (rdK x) (rdF x fr) (rdO x g) := by
        rw [hga, GS, g1, b2_some]
        by_cases w : y = 0
        · rw [if_pos w, if_pos w]
        · rw [if_neg w, if_neg w]
      have hrs : g_X5_reads_L1 (nI m) t 1 (nf1 + 1 + 1) c 1 0 (nI p) u = (if nI m ≤ nI p' then g_X5_reads_L1 (nI m) t 1 (nf1 + 1) (if y = 0 then c else c + 1) 0 0 (nI p') u' else b3 (g_X5_takes (nI m) (nI p') 0 t 59 59) fun v14 v12 v13 => (if v13 = 0 then g_X5_reads_L1 (nI m) t 1 (nf1 + 1) (if y = 0 then c else c + 1) 1 v13 v12 u' else g_X5_reads_L1 (nI m) t 1 (nf1 + 1) (if y = 0 then c else c + 1) 0 v13 v12 u')) := by
        rw [g_X5_reads_L1, if_neg t10, hpt 1, g2, b4_some]
        have J : ∀ b, g_X5_reads_J1 0 (nI m) (nI p') c u' t (g_X5_reads_L1 (nI m) t 1 (nf1 + 1)) b = (if nI m ≤ nI p' then g_X5_reads_L1 (nI m) t 1 (nf1 + 1) (c + b) 0 0 (nI p') u' else b3 (g_X5_takes (nI m) (nI p') 0 t 59 59) fun v14 v12 v13 => (if v13 = 0 then g_X5_reads_L1 (nI m) t 1 (nf1 + 1) (c + b) 1 v13 v12 u' else g_X5_reads_L1 (nI m) t 1 (nf1 + 1) (c + b) 0 v13 v12 u')) := fun b => by
          rw [g_X5_reads_J1, if_pos rfl, g_X5_reads_J2, if_pos rfl, g_X5_reads_J2, if_neg t10]
        rw [J, J]
        rcases g3 with ⟨w1, w2⟩ | ⟨w1, w2⟩
        · rw [if_pos w2, if_pos w1, i_add0]
        · rw [if_neg w2, if_neg w1]
      rcases hnx with rfl | ⟨e, b1, b2, b3⟩
      · refine ⟨if y = 0 then c else c + 1, nI A, rdK x, rdF x fr, rdO x g, C', u', ?_, ?_, g4, g5⟩
        · rw [hgs]; unfold GA
          rw [g_X4_giveAll_L1, g_X3_size, bd_some, if_pos (nI_le (Nat.le_refl _) (by omega))]
        · rw [hrs, if_pos (nI_le (Nat.le_refl _) (by omega)), g_X5_reads_L1, if_pos rfl]
      · have hlast : ¬ t (p' - 1) = 59 := by
          obtain ⟨_, _, _, hA, hA2, hx, hor⟩ := hPS
          rcases hor with ⟨rfl, rfl, _, _⟩ | ⟨_, _, q, _, _, hF⟩ | ⟨_, p1, j, q, _, _, _, _, _, _, _, _, _, hF⟩
          · rw [show p + 2 - 1 = p + 1 by omega, hx]; decide
          · obtain ⟨l, l1, l2⟩ := hF.last; exact n59 l1 l2
          · obtain ⟨l, l1, l2⟩ := hF.last; exact n59 l1 l2
        obtain ⟨nf2, rfl⟩ : ∃ k, nf0 = k + 1 := ⟨nf0 - 1, by omega⟩
        obtain ⟨c', a', k', f', o', C'', u'', k1, k2, k3, k4⟩ := ih nf2 nf1 (p' + 1) (if y = 0 then c else c + 1) (nI A) (rdK x) (rdF x fr) (rdO x g) C' u' (by omega) (by omega) (by omega) (by omega) b2 (Or.inr (by rw [Nat.add_sub_cancel]; exact b1)) g4 g5
        refine ⟨c', a', k', f', o', C'', u'', ?_, ?_, k3, k4⟩
        · rw [hgs, GA_semi hm hc e (by omega) hlast b1]; exact k1
        · rw [hrs, if_neg (nI_ge e (by omega)), b3, b3_some, if_pos rfl]; exact k2
    · exfalso
      obtain ⟨e1, e2, e6, e7, e3⟩ := hB
      by_cases e : p' < m
      · have := qs_err (e3 e) m (by omega)
        rcases hend with w | w <;> rw [w] at this <;> exact absurd this (by decide)
      · obtain rfl : p' = m := by omega
        exact hend.elim e7 e6
end GX
theorem pu_orders : PU_orders := by
  intro K has bN bO bC old sav hN hO hC sN sO sC len aR kR fR oR codes th kept sm tl pos wr s snap ss text hK hR
  have hR1 := pu_skip _ _ _ _ _ _ _ _ _ _ _ _ _ _ _ _ _ _ _ _ _ _ hR
  obtain ⟨⟨n, hok, hE⟩, hH, hSn, hT0⟩ := hR
  have hRB : RB K bN bO bC s := ⟨n, hok, hE⟩
  obtain ⟨m, hT, rfl, rfl, hc⟩ := RT_ok hT0
  have hm := hT.1
  obtain ⟨v, p', w, h1, h2, h3, h4⟩ := x5_reads00 (s := s) hT pos wr
  by_cases e : qs text m = 7 ∨ qs text m = 6
  · have hw : w = 0 := by
      rcases h4 with ⟨a, _⟩ | ⟨_, a, b⟩
      · exact a
      · exfalso
        by_cases q : p' < m
        · have := qs_err (a q) m (by omega)
          rcases e with z | z <;> rw [z] at this <;> exact absurd this (by decide)
        · exact b (by omega) e
    subst hw
    obtain ⟨old', sav', hN', hO', hC', sm', ss', g1, g2, g3⟩ := RH_save hH hRB
    obtain ⟨c', a', k', f', o', C', u', k1, k2, k3, k4⟩ := x_giveAll (K := K) (n := n) (bN := bN) (bO := bO) (codes := codes) hT hc e 4999 4999 4999 0 0 aR kR fR oR bC s (by omega) (by omega) (by omega) (Nat.zero_le _) rfl (Or.inl rfl) hok hE
    refine ⟨0, c', 0, a', k', f', o', old', sav', hN', hO', hC', C', c', 0, sm', 0, nI m, 0, u', ss', ?_, ?_, rfl, fun _ => rfl, RR_up (RB_up ⟨n, k3, k4⟩) g3 hSn ⟨0, by omega, rfl, rfl, fun j hj => by omega⟩⟩
    · rw [g_X4_orders, x3_complete hm hc, bd_some, bi_t e, if_neg t10, g1, b5_some, g_X4_giveAll, show g_X4_giveAll_L1 (nI m) codes bN FU 0 0 bC aR fR kR oR = some (c', C', a', f', k', o') from k1, b6_some, b6_some]; rfl
    · rw [g_X5_orders, h1, b4_some, if_pos rfl, g_X5_orders_J1, x5_holds0, b2_some, if_neg t10, g2, b2_some, g_X5_reads, show g_X5_reads_L1 (nI m) text 1 FU 0 1 0 0 s = some (c', 0, nI m, u') from k2]; rfl
  · have hw : w = 1 := by
      rcases h4 with ⟨_, _, a⟩ | ⟨a, _⟩
      · exact absurd a e
      · exact a
    subst hw
    refine ⟨1, 0, nI m, aR, kR, fR, oR, old, sav, hN, hO, hC, bC, 0, 1, sm, nI m, nI p', 1, s, ss, ?_, ?_, rfl, fun h => absurd h (by decide), hR1⟩
    · rw [g_X4_orders, x3_complete hm hc, bd_some, bi_f e, if_pos rfl]
    · rw [g_X5_orders, h1, b4_some, if_neg t10]; rfl
