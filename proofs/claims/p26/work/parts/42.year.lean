/-! the end of a year -/
noncomputable def ownP (n : Nat) (v : Nat → Nat → Int32) (k : Nat) (old : Int32) : Int32 := if (fi n fun a => v a 1 = nI (3 * k)) = -1 then old else v (fi n fun a => v a 1 = nI (3 * k)).toNatClampNeg 0
theorem cent_2 : ∀ f, f < 12 → g_X4_isCentre (nI f) = some (if f % 3 = 0 then 1 else 0) := by decide +kernel
section YE
variable {n : Nat} {v : Nat → Nat → Int32} {bN bO bC s : Nat → Int32}
theorem ownP_on (hn : n ≤ 9) (hd : dist n v) {k a : Nat} {old : Int32} (ha : a < n) (e : v a 1 = nI (3 * k)) : ownP n v k old = v a 0 := by
  unfold ownP
  rw [fi_one ha e (fun c hc hq => hd c a hc ha (hq.trans e.symm)), if_neg (nI_m1 (by omega)), nI_clamp (by omega)]
theorem ownP_no {k : Nat} {old : Int32} (e : ∀ a, a < n → ¬ v a 1 = nI (3 * k)) : ownP n v k old = old := by
  unfold ownP; rw [fi_none e, if_pos rfl]
theorem x0_claim (h : CB n v bN bC) (hd : dist n v) (hF : ∀ a, a < n → ∃ f, f < 12 ∧ v a 1 = nI f) : ∃ O', g_X0_claimCentres bN bC bO = some O' ∧ (∀ k, k < 4 → O' (3 * k) = ownP n v k (bO (3 * k))) ∧ ∀ f, f < 12 → ¬ f % 3 = 0 → O' f = bO f := by
  have hn := h.1
  obtain ⟨O', h1, h2, h3⟩ := lpF (fun nf i f => g_X0_claimCentres_L1 bN bC nf (nI i) f) n
    (fun i f => (∀ a k, a < i → k < 4 → v a 1 = nI (3 * k) → f (3 * k) = v a 0) ∧ ∀ g, g < 12 → (¬ g % 3 = 0 ∨ ∀ a, a < i → ¬ v a 1 = nI g) → f g = bO g)
    (fun f => (∀ a k, a < n → k < 4 → v a 1 = nI (3 * k) → f (3 * k) = v a 0) ∧ ∀ g, g < 12 → (¬ g % 3 = 0 ∨ ∀ a, a < n → ¬ v a 1 = nI g) → f g = bO g) (by omega) bO ⟨fun a k ha => by omega, fun _ _ _ => rfl⟩
    (fun nf i f hi hI => by
      obtain ⟨F, hF1, hF2⟩ := hF i hi
      obtain ⟨i1, i2⟩ := hI
      by_cases e : F % 3 = 0
      · refine Or.inl ⟨upd f F (v i 0), ⟨fun a k ha hk hq => ?_, fun g hg hor => ?_⟩, ?_⟩
        · by_cases q : 3 * k = F
          · rw [q, pk_us]
            by_cases qa : a = i
            · rw [qa]
            · exact absurd (hd a i (by omega) hi (by rw [hq, hF2, q])) qa
          · rw [pk_un q]
            refine i1 a k ?_ hk hq
            by_cases qa : a = i
            · rw [qa, hF2] at hq
              exact absurd ((nI_eq (by omega) (by omega)).mp hq).symm q
            · omega
        · have q : g ≠ F := fun q => by
            rcases hor with w | w
            · exact w (by rw [q]; exact e)
            · exact w i (by omega) (by rw [q]; exact hF2)
          rw [pk_un q]
          exact i2 g hg (hor.imp id (fun w a ha => w a (by omega)))
        · rw [g_X0_claimCentres_L1, x0_number0 h, bd_some, go_on hn hi, x0_of1 h hi, bd_some, hF2, cent_2 F hF1, if_pos e, bd_some, if_neg t10, bd_some, x0_of0 h hi, bd_some, x4_enterN (by decide) hF1, bd_some, nI_1]
      · refine Or.inl ⟨f, ⟨fun a k ha hk hq => ?_, fun g hg hor => ?_⟩, ?_⟩
        · refine i1 a k ?_ hk hq
          by_cases qa : a = i
          · rw [qa, hF2] at hq
            have := (nI_eq (by omega) (by omega)).mp hq
            omega
          · omega
        · exact i2 g hg (hor.imp id (fun w a ha => w a (by omega)))
        · rw [g_X0_claimCentres_L1, x0_number0 h, bd_some, go_on hn hi, x0_of1 h hi, bd_some, hF2, cent_2 F hF1, if_neg e, bd_some, if_pos rfl, nI_1])
    (fun nf f hI => ⟨f, by rw [g_X0_claimCentres_L1, x0_number0 h, bd_some, go_out hn], hI⟩)
  refine ⟨O', by rw [g_X0_claimCentres, bd_id]; exact h1, fun k hk => ?_, fun f hf h3' => h3 f hf (Or.inl h3')⟩
  rcases on_cases hn hd (nI (3 * k)) with ⟨o, ho, e, _⟩ | ⟨e, _⟩
  · rw [ownP_on hn hd ho e]; exact h2 o k ho hk e
  · rw [ownP_no e]; exact h3 (3 * k) (by omega) (Or.inr e)
theorem x5_belongs (h : MB n v s) (hd : dist n v) : ∃ s', g_X5_belongs s = some s' ∧ (∀ j, j < 10 ∨ 14 ≤ j → s' j = s j) ∧ ∀ k, k < 4 → s' (10 + k) = ownP n v k (s (10 + k)) := by
  have hn := h.1
  obtain ⟨s', h1, h2, h3⟩ := lpF (fun nf i f => g_X5_belongs_L1 nf (nI i) f) 4
    (fun i f => (∀ j, j < 10 ∨ 14 ≤ j → f j = s j) ∧ ∀ k, k < 4 → f (10 + k) = if k < i then ownP n v k (s (10 + k)) else s (10 + k))
    (fun f => (∀ j, j < 10 ∨ 14 ≤ j → f j = s j) ∧ ∀ k, k < 4 → f (10 + k) = ownP n v k (s (10 + k))) (by decide) s ⟨fun _ _ => rfl, fun k _ => by rw [if_neg (by omega)]⟩
    (fun nf i f hi hI => by
      obtain ⟨i1, i2⟩ := hI
      have hm : MB n v f := ⟨hn, by rw [i1 9 (Or.inl (by decide))]; exact h.2.1, fun a w ha hw => by rw [i1 _ (Or.inr (by omega))]; exact h.2.2 a w ha hw⟩
      have e3 : 3 * nI i = nI (3 * i) := pk_mul 3 i
      refine Or.inl ⟨upd f (10 + i) (ownP n v i (s (10 + i))), ⟨fun j hj => by rw [pk_un (by omega)]; exact i1 j hj, fun k hk => ?_⟩, ?_⟩
      · by_cases q : k = i
        · subst q; rw [pk_us, if_pos (by omega)]
        · rw [pk_un (by omega), i2 k hk]
          by_cases q2 : k < i
          · rw [if_pos q2, if_pos (by omega)]
          · rw [if_neg q2, if_neg (by omega)]
      · rw [g_X5_belongs_L1, past (M := 4) 4 rfl hi (by decide), e3, x5_armyOn hm hd, bd_some, ten_ix]
        have hold : f (10 + i) = s (10 + i) := by rw [i2 i hi, if_neg (by omega)]
        rcases on_cases hn hd (nI (3 * i)) with ⟨o, ho, e, hfo⟩ | ⟨e, hfo⟩
        · rw [hfo, if_neg (nI_m1 (by omega)), x5_of0 hm ho, bd_some, g_X5_belongs_J1, ten_ix, w77 (10 + i) (by omega), nI_1, ownP_on hn hd ho e]
        · rw [hfo, if_pos rfl, r77 (10 + i) (by omega), g_X5_belongs_J1, ten_ix, w77 (10 + i) (by omega), nI_1, ownP_no e, hold])
    (fun nf f hI => ⟨f, by rw [g_X5_belongs_L1, pastE (M := 4) 4 rfl (Nat.le_refl _) (by decide)], hI.1, fun k hk => by rw [hI.2 k hk, if_pos hk]⟩)
  exact ⟨s', by rw [g_X5_belongs, bd_id]; exact h1, h2, h3⟩
/-- the last of a seat -/
noncomputable def hia (v : Nat → Nat → Int32) (q : Int32) : Nat → Int32
  | 0 => -1
  | i + 1 => if v i 0 = q then nI i else hia v q i
theorem x5_highest (h : MB n v s) (q : Int32) : g_X5_highestOf s q = some (hia v q n) := by
  have hn := h.1
  rw [g_X5_highestOf, bd_id]
  refine lpV (fun nf i y => g_X5_highestOf_L1 s q nf y (nI i)) n (hia v q) (by omega) (fun nf i hi => ?_) (fun nf => ?_)
  · rw [g_X5_highestOf_L1, x5_n h, go_on hn hi, x5_of0 h hi, bd_some, nI_1, hia]
    by_cases e : v i 0 = q
    · rw [if_pos e, if_pos e]
    · rw [if_neg e, if_neg e]
  · rw [g_X5_highestOf_L1, x5_n h, go_out hn]
theorem hia_top {q : Int32} {i : Nat} (e : v i 0 = q) : ∀ m, i < m → (∀ j, i < j → j < m → ¬ v j 0 = q) → hia v q m = nI i := by
  intro m
  induction m with
  | zero => intro h; omega
  | succ m ih =>
    intro h hj
    by_cases q' : i = m
    · subst q'; rw [hia, if_pos e]
    · rw [hia, if_neg (hj m (by omega) (by omega))]
      exact ih (by omega) (fun j h1 h2 => hj j h1 (by omega))
theorem num_del {P : Nat → Prop} {a : Nat} (hP : P a) : ∀ m, a < m → num (m - 1) (fun b => P (if b < a then b else b + 1)) + 1 = num m P := by
  intro m
  induction m with
  | zero => intro h; omega
  | succ m ih =>
    intro h
    by_cases e : a = m
    · subst e
      rw [num_t hP, Nat.add_sub_cancel]
      exact congrArg (· + 1) (num_c (fun c hc => by rw [if_pos hc]))
    · have ih' := ih (by omega)
      obtain ⟨k, rfl⟩ : ∃ k, m = k + 1 := ⟨m - 1, by omega⟩
      rw [Nat.add_sub_cancel] at ih' ⊢
      have hk : ¬ k < a := by omega
      have hR : P (if k < a then k else k + 1) ↔ P (k + 1) := by rw [if_neg hk]
      by_cases q : P (k + 1)
      · rw [num_t (P := P) q, num_t (n := k) (P := fun b => P (if b < a then b else b + 1)) (hR.mpr q), ih']
      · rw [num_f (P := P) q, num_f (n := k) (P := fun b => P (if b < a then b else b + 1)) (fun w => q (hR.mp w)), ih']
theorem num_none {P : Nat → Prop} : ∀ m, (∀ a, a < m → ¬ P a) → num m P = 0 := by
  intro m
  induction m with
  | zero => intro _; rfl
  | succ m ih => intro h; rw [num_f (h m (by omega))]; exact ih (fun a ha => h a (by omega))
end YE
section YF
variable {K n : Nat} {bN bO bC s : Nat → Int32}
theorem okS_low (h : okS K n s) {j : Nat} (x : Int32) (hj : j = 0 ∨ j = 2 ∨ j = 5 ∨ j = 6 ∨ j = 7 ∨ j = 8) : okS K n (upd s j x) := by
  obtain ⟨h1, h2, h3, ⟨a, b, ha, hb, e3, e4⟩, h5, h6, h7⟩ := h
  have hav : ∀ a w, av (upd s j x) a w = av s a w := fun a w => by unfold av; exact pk_un (by omega)
  exact ⟨h1, by rw [pk_un (by omega)]; exact h2, by rw [pk_un (by omega)]; exact h3, ⟨a, b, ha, hb, by rw [pk_un (by omega)]; exact e3, by rw [pk_un (by omega)]; exact e4⟩, fun k hk => by rw [pk_un (by omega)]; exact h5 k hk, fun a ha => okA_c (fun w _ => hav a w) (h6 a ha), fun a b ha hb e => h7 a b ha hb (by rw [← hav a 1, ← hav b 1]; exact e)⟩
theorem okS_sea (h : okS K n s) {x : Int32} (hx : x = 0 ∨ x = 1) : okS K n (upd s 1 x) := by
  obtain ⟨h1, h2, h3, ⟨a, b, ha, hb, e3, e4⟩, h5, h6, h7⟩ := h
  have hav : ∀ a w, av (upd s 1 x) a w = av s a w := fun a w => by unfold av; exact pk_un (by omega)
  exact ⟨h1, by rw [pk_un (by omega)]; exact h2, by rw [pk_us]; exact hx, ⟨a, b, ha, hb, by rw [pk_un (by omega)]; exact e3, by rw [pk_un (by omega)]; exact e4⟩, fun k hk => by rw [pk_un (by omega)]; exact h5 k hk, fun a ha => okA_c (fun w _ => hav a w) (h6 a ha), fun a b ha hb e => h7 a b ha hb (by rw [← hav a 1, ← hav b 1]; exact e)⟩
theorem eqB_num (h : okS K n s) (hE : eqB n bN bO bC s) {k : Nat} (hk : k < 9) (x : Int32) : eqB n (upd bN (k + 1) x) bO bC (upd s k x) := ((h.sb hE).num hk x).2.2
/-- armies of a seat are taken off -/
theorem x_takeOff {q c : Nat} (hc : c ≤ 4) : ∀ (i nf nf' m left : Nat) (C N s : Nat → Int32), i ≤ m → okS K m s → eqB m N bO C s → (∀ j, i ≤ j → j < m → ¬ av s j 0 = nI q) →
    num m (fun a => av s a 0 = nI q) = c + 1 + left → num 4 (fun k => s (10 + k) = nI q) = c → i < nf → left < nf' →
    ∃ m' C' N' s', g_X0_takeOff_L1 (nI q) nf (nI left) (nI i - 1) C N = some (C', N') ∧ g_X5_endsYear_L2 (nI q) nf' s = some s' ∧ g_X5_endsYear_L3 (nI q) nf' s = some s' ∧ okS K m' s' ∧ eqB m' N' bO C' s' ∧ ∀ j, j < 14 → j ≠ 9 → j ≠ 8 → s' j = s j := by
  intro i
  induction i with
  | zero =>
    intro nf nf' m left C N s _ hok hE hno hnum hcen hf hf'
    have h0 : num m (fun a => av s a 0 = nI q) = 0 := num_none m (fun a ha => hno a (Nat.zero_le _) ha)
    omega
  | succ i ih =>
    intro nf nf' m left C N s him hok hE hno hnum hcen hf hf'
    have hS := hok.sb hE
    have hm9 := hok.1
    have hneg : ¬ nI i < 0 := nI_pos (by omega)
    have em1 : nI i + (-1) = nI i - 1 := (Int32.sub_eq_add_neg _ _).symm
    have hle := num_le m (fun a => av s a 0 = nI q)
    cases nf with
    | zero => omega
    | succ nf =>
      cases left with
      | zero =>
        cases nf' with
        | zero => omega
        | succ nf' =>
          refine ⟨m, C, N, s, ?_, ?_, ?_, hok, hE, fun _ _ _ _ => rfl⟩
          · rw [nI_pred, g_X0_takeOff_L1, if_neg hneg, if_pos (show nI 0 ≤ 0 by decide)]
          · rw [g_X5_endsYear_L2, x5_armiesOf hS.mb, bd_some, x5_centresOf, bd_some, hnum, hcen, nI_1, if_pos (nI_le (by omega) (by omega))]
          · rw [g_X5_endsYear_L3, x5_armiesOf hS.mb, bd_some, x5_centresOf, bd_some, hnum, hcen, nI_1, if_pos (nI_le (by omega) (by omega))]
      | succ l =>
        by_cases e : av s i 0 = nI q
        · obtain ⟨C2, s2, g1, g2, g3, g4, g5, g6⟩ := RB_goes hok hE (show i < m by omega)
          have hm0 := g3.1
          have hok3 : okS K (m - 1) (upd s2 8 (s2 8 + 1)) := okS_low g3 _ (by omega)
          have hE3 : eqB (m - 1) (upd (upd N 0 (nI (m - 1))) 9 (s2 8 + 1)) bO C2 (upd s2 8 (s2 8 + 1)) := eqB_num g3 g4 (k := 8) (by decide) _
          have n9 : upd N 0 (nI (m - 1)) 9 = s2 8 := g4.2.1 8 (by decide)
          have hav : ∀ b w, w < 7 → av (upd s2 8 (s2 8 + 1)) b w = av s2 b w := fun b w hw => by unfold av; exact pk_un (by omega)
          cases nf' with
          | zero => omega
          | succ nf' =>
            obtain ⟨m', C', N', s', k1, k2, k3, k4, k5, k6⟩ := ih nf nf' (m - 1) l C2 (upd (upd N 0 (nI (m - 1))) 9 (s2 8 + 1)) (upd s2 8 (s2 8 + 1)) (by omega) hok3 hE3
              (fun j h1 h2 => by rw [hav j 0 (by decide), g6 j 0 h2 (by decide), if_neg (by omega)]; exact hno (j + 1) (by omega) (by omega))
              (by
                have := num_del (P := fun a => av s a 0 = nI q) e m (by omega)
                have e2 : num (m - 1) (fun a => av (upd s2 8 (s2 8 + 1)) a 0 = nI q) = num (m - 1) (fun b => (fun a => av s a 0 = nI q) (if b < i then b else b + 1)) := num_c (fun a ha => by rw [hav a 0 (by decide), g6 a 0 ha (by decide)])
                have e5 : num (m - 1) (fun a => av (upd s2 8 (s2 8 + 1)) a 0 = nI q) + 1 = num m (fun a => av s a 0 = nI q) := by rw [e2]; exact this
                omega)
              (by rw [← hcen]; exact num_c (fun k hk => by rw [pk_un (by omega), g5 _ (by omega) (by omega)])) (by omega) (by omega)
            have hhi : g_X5_highestOf s (nI q) = some (nI i) := by
              rw [x5_highest hS.mb, hia_top e m (by omega) (fun j h1 h2 => hno j (by omega) h2)]
            have co : g_X0_countOne (upd N 0 (nI (m - 1))) 9 = some (upd (upd N 0 (nI (m - 1))) 9 (s2 8 + 1)) := (x0_count (k := 9) (by decide)).trans (by rw [n9])
            have hbig : ¬ nI (c + 1 + (l + 1)) ≤ nI (c + 1) := nI_ge (by omega) (by omega)
            refine ⟨m', C', N', s', ?_, ?_, ?_, k4, k5, fun j z1 z2 z3 => by rw [k6 j z1 z2 z3, pk_un z3, g5 j z1 z2]⟩
            · rw [nI_pred, g_X0_takeOff_L1, if_neg hneg, if_neg (nI_nle (by omega) (by omega)), x0_of0 hS.cb (by omega), bd_some, if_pos e, g1, b2_some, co, bd_some, pk_m1, em1]
              exact k1
            · rw [g_X5_endsYear_L2, x5_armiesOf hS.mb, bd_some, x5_centresOf, bd_some, hnum, hcen, nI_1, if_neg hbig, hhi, bd_some, g2, bd_some, r77_8, w77_8]
              exact k2
            · rw [g_X5_endsYear_L3, x5_armiesOf hS.mb, bd_some, x5_centresOf, bd_some, hnum, hcen, nI_1, if_neg hbig, hhi, bd_some, g2, bd_some, r77_8, w77_8]
              exact k3
        · obtain ⟨m', C', N', s', k1, k2, k3, k4⟩ := ih nf nf' m (l + 1) C N s (by omega) hok hE (fun j h1 h2 => by
            by_cases q' : j = i
            · rw [q']; exact e
            · exact hno j (by omega) h2) hnum hcen (by omega) hf'
          refine ⟨m', C', N', s', ?_, k2, k3, k4⟩
          rw [nI_pred, g_X0_takeOff_L1, if_neg hneg, if_neg (nI_nle (by omega) (by omega)), x0_of0 hS.cb (by omega), bd_some, if_neg e, em1]
          exact k1
/-- a loop that goes on without a change up to some index -/
theorem lpR {β : Type} (L : Nat → Nat → Option β) : ∀ d nf i, (∀ nf j, i ≤ j → j < i + d → L (nf + 1) j = L nf (j + 1)) → L (nf + d) i = L nf (i + d) := by
  intro d
  induction d with
  | zero => intro nf i _; rfl
  | succ d ih =>
    intro nf i h
    rw [show nf + (d + 1) = (nf + d) + 1 by omega, h (nf + d) i (Nat.le_refl _) (by omega), ih nf (i + 1) (fun nf j h1 h2 => h nf j (by omega) (by omega)), show i + 1 + d = i + (d + 1) by omega]
def bldQ (n : Nat) (s : Nat → Int32) (q k : Nat) : Prop := s (10 + k) = nI q ∧ ∀ a, a < n → ¬ av s a 1 = nI (3 * k)
theorem x5_buildL (h : MB n (av s) s) (hd : dist n (av s)) (q : Nat) : ∃ r, g_X5_builds_L1 s (nI q) FU (-1) 3 = some r ∧ ((∃ k, k < 4 ∧ bldQ n s q k ∧ (∀ c, c < k → ¬ bldQ n s q c) ∧ r = nI (3 * k)) ∨ ((∀ c, c < 4 → ¬ bldQ n s q c) ∧ r = -1)) := by
  have hn := h.1
  obtain ⟨r, h1, h2⟩ := lpD (fun nf i x => g_X5_builds_L1 s (nI q) nf x (nI i - 1)) (fun i x => i ≤ 4 ∧ ((∃ k, i ≤ k ∧ k < 4 ∧ bldQ n s q k ∧ (∀ c, i ≤ c → c < k → ¬ bldQ n s q c) ∧ x = nI (3 * k)) ∨ ((∀ c, i ≤ c → c < 4 → ¬ bldQ n s q c) ∧ x = -1)))
    (fun r => (∃ k, k < 4 ∧ bldQ n s q k ∧ (∀ c, c < k → ¬ bldQ n s q c) ∧ r = nI (3 * k)) ∨ ((∀ c, c < 4 → ¬ bldQ n s q c) ∧ r = -1))
    (fun nf i x hI => by
      obtain ⟨hi, hor⟩ := hI
      have e3 : 3 * nI i = nI (3 * i) := pk_mul 3 i
      have em1 : nI i + (-1) = nI i - 1 := (Int32.sub_eq_add_neg _ _).symm
      have st : g_X5_builds_L1 s (nI q) (nf + 1) x (nI (i + 1) - 1) = cite (bldQ n s q i) (g_X5_builds_L1 s (nI q) nf (nI (3 * i)) (nI i - 1)) (g_X5_builds_L1 s (nI q) nf x (nI i - 1)) := by
        rw [nI_pred, g_X5_builds_L1, if_neg (nI_pos (by omega)), ten_ix, r77 (10 + i) (by omega), e3, x5_armyOn h hd, bd_some, em1]
        by_cases e1 : s (10 + i) = nI q
        · rw [if_pos e1]
          rcases on_cases hn hd (nI (3 * i)) with ⟨o, ho, e, hfo⟩ | ⟨e, hfo⟩
          · rw [hfo, if_neg (nI_m1 (by omega)), cite_f (fun w => w.2 o ho e)]
          · rw [hfo, if_pos rfl, cite_t ⟨e1, e⟩]
        · rw [if_neg e1, cite_f (fun w => e1 w.1)]
      by_cases g1 : bldQ n s q i
      · exact Or.inl ⟨nI (3 * i), ⟨by omega, Or.inl ⟨i, Nat.le_refl _, by omega, g1, fun c h1 h2 => by omega, rfl⟩⟩, st.trans (cite_t g1)⟩
      · refine Or.inl ⟨x, ⟨by omega, ?_⟩, st.trans (cite_f g1)⟩
        rcases hor with ⟨a, k1, k2, k3, k4, k5⟩ | ⟨k1, k2⟩
        · refine Or.inl ⟨a, by omega, k2, k3, fun c h1 h2 => ?_, k5⟩
          by_cases e : c = i
          · rw [e]; exact g1
          · exact k4 c (by omega) h2
        · refine Or.inr ⟨fun c h1 h2 => ?_, k2⟩
          by_cases e : c = i
          · rw [e]; exact g1
          · exact k1 c (by omega) h2)
    (fun nf x hI => by
      obtain ⟨_, hor⟩ := hI
      refine ⟨x, ?_, hor.imp (fun ⟨a, k1, k2, k3, k4, k5⟩ => ⟨a, k2, k3, fun c hc => k4 c (Nat.zero_le _) hc, k5⟩) (fun ⟨k1, k2⟩ => ⟨fun c hc => k1 c (Nat.zero_le _) hc, k2⟩)⟩
      show g_X5_builds_L1 s (nI q) (nf + 1) x (nI 0 - 1) = some x
      rw [g_X5_builds_L1, if_pos (by decide)])
    4 FU (-1) (by show 4 < 5000; decide) ⟨Nat.le_refl _, Or.inr ⟨fun c h1 h2 => by omega, rfl⟩⟩
  exact ⟨r, h1, h2⟩
/-- an army is built -/
theorem x_build (hok : okS K n s) (hE : eqB n bN bO bC s) {q : Nat} (hq : q < 3) : ∃ m' N' C' s', g_X0_build bN bO bC (nI q) = some (N', C') ∧ g_X5_builds s (nI q) = some s' ∧ okS K m' s' ∧ eqB m' N' bO C' s' ∧ ∀ j, j < 14 → j ≠ 9 → j ≠ 7 → s' j = s j := by
  have hS := hok.sb hE
  have hn := hok.1
  obtain ⟨r, g1, g2⟩ := x5_buildL hS.mb hok.d q
  have hN0 : g_X0_number bN 0 = some (nI n) := x0_number0 hS.cb
  have hno : ∀ (f : Nat), f < 12 → (¬ f % 3 = 0 ∨ ¬ bldQ n s q (f / 3)) → ∀ nf, g_X0_build_L1 bO (nI q) (nf + 1) (nI f) bC bN = g_X0_build_L1 bO (nI q) nf (nI (f + 1)) bC bN := fun f hf hor nf => by
    rw [g_X0_build_L1, past (M := 12) 12 rfl hf (by decide), x0_owner hf, bd_some, x0_armyOn hS.cb, bd_some, nI_1]
    by_cases e1 : bO f = nI q
    · rw [if_pos e1]
      rcases on_cases hn hok.d (nI f) with ⟨o, ho, e, hfo⟩ | ⟨e, hfo⟩
      · rw [hfo, if_neg (nI_m1 (by omega))]
      · exfalso
        by_cases e3 : f % 3 = 0
        · refine hor.elim (fun w => w e3) (fun w => w ⟨?_, fun a ha => ?_⟩)
          · rw [← hE.2.2.1 (f / 3) (by omega), show 3 * (f / 3) = f by omega]; exact e1
          · rw [show 3 * (f / 3) = f by omega]; exact e a ha
        · exact nI_m1 (a := q) (by omega) (e1.symm.trans (hE.2.2.2.1 f hf e3))
    · rw [if_neg e1]
  by_cases h9 : n < 9
  · have hlt : nI n < 9 := nI_lt (b := 9) h9 (by decide)
    have hnle : ¬ (9 : Int32) ≤ nI n := nI_ge (b := 9) h9 (by decide)
    rcases g2 with ⟨k, hk, hb, hlow, rfl⟩ | ⟨hnone, rfl⟩
    · obtain ⟨C2, s2, k1, k2, k3, k4, k5⟩ := RB_sets hok hE h9 hq (show 3 * k < 12 by omega) hb.2
      have n8 : upd bN 0 (nI (n + 1)) 8 = s2 7 := k4.2.1 7 (by decide)
      refine ⟨n + 1, upd (upd bN 0 (nI (n + 1))) 8 (s2 7 + 1), C2, upd s2 7 (s2 7 + 1), ?_, ?_, okS_low k3 _ (by omega), eqB_num k3 k4 (k := 7) (by decide) _, fun j z1 z2 z3 => by rw [pk_un z3, k5 j z1 z2]⟩
      · rw [g_X0_build, hN0, bd_some, if_pos hlt]
        have hrun := lpR (fun nf i => g_X0_build_L1 bO (nI q) nf (nI i) bC bN) (3 * k) (FU - 3 * k) 0 (fun nf j h1 h2 => hno j (by omega) (by
          by_cases e3 : j % 3 = 0
          · exact Or.inr (hlow (j / 3) (by omega))
          · exact Or.inl e3) nf)
        rw [show FU - 3 * k + 3 * k = FU by show 5000 - 3 * k + 3 * k = 5000; omega, Nat.zero_add] at hrun
        have co : g_X0_countOne (upd bN 0 (nI (n + 1))) 8 = some (upd (upd bN 0 (nI (n + 1))) 8 (s2 7 + 1)) := (x0_count (k := 8) (by decide)).trans (by rw [n8])
        have hown : bO (3 * k) = nI q := (hE.2.2.1 k hk).trans hb.1
        refine hrun.trans ?_
        rw [show FU - 3 * k = (4999 - 3 * k) + 1 by show 5000 - 3 * k = _; omega, g_X0_build_L1, past (M := 12) 12 rfl (show 3 * k < 12 by omega) (by decide), x0_owner (by omega), bd_some, if_pos hown, x0_armyOn hS.cb, bd_some, fi_none hb.2, if_pos rfl, k1, b3_some, co, bd_some]
      · rw [g_X5_builds, g1, bd_some, if_neg (nI_m1 (by omega)), r77_9, hok.2.1, if_neg hnle, k2, bd_some, r77_7, w77_7]
    · refine ⟨n, bN, bC, s, ?_, ?_, hok, hE, fun _ _ _ _ => rfl⟩
      · rw [g_X0_build, hN0, bd_some, if_pos hlt]
        have hrun := lpR (fun nf i => g_X0_build_L1 bO (nI q) nf (nI i) bC bN) 12 4988 0 (fun nf j h1 h2 => hno j (by omega) (Or.inr (hnone (j / 3) (by omega))) nf)
        refine hrun.trans ?_
        show g_X0_build_L1 bO (nI q) (4987 + 1) (nI 12) bC bN = _
        rw [g_X0_build_L1, pastE (M := 12) 12 rfl (Nat.le_refl _) (by decide)]
      · rw [g_X5_builds, g1, bd_some, if_pos rfl]
  · have h9' : n = 9 := by omega
    refine ⟨n, bN, bC, s, ?_, ?_, hok, hE, fun _ _ _ _ => rfl⟩
    · rw [g_X0_build, hN0, bd_some, h9', if_neg (show ¬ nI 9 < 9 by decide)]
    · rw [g_X5_builds, g1, bd_some]
      split
      · rfl
      · rw [r77_9, hok.2.1, h9', if_pos (show (9 : Int32) ≤ nI 9 by decide)]
theorem x5_L2_done (hok : okS K n s) {q c : Nat} (nf : Nat) (hcen : num 4 (fun k => s (10 + k) = nI q) = c) (h : num n (fun a => av s a 0 = nI q) ≤ c + 1) : g_X5_endsYear_L2 (nI q) (nf + 1) s = some s ∧ g_X5_endsYear_L3 (nI q) (nf + 1) s = some s := by
  have hm : MB n (av s) s := ⟨hok.1, hok.2.1, fun _ _ _ _ => rfl⟩
  have hc : c ≤ 4 := by rw [← hcen]; exact num_le _ _
  constructor
  · rw [g_X5_endsYear_L2, x5_armiesOf hm, bd_some, x5_centresOf, bd_some, hcen, nI_1, if_pos (nI_le h (by omega))]
  · rw [g_X5_endsYear_L3, x5_armiesOf hm, bd_some, x5_centresOf, bd_some, hcen, nI_1, if_pos (nI_le h (by omega))]
theorem x_yearL (hok : okS K n s) (hE : eqB n bN bO bC s) : ∃ m C' N' s', g_X0_endYear_L1 bO FU 0 bC bN = some (C', N') ∧ g_X5_endsYear_L1 FU 0 s = some s' ∧ okS K m s' ∧ eqB m N' bO C' s' ∧ s' 1 = s 1 := by
  obtain ⟨b, c, h1, h2, h3⟩ := lq2F (fun nf i (x : (Nat → Int32) × (Nat → Int32)) => g_X0_endYear_L1 bO nf (nI i) x.1 x.2) (fun nf i y => g_X5_endsYear_L1 nf (nI i) y) 3
    (fun _ x y => ∃ m, okS K m y ∧ eqB m x.2 bO x.1 y ∧ y 1 = s 1) (fun x y => ∃ m, okS K m y ∧ eqB m x.2 bO x.1 y ∧ y 1 = s 1) (by decide) (bC, bN) s ⟨n, hok, hE, rfl⟩
    (fun nf nf' i x y hi hI => by
      obtain ⟨C, N⟩ := x
      obtain ⟨m, hok, hE, h1s⟩ := hI
      replace hE : eqB m N bO C y := hE
      have hS := hok.sb hE
      have hm9 := hok.1
      obtain ⟨c, hc⟩ : ∃ c, num 4 (fun k => y (10 + k) = nI i) = c := ⟨_, rfl⟩
      have hc4 : c ≤ 4 := by rw [← hc]; exact num_le _ _
      obtain ⟨A, hA⟩ : ∃ A, num m (fun a => av y a 0 = nI i) = A := ⟨_, rfl⟩
      have hA9 : A ≤ 9 := by have := num_le m (fun a => av y a 0 = nI i); omega
      have r0 : g_X5_endsYear_L1 (nf' + 1) (nI i) y = (if nI c ≤ nI A then (g_X5_endsYear_L2 (nI i) FU y).bind fun f13 => (if (0 : Int32) = 0 then g_X5_endsYear_L1 nf' (nI i + 1) f13 else (g_X5_builds f13 (nI i)).bind fun f14 => g_X5_endsYear_L1 nf' (nI i + 1) f14) else (g_X5_endsYear_L3 (nI i) FU y).bind fun f22 => (if (1 : Int32) = 0 then g_X5_endsYear_L1 nf' (nI i + 1) f22 else (g_X5_builds f22 (nI i)).bind fun f23 => g_X5_endsYear_L1 nf' (nI i + 1) f23)) := by
        rw [g_X5_endsYear_L1, past (M := 3) 3 rfl hi (by decide), x5_armiesOf hS.mb, bd_some, x5_centresOf, bd_some, hc, hA]
      have r1 : g_X0_endYear_L1 bO (nf + 1) (nI i) C N = (if nI A ≤ nI (c + 1) then (if nI c ≤ nI A then g_X0_endYear_L1 bO nf (nI (i + 1)) C N else b2 (g_X0_build N bO C (nI i)) fun f9 f10 => g_X0_endYear_L1 bO nf (nI (i + 1)) f10 f9) else b2 (g_X0_takeOff N C (nI i) (nI A - nI (c + 1))) fun f12 f13 => g_X0_endYear_L1 bO nf (nI (i + 1)) f13 f12) := by
        rw [g_X0_endYear_L1, past (M := 3) 3 rfl hi (by decide), x0_centresOf, bd_some, x0_armiesOf hS.cb, bd_some, bd_some, bd_some, bd_some, own_num hE hi, hc, hA, nI_1, nI_1]
      show ∃ x' y', _ ∧ g_X0_endYear_L1 bO (nf + 1) (nI i) C N = _ ∧ g_X5_endsYear_L1 (nf' + 1) (nI i) y = _
      by_cases e1 : A ≤ c + 1
      · have hd := x5_L2_done hok 4999 hc (by rw [hA]; exact e1)
        by_cases e2 : c ≤ A
        · refine ⟨(C, N), y, ⟨m, hok, hE, h1s⟩, ?_, ?_⟩
          · rw [r1, if_pos (nI_le e1 (by omega)), if_pos (nI_le e2 (by omega))]
          · rw [r0, if_pos (nI_le e2 (by omega)), show g_X5_endsYear_L2 (nI i) FU y = some y from hd.1, bd_some, if_pos rfl, nI_1]
        · obtain ⟨m', N', C', y', k1, k2, k3, k4, k5⟩ := x_build hok hE hi
          refine ⟨(C', N'), y', ⟨m', k3, k4, (k5 1 (by decide) (by decide) (by decide)).trans h1s⟩, ?_, ?_⟩
          · rw [r1, if_pos (nI_le e1 (by omega)), if_neg (nI_ge (by omega) (by omega)), k1, b2_some]
          · rw [r0, if_neg (nI_ge (by omega) (by omega)), show g_X5_endsYear_L3 (nI i) FU y = some y from hd.2, bd_some, if_neg t10, k2, bd_some, nI_1]
      · obtain ⟨l, hl⟩ : ∃ l, A = c + 1 + l := ⟨A - (c + 1), by omega⟩
        obtain ⟨m', C', N', y', k1, k2, k3, k4, k5, k6⟩ := x_takeOff (K := K) (bO := bO) (q := i) (c := c) hc4 m FU FU m l C N y (Nat.le_refl _) hok hE (fun j h1 h2 => by omega) (by rw [hA, hl]) hc (by show m < 5000; omega) (by show l < 5000; omega)
        refine ⟨(C', N'), y', ⟨m', k4, k5, (k6 1 (by decide) (by decide) (by decide)).trans h1s⟩, ?_, ?_⟩
        · rw [r1, if_neg (nI_ge (by omega) (by omega)), g_X0_takeOff, x0_number0 hS.cb, bd_some, pk_sub (by omega), show A - (c + 1) = l by omega, k1]; rfl
        · rw [r0, if_pos (nI_le (by omega) (by omega)), k2, bd_some, if_pos rfl, nI_1])
    (fun nf nf' x y hI => by
      refine ⟨x, y, ?_, ?_, hI⟩
      · show g_X0_endYear_L1 bO (nf + 1) (nI 3) x.1 x.2 = _
        rw [g_X0_endYear_L1, pastE (M := 3) 3 rfl (Nat.le_refl _) (by decide)]
      · rw [g_X5_endsYear_L1, pastE (M := 3) 3 rfl (Nat.le_refl _) (by decide)])
  obtain ⟨C', N'⟩ := b
  obtain ⟨m, k1, k2, k3⟩ := h3
  exact ⟨m, C', N', c, h1, h2, k1, k2, k3⟩
theorem okO_own (hok : okS K n s) {k : Nat} (hk : k < 4) : okO (ownP n (av s) k (s (10 + k))) := by
  rcases on_cases hok.1 hok.d (nI (3 * k)) with ⟨o, ho, e, _⟩ | ⟨e, _⟩
  · rw [ownP_on hok.1 hok.d ho e]
    obtain ⟨⟨q, hq, e0⟩, _⟩ := hok.arm ho
    rw [e0]
    rcases (show q = 0 ∨ q = 1 ∨ q = 2 by omega) with rfl | rfl | rfl
    · exact Or.inr (Or.inl rfl)
    · exact Or.inr (Or.inr (Or.inl rfl))
    · exact Or.inr (Or.inr (Or.inr rfl))
  · rw [ownP_no e]; exact hok.2.2.2.2.1 k hk
theorem x_year (hok : okS K n s) (hE : eqB n bN bO bC s) : ∃ m O' C' N' s', g_X0_endYear bN bC bO = some (N', C', O') ∧ g_X5_endsYear s = some (upd s' 0 (s' 0 + 1)) ∧ okS K m s' ∧ eqB m N' O' C' s' ∧ s' 1 = s 1 := by
  have hS := hok.sb hE
  have hF : ∀ a, a < n → ∃ f, f < 12 ∧ av s a 1 = nI f := fun a ha => by
    obtain ⟨_, F, q1, q2, _⟩ := hok.arm ha
    exact ⟨F, q1, q2⟩
  obtain ⟨O', g1, g2, g3⟩ := x0_claim (bO := bO) hS.cb hok.d hF
  obtain ⟨s1, g4, g5, g6⟩ := x5_belongs hS.mb hok.d
  have hav : ∀ a w, av s1 a w = av s a w := fun a w => g5 _ (Or.inr (by omega))
  have hok1 : okS K n s1 := by
    have hok' := hok
    obtain ⟨h1, h2, h3, ⟨a, b, ha, hb, e3, e4⟩, h5, h6, h7⟩ := hok'
    exact ⟨h1, by rw [g5 9 (Or.inl (by decide))]; exact h2, by rw [g5 1 (Or.inl (by decide))]; exact h3, ⟨a, b, ha, hb, by rw [g5 3 (Or.inl (by decide))]; exact e3, by rw [g5 4 (Or.inl (by decide))]; exact e4⟩, fun k hk => by rw [g6 k hk]; exact okO_own hok hk, fun a ha => okA_c (fun w _ => hav a w) (h6 a ha), fun a b ha hb e => h7 a b ha hb (by rw [← hav a 1, ← hav b 1]; exact e)⟩
  have hE1 : eqB n bN O' bC s1 := by
    obtain ⟨e1, e2, e3, e4, e5⟩ := hE
    exact ⟨by rw [g5 9 (Or.inl (by decide))]; exact e1, fun k hk => by rw [g5 k (Or.inl (by omega))]; exact e2 k hk, fun k hk => by rw [g2 k hk, g6 k hk, e3 k hk], fun f hf h3 => by rw [g3 f hf h3]; exact e4 f hf h3, fun a w ha hw => by rw [hav a w]; exact e5 a w ha hw⟩
  obtain ⟨m, C', N', s', k1, k2, k3, k4, k5⟩ := x_yearL hok1 hE1
  refine ⟨m, O', C', N', s', ?_, ?_, k3, k4, k5.trans (g5 1 (Or.inl (by decide)))⟩
  · rw [g_X0_endYear, g1, bd_some, k1, b2_some]
  · rw [g_X5_endsYear, g4, bd_some, k2, bd_some, r77_0, w77_0]
end YF
