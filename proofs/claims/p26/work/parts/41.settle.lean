/-! behind the retreats: armies come to where they stand, those without a field go -/
section SE
variable {n : Nat} {v : Nat → Nat → Int32} {bO : Nat → Int32}
/-- armies below i are as they were, the others stand where p says -/
def INV (n : Nat) (v : Nat → Nat → Int32) (p : Nat → Int32) (i m : Nat) (s : Nat → Int32) : Prop :=
  (∀ b, b < i → av s b 0 = v b 0) ∧
  (∀ j, i ≤ j → j < m → ∃ a, i ≤ a ∧ a < n ∧ ¬ p a = -1 ∧ av s j 0 = v a 0 ∧ av s j 1 = p a ∧ av s j 2 = 0 ∧ av s j 3 = -1 ∧ av s j 4 = -1) ∧
  (∀ a, i ≤ a → a < n → ¬ p a = -1 → ∃ j, i ≤ j ∧ j < m ∧ av s j 0 = v a 0 ∧ av s j 1 = p a) ∧
  (∀ j j', i ≤ j → i ≤ j' → j < m → j' < m → av s j 1 = av s j' 1 → j = j')
theorem lay_av2 {s : Nat → Int32} {i : Nat} {x : Int32} : av (lay3 (upd s (14 + 7 * i + 1) x) (14 + 7 * i) 0 (-1) (-1)) i 0 = av s i 0 ∧ av (lay3 (upd s (14 + 7 * i + 1) x) (14 + 7 * i) 0 (-1) (-1)) i 1 = x ∧ av (lay3 (upd s (14 + 7 * i + 1) x) (14 + 7 * i) 0 (-1) (-1)) i 2 = 0 ∧ av (lay3 (upd s (14 + 7 * i + 1) x) (14 + 7 * i) 0 (-1) (-1)) i 3 = -1 ∧ av (lay3 (upd s (14 + 7 * i + 1) x) (14 + 7 * i) 0 (-1) (-1)) i 4 = -1 := by
  refine ⟨?_, ?_, lay3_2, lay3_3, lay3_4⟩
  · unfold av; rw [lay3_un (by omega) (by omega) (by omega), pk_un (by omega)]
  · unfold av; rw [lay3_un (by omega) (by omega) (by omega), pk_us]
theorem lay_avo {s : Nat → Int32} {i b w : Nat} {x : Int32} (hb : b ≠ i) (hw : w < 7) : av (lay3 (upd s (14 + 7 * i + 1) x) (14 + 7 * i) 0 (-1) (-1)) b w = av s b w := by
  unfold av; rw [lay3_un (by omega) (by omega) (by omega), pk_un (by omega)]
/-- one army more comes to its field -/
theorem INV.stay {p : Nat → Int32} {i m : Nat} {s : Nat → Int32} (hp : ∀ a b, a < n → b < n → a ≠ b → p a = p b → p a = -1) (h : INV n v p (i + 1) m s) (hi : i < n) (him : i < m) (hx : ¬ p i = -1) : INV n v p i m (lay3 (upd s (14 + 7 * i + 1) (p i)) (14 + 7 * i) 0 (-1) (-1)) := by
  obtain ⟨h1, h2, h3, h4⟩ := h
  obtain ⟨g0, g1, g2, g3, g4⟩ := lay_av2 (s := s) (i := i) (x := p i)
  have fresh : ∀ j, i + 1 ≤ j → j < m → ¬ av s j 1 = p i := fun j hj hm e => by
    obtain ⟨a, a1, a2, a3, _, a5, _⟩ := h2 j hj hm
    exact hx (hp i a hi a2 (by omega) (e.symm.trans a5))
  refine ⟨fun b hb => ?_, fun j hj hm => ?_, fun a ha han hpa => ?_, fun j j' hj hj' hm hm' e => ?_⟩
  · rw [lay_avo (by omega) (by decide)]; exact h1 b (by omega)
  · by_cases e : j = i
    · subst e
      exact ⟨j, Nat.le_refl _, hi, hx, g0.trans (h1 j (by omega)), g1, g2, g3, g4⟩
    · obtain ⟨a, a1, a2, a3, a4, a5, a6, a7, a8⟩ := h2 j (by omega) hm
      exact ⟨a, by omega, a2, a3, by rw [lay_avo e (by decide)]; exact a4, by rw [lay_avo e (by decide)]; exact a5, by rw [lay_avo e (by decide)]; exact a6, by rw [lay_avo e (by decide)]; exact a7, by rw [lay_avo e (by decide)]; exact a8⟩
  · by_cases e : a = i
    · subst e
      exact ⟨a, Nat.le_refl _, him, g0.trans (h1 a (by omega)), g1⟩
    · obtain ⟨j, j1, j2, j3, j4⟩ := h3 a (by omega) han hpa
      exact ⟨j, by omega, j2, by rw [lay_avo (by omega) (by decide)]; exact j3, by rw [lay_avo (by omega) (by decide)]; exact j4⟩
  · by_cases e1 : j = i
    · by_cases e2 : j' = i
      · omega
      · rw [e1, g1, lay_avo e2 (by decide)] at e
        exact absurd e.symm (fresh j' (by omega) hm')
    · by_cases e2 : j' = i
      · rw [e2, g1, lay_avo e1 (by decide)] at e
        exact absurd e (fresh j (by omega) hm)
      · rw [lay_avo e1 (by decide), lay_avo e2 (by decide)] at e
        exact h4 j j' (by omega) (by omega) hm hm' e
/-- one army goes -/
theorem INV.go {p : Nat → Int32} {i m : Nat} {s s' : Nat → Int32} (h : INV n v p (i + 1) m s) (him : i < m) (hx : p i = -1) (hs : ∀ b w, b < m - 1 → w < 7 → av s' b w = av (lay3 (upd s (14 + 7 * i + 1) (p i)) (14 + 7 * i) 0 (-1) (-1)) (if b < i then b else b + 1) w) : INV n v p i (m - 1) s' := by
  obtain ⟨h1, h2, h3, h4⟩ := h
  have lo : ∀ b w, b < i → w < 7 → av s' b w = av s b w := fun b w hb hw => by
    rw [hs b w (by omega) hw, if_pos hb, lay_avo (by omega) hw]
  have hi2 : ∀ b w, i ≤ b → b < m - 1 → w < 7 → av s' b w = av s (b + 1) w := fun b w hb hm hw => by
    rw [hs b w hm hw, if_neg (by omega), lay_avo (by omega) hw]
  refine ⟨fun b hb => ?_, fun j hj hm => ?_, fun a ha han hpa => ?_, fun j j' hj hj' hm hm' e => ?_⟩
  · rw [lo b 0 hb (by decide)]; exact h1 b (by omega)
  · obtain ⟨a, a1, a2, a3, a4, a5, a6, a7, a8⟩ := h2 (j + 1) (by omega) (by omega)
    refine ⟨a, by omega, a2, a3, ?_, ?_, ?_, ?_, ?_⟩
    · rw [hi2 j 0 hj hm (by decide)]; exact a4
    · rw [hi2 j 1 hj hm (by decide)]; exact a5
    · rw [hi2 j 2 hj hm (by decide)]; exact a6
    · rw [hi2 j 3 hj hm (by decide)]; exact a7
    · rw [hi2 j 4 hj hm (by decide)]; exact a8
  · have e : a ≠ i := fun e => hpa (by rw [e]; exact hx)
    obtain ⟨j, j1, j2, j3, j4⟩ := h3 a (by omega) han hpa
    obtain ⟨k, rfl⟩ : ∃ k, j = k + 1 := ⟨j - 1, by omega⟩
    exact ⟨k, by omega, by omega, by rw [hi2 k 0 (by omega) (by omega) (by decide)]; exact j3, by rw [hi2 k 1 (by omega) (by omega) (by decide)]; exact j4⟩
  · rw [hi2 j 1 hj hm (by decide), hi2 j' 1 hj' hm' (by decide)] at e
    have := h4 (j + 1) (j' + 1) (by omega) (by omega) (by omega) (by omega) e
    omega
theorem x_settle {sd pl p : Nat → Int32} (hn : n ≤ 9) (hp : ∀ a b, a < n → b < n → a ≠ b → p a = p b → p a = -1) (hsd : ∀ a, a < n → sd a = p a) (hpl : ∀ a, a < n → pl a = p a) :
    ∀ (i nf nf' m : Nat) (C N s : Nat → Int32), i ≤ n → i ≤ m → i < nf → i < nf' → SB m (upd N 7 (N 7 + nI (num i fun a => p a = -1))) bO C s → INV n v p i m s →
      ∃ m' C' N' s', g_X2_settle_L1 sd nf (nI i - 1) C N = some (C', N') ∧ g_X5_opens_L2 pl nf' (nI i - 1) s = some s' ∧ SB m' N' bO C' s' ∧ INV n v p 0 m' s' ∧ ∀ j, j < 14 → j ≠ 9 → s' j = s j := by
  intro i
  induction i with
  | zero =>
    intro nf nf' m C N s _ _ hf hf' hS hI
    have h0 : (nI 0 - 1 : Int32) < 0 := by decide
    cases nf with
    | zero => omega
    | succ nf => cases nf' with
      | zero => omega
      | succ nf' =>
        refine ⟨m, C, N, s, by rw [g_X2_settle_L1, if_pos h0], by rw [g_X5_opens_L2, if_pos h0], ?_, hI, fun _ _ _ => rfl⟩
        have e : upd N 7 (N 7 + nI (num 0 fun a => p a = -1)) = N := by
          rw [show nI (num 0 fun a => p a = -1) = 0 from rfl, i_add0, upd_self]
        rw [← e]; exact hS
  | succ i ih =>
    intro nf nf' m C N s hin him hf hf' hS hI
    have hm9 := hS.1
    have h9 : i < 9 := by omega
    have hneg : ¬ nI i < 0 := nI_pos (by omega)
    have em1 : nI i + (-1) = nI i - 1 := (Int32.sub_eq_add_neg _ _).symm
    have hS1 : SB m (upd N 7 (N 7 + nI (num (i + 1) fun a => p a = -1))) bO (lay3 (upd C (7 * i + 1) (p i)) (7 * i) 0 (-1) (-1)) (lay3 (upd s (14 + 7 * i + 1) (p i)) (14 + 7 * i) 0 (-1) (-1)) := (hS.put (w := 1) (show i < m by omega) (by decide) (p i)).lay (by omega) 0 (-1) (-1)
    have hlo : ∀ j, j < 14 → lay3 (upd s (14 + 7 * i + 1) (p i)) (14 + 7 * i) 0 (-1) (-1) j = s j := fun j hj => by
      rw [lay3_un (by omega) (by omega) (by omega), pk_un (by omega)]
    have pu1 : g_X0_put C (nI i) 1 (p i) = some (upd C (7 * i + 1) (p i)) := x0_put (w := 1) (by omega)
    have gv : g_X0_give (upd C (7 * i + 1) (p i)) (nI i) 0 (-1) (-1) = some (upd C (7 * i + 1) (p i) (7 * i + 2), lay3 (upd C (7 * i + 1) (p i)) (7 * i) 0 (-1) (-1)) := x0_give h9 0 (-1) (-1)
    have r9 : ∀ {α : Type} {k : Int32 → Option α}, rdA pl 9 (nI i) k = k (p i) := fun {α k} => (rdA_n h9 (by decide)).trans (by rw [hpl i (by omega)])
    cases nf with
    | zero => omega
    | succ nf => cases nf' with
      | zero => omega
      | succ nf' =>
        by_cases e : p i = -1
        · have hnum : nI (num (i + 1) fun a => p a = -1) = nI (num i fun a => p a = -1) + 1 := by rw [num_bi, bi_t e]
          obtain ⟨C2, s2, g1, g2, g3, g4, g5⟩ := hS1.goes2 (N := N) hS1.cb7 (show i < m by omega)
          have hS2 : SB (m - 1) (upd (upd (upd N 0 (nI (m - 1))) 7 (N 7 + 1)) 7 ((upd (upd N 0 (nI (m - 1))) 7 (N 7 + 1)) 7 + nI (num i fun a => p a = -1))) bO C2 s2 := by
            refine SB_c g3 (fun j hj => ?_) (fun _ _ => rfl) (fun _ _ => rfl) (fun _ _ => rfl)
            by_cases e7 : j = 7
            · subst e7
              rw [pk_us, pk_us, pk_un (by decide), pk_us, hnum, Int32.add_assoc, Int32.add_comm 1]
            · rw [pk_un e7, pk_un e7]
              by_cases e0 : j = 0
              · rw [e0, pk_us, pk_us]
              · rw [pk_un e0, pk_un e0, pk_un e7]
          have hI2 := hI.go (show i < m by omega) e g5
          obtain ⟨m', C', N', s', k1, k2, k3, k4, k5⟩ := ih nf nf' (m - 1) C2 (upd (upd N 0 (nI (m - 1))) 7 (N 7 + 1)) s2 (by omega) (by omega) (by omega) (by omega) hS2 hI2
          have co : g_X0_countOne (upd N 0 (nI (m - 1))) 7 = some (upd (upd N 0 (nI (m - 1))) 7 (N 7 + 1)) := (x0_count (k := 7) (by decide)).trans (by rw [pk_un (by decide)])
          refine ⟨m', C', N', s', ?_, ?_, k3, k4, fun j hj h9 => by rw [k5 j hj h9, g4 j hj h9, hlo j hj]⟩
          · rw [nI_pred, g_X2_settle_L1, if_neg hneg, x4_entry h9, bd_some, hsd i (by omega), pu1, bd_some, gv, b2_some, bd_some, if_pos e, g1, b2_some, co, bd_some, em1]
            exact k1
          · rw [nI_pred, g_X5_opens_L2, if_neg hneg, x5_at1, bd_some, r9, w77 (14 + 7 * i + 1) (by omega), x5_lays h9, bd_some, r9, if_pos e, g2, bd_some, em1]
            exact k2
        · have hnum : nI (num (i + 1) fun a => p a = -1) = nI (num i fun a => p a = -1) := by rw [num_f e]
          rw [hnum] at hS1
          obtain ⟨m', C', N', s', k1, k2, k3, k4, k5⟩ := ih nf nf' m (lay3 (upd C (7 * i + 1) (p i)) (7 * i) 0 (-1) (-1)) N (lay3 (upd s (14 + 7 * i + 1) (p i)) (14 + 7 * i) 0 (-1) (-1)) (by omega) (by omega) (by omega) (by omega) hS1 (hI.stay hp (by omega) (by omega) e)
          refine ⟨m', C', N', s', ?_, ?_, k3, k4, fun j hj h9 => by rw [k5 j hj h9, hlo j hj]⟩
          · rw [nI_pred, g_X2_settle_L1, if_neg hneg, x4_entry h9, bd_some, hsd i (by omega), pu1, bd_some, gv, b2_some, bd_some, if_neg e, em1]
            exact k1
          · rw [nI_pred, g_X5_opens_L2, if_neg hneg, x5_at1, bd_some, r9, w77 (14 + 7 * i + 1) (by omega), x5_lays h9, bd_some, r9, if_neg e, em1]
            exact k2
end SE
section OP
variable {K n : Nat} {bN bO bC s : Nat → Int32}
/-- both sides' carrying out, up to the season -/
theorem x_carry (hok : okS K n s) (hE : eqB n bN bO bC s) {dr re sd fa dr2 pl : Nat → Int32} (h1 : ∀ a, a < n → re a = wyS n (av s) a ∧ dr a = drS n (av s) a ∧ sd a = pfS n (av s) a) (h2 : ∀ a, a < n → fa a = bi (Fx n (av s) a) ∧ dr2 a = drS n (av s) a ∧ pl a = pfS n (av s) a) :
    ∃ r m C1 N1 C2 N2 s1 s2, g_X2_carryOut_L1 dr re FU 0 0 bC bN = some (r, C1, N1) ∧ g_X2_settle N1 sd C1 = some (N2, C2) ∧
      g_X5_opens_L1 fa dr2 pl FU 0 0 s = some (r, s1) ∧ s1 9 = nI n ∧ g_X5_opens_L2 pl FU (nI n - 1) s1 = some s2 ∧ okS (K + 1) m s2 ∧ eqB m N2 bO C2 s2 ∧ INV n (av s) (pfS n (av s)) 0 m s2 ∧ ∀ k, k < 4 → s2 (10 + k) = s (10 + k) := by
  have hS := hok.sb hE
  have hn := hok.1
  have hokA : ∀ a, a < n → okA s a := fun a ha => hok.arm ha
  have hF : ∀ a, a < n → ∃ f, f < 12 ∧ av s a 1 = nI f := fun a ha => by
    obtain ⟨_, F, q1, q2, _⟩ := hok.arm ha
    exact ⟨F, q1, q2⟩
  have hT : ∀ a, a < n → av s a 2 = 1 → ∃ f, f < 12 ∧ av s a 3 = nI f := fun a ha h => by
    obtain ⟨_, F, q1, q2, q3⟩ := hok.arm ha
    rcases q3 with ⟨q4, _⟩ | ⟨_, ⟨t, t1, t2, _⟩, _⟩ | ⟨q4, _⟩
    · rw [q4] at h; exact absurd h (by decide)
    · exact ⟨t, t1, t2⟩
    · rw [q4] at h; exact absurd h (by decide)
  obtain ⟨pv, pd⟩ := pf_facts hn hok.d hF hT
  obtain ⟨b, c, g1, g2, g3⟩ := lq2F (fun nf i (x : Int32 × (Nat → Int32) × (Nat → Int32)) => g_X2_carryOut_L1 dr re nf x.1 (nI i) x.2.1 x.2.2) (fun nf i (y : Int32 × (Nat → Int32)) => g_X5_opens_L1 fa dr2 pl nf y.1 (nI i) y.2) n
    (fun i x y => x.1 = y.1 ∧ SB n (upd x.2.2 7 (x.2.2 7 + nI (num i fun a => pfS n (av s) a = -1))) bO x.2.1 y.2 ∧ (∀ b w, w < 5 → av y.2 b w = av s b w) ∧ y.2 3 = s 3 + nI (num i (goS n (av s))) ∧ y.2 4 = s 4 + nI (num i (Fx n (av s))) ∧ ∀ j, j < 14 → j ≠ 3 → j ≠ 4 → j ≠ 5 → j ≠ 6 → y.2 j = s j)
    (fun x y => x.1 = y.1 ∧ SB n (upd x.2.2 7 (x.2.2 7 + nI (num n fun a => pfS n (av s) a = -1))) bO x.2.1 y.2 ∧ (∀ b w, w < 5 → av y.2 b w = av s b w) ∧ y.2 3 = s 3 + nI (num n (goS n (av s))) ∧ y.2 4 = s 4 + nI (num n (Fx n (av s))) ∧ ∀ j, j < 14 → j ≠ 3 → j ≠ 4 → j ≠ 5 → j ≠ 6 → y.2 j = s j) (by omega)
    (0, bC, bN) (0, s) ⟨rfl, by
      show SB n (upd bN 7 (bN 7 + nI (num 0 fun a => pfS n (av s) a = -1))) bO bC s
      rw [show nI (num 0 fun a => pfS n (av s) a = -1) = 0 from rfl, i_add0, upd_self]; exact hS, fun _ _ _ => rfl, (i_add0 _).symm, (i_add0 _).symm, fun _ _ _ _ _ _ => rfl⟩
    (fun nf nf' i x y hi hI => by
      obtain ⟨x1, C, N⟩ := x
      obtain ⟨y1, u⟩ := y
      obtain ⟨e0, hU, hv, q3, q4, q5⟩ := hI
      replace e0 : x1 = y1 := e0
      subst e0
      replace hU : SB n (upd N 7 (N 7 + nI (num i fun a => pfS n (av s) a = -1))) bO C u := hU
      replace hv : ∀ b w, w < 5 → av u b w = av s b w := hv
      replace q3 : u 3 = s 3 + nI (num i (goS n (av s))) := q3
      replace q4 : u 4 = s 4 + nI (num i (Fx n (av s))) := q4
      replace q5 : ∀ j, j < 14 → j ≠ 3 → j ≠ 4 → j ≠ 5 → j ≠ 6 → u j = s j := q5
      have hk : C (7 * i + 2) = av s i 2 := (hU.2.2.2.2.2.2 i 2 hi (by decide)).trans (hv i 2 (by decide))
      have hN : N 0 = nI n := hU.cb7.2.1
      have k1 := x2_carryS (v := av s) (dr := dr) (re := re) hn hN hk hok.d hi (h1 i hi).1 (h1 i hi).2.1 nf x1
      have k2 := x5_opensS (v := av s) (fa := fa) (dr := dr2) (pl := pl) hU.mb (hv i 2 (by decide)) hi (h2 i hi).1 (h2 i hi).2.1 nf' x1
      rw [(h2 i hi).2.2] at k2
      refine ⟨(x1 + bi (Fx n (av s) i), ctC C i (bi (goS n (av s) i)) (bi (Fx n (av s) i)), ctN N (bi (goS n (av s) i)) (bi (Fx n (av s) i)) (bi (drv n (av s) i))), (x1 + bi (Fx n (av s) i), ctR u i (bi (goS n (av s) i)) (bi (Fx n (av s) i)) (bi (drv n (av s) i)) (bi (pfS n (av s) i = -1))), ⟨rfl, ?_, fun b w hw => ?_, ?_, ?_, fun j hj a3 a4 a5 a6 => ?_⟩, k1, k2⟩
      · rw [num_bi]; exact hU.count hi _ _ _ _
      · exact ctR_av hw |>.trans (hv b w hw)
      · refine (ctR_3 (s := u) (i := i) (u5 := bi (goS n (av s) i)) (u6 := bi (Fx n (av s) i)) (d := bi (drv n (av s) i)) (e := bi (pfS n (av s) i = -1))).trans ?_
        rw [q3, num_bi, Int32.add_assoc]
      · refine (ctR_4 (s := u) (i := i) (u5 := bi (goS n (av s) i)) (u6 := bi (Fx n (av s) i)) (d := bi (drv n (av s) i)) (e := bi (pfS n (av s) i = -1))).trans ?_
        rw [q4, num_bi, Int32.add_assoc]
      · exact (ctR_lo hj a3 a4 a5 a6).trans (q5 j hj a3 a4 a5 a6))
    (fun nf nf' x y hI => by
      refine ⟨x, y, ?_, ?_, hI⟩
      · show g_X2_carryOut_L1 dr re (nf + 1) x.1 (nI n) x.2.1 x.2.2 = _
        have hc := SB.cb7 hI.2.1
        rw [g_X2_carryOut_L1, x0_number0 hc, bd_some, go_out hn]
      · show g_X5_opens_L1 fa dr2 pl (nf' + 1) y.1 (nI n) y.2 = _
        have hm := hI.2.1.mb
        rw [g_X5_opens_L1, x5_n hm, go_out hn])
  obtain ⟨r, C1, N1⟩ := b
  obtain ⟨r', s1⟩ := c
  obtain ⟨e0, hU, hv, q3, q4, q5⟩ := g3
  replace e0 : r = r' := e0
  subst e0
  replace hU : SB n (upd N1 7 (N1 7 + nI (num n fun a => pfS n (av s) a = -1))) bO C1 s1 := hU
  replace hv : ∀ b w, w < 5 → av s1 b w = av s b w := hv
  replace q3 : s1 3 = s 3 + nI (num n (goS n (av s))) := q3
  replace q4 : s1 4 = s 4 + nI (num n (Fx n (av s))) := q4
  replace q5 : ∀ j, j < 14 → j ≠ 3 → j ≠ 4 → j ≠ 5 → j ≠ 6 → s1 j = s j := q5
  have hI0 : INV n (av s) (pfS n (av s)) n n s1 := ⟨fun b _ => hv b 0 (by decide), fun j a1 a2 => by omega, fun a a1 a2 => by omega, fun j j' a1 a2 a3 => by omega⟩
  obtain ⟨m, C2, N2, s2, k1, k2, k3, k4, k5⟩ := x_settle (sd := sd) (pl := pl) hn pd (fun a ha => (h1 a ha).2.2) (fun a ha => (h2 a ha).2.2) n FU FU n C1 N1 s1 (Nat.le_refl _) (Nat.le_refl _) (by show n < 5000; omega) (by show n < 5000; omega) hU hI0
  have hN0 : g_X0_number N1 0 = some (nI n) := x0_number0 hU.cb7
  refine ⟨r, m, C1, N1, C2, N2, s1, s2, g1, ?_, g2, hU.2.1, k2, ?_, k3.2.2, k4, fun k hk => by rw [k5 _ (by omega) (by omega), q5 _ (by omega) (by omega) (by omega) (by omega) (by omega)]⟩
  · rw [g_X2_settle, hN0, bd_some, k1, b2_some]
  · obtain ⟨_, _, o3, ⟨a, b, ha, hb, o4, o5⟩, o6, _, _⟩ := hok
    have hk4 := k4
    obtain ⟨i1, i2, i3, i4⟩ := hk4
    have b1 := num_le n (goS n (av s))
    have b2 := num_le n (Fx n (av s))
    refine ⟨k3.1, k3.2.1, ?_, ⟨a + num n (goS n (av s)), b + num n (Fx n (av s)), by omega, by omega, ?_, ?_⟩, fun k hk => ?_, fun j hj => ?_, fun j j' hj hj' e => i4 j j' (Nat.zero_le _) (Nat.zero_le _) hj hj' e⟩
    · rw [k5 1 (by decide) (by decide), q5 1 (by decide) (by decide) (by decide) (by decide) (by decide)]; exact o3
    · rw [k5 3 (by decide) (by decide), q3, o4, nI_add]
    · rw [k5 4 (by decide) (by decide), q4, o5, nI_add]
    · rw [k5 _ (by omega) (by omega), q5 _ (by omega) (by omega) (by omega) (by omega) (by omega)]; exact o6 k hk
    · obtain ⟨a, _, a2, a3, a4, a5, a6, a7, a8⟩ := i2 j (Nat.zero_le _) hj
      obtain ⟨⟨q, hq, e0⟩, _⟩ := hokA a a2
      rcases pv a a2 with w | ⟨f, hf, w⟩
      · exact absurd w a3
      · exact ⟨⟨q, hq, a4.trans e0⟩, f, hf, a5.trans w, Or.inl ⟨a6, a7, a8⟩⟩
end OP
