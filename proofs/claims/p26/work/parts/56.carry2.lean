/-! p26: behind an opening, with the order of the armies told -/
theorem num_up {P : Nat → Prop} {a : Nat} : ∀ d, num a P ≤ num (a + d) P := by
  intro d
  induction d with
  | zero => exact Nat.le_refl _
  | succ d ih =>
    have e : num (a + d + 1) P = num (a + d) P + @ite _ (P (a + d)) (Classical.propDecidable _) 1 0 := rfl
    rw [show a + (d + 1) = a + d + 1 by omega, e]; omega
theorem num_le_of {P : Nat → Prop} {a b : Nat} (h : a ≤ b) : num a P ≤ num b P := by
  obtain ⟨d, rfl⟩ : ∃ d, b = a + d := ⟨b - a, by omega⟩
  exact num_up d
theorem num_lt_of {P : Nat → Prop} {a b : Nat} (h : a < b) (hP : P a) : num a P < num b P := by
  have h1 : num (a + 1) P ≤ num b P := num_le_of h
  rw [num_t hP] at h1; omega
section SF
variable {n : Nat} {v : Nat → Nat → Int32} {bO : Nat → Int32} {p : Nat → Int32}
/-- the armies from i on stand in their old order behind those below i -/
def ORD (n : Nat) (v : Nat → Nat → Int32) (p : Nat → Int32) (i m : Nat) (s : Nat → Int32) : Prop :=
  m = i + (num n (fun a => ¬ p a = -1) - num i (fun a => ¬ p a = -1)) ∧ ∀ a, i ≤ a → a < n → ¬ p a = -1 → av s (i + (num a (fun a => ¬ p a = -1) - num i (fun a => ¬ p a = -1))) 0 = v a 0 ∧ av s (i + (num a (fun a => ¬ p a = -1) - num i (fun a => ¬ p a = -1))) 1 = p a
theorem ORD.stay {i m : Nat} {s : Nat → Int32} (h : ORD n v p (i + 1) m s) (h0 : av s i 0 = v i 0) (hi : i < n) (hx : ¬ p i = -1) : ORD n v p i m (lay3 (upd s (14 + 7 * i + 1) (p i)) (14 + 7 * i) 0 (-1) (-1)) := by
  obtain ⟨h1, h2⟩ := h
  have e1 : num (i + 1) (fun a => ¬ p a = -1) = num i (fun a => ¬ p a = -1) + 1 := num_t (P := fun a => ¬ p a = -1) hx
  have e2 : num (i + 1) (fun a => ¬ p a = -1) ≤ num n (fun a => ¬ p a = -1) := num_le_of hi
  refine ⟨by omega, fun a ha han hpa => ?_⟩
  by_cases e : a = i
  · subst e
    rw [Nat.sub_self, Nat.add_zero]
    obtain ⟨g0, g1, _⟩ := lay_av2 (s := s) (i := a) (x := p a)
    exact ⟨g0.trans h0, g1⟩
  · have e3 : num (i + 1) (fun a => ¬ p a = -1) ≤ num a (fun a => ¬ p a = -1) := num_le_of (by omega)
    obtain ⟨q1, q2⟩ := h2 a (by omega) han hpa
    rw [show i + 1 + (num a (fun a => ¬ p a = -1) - num (i + 1) (fun a => ¬ p a = -1)) = i + (num a (fun a => ¬ p a = -1) - num i (fun a => ¬ p a = -1)) by omega] at q1 q2
    rw [lay_avo (by omega) (by decide), lay_avo (by omega) (by decide)]
    exact ⟨q1, q2⟩
theorem ORD.go {i m : Nat} {s s' : Nat → Int32} (h : ORD n v p (i + 1) m s) (hi : i + 1 ≤ n) (him : i < m) (hx : p i = -1) (hs : ∀ b w, b < m - 1 → w < 7 → av s' b w = av (lay3 (upd s (14 + 7 * i + 1) (p i)) (14 + 7 * i) 0 (-1) (-1)) (if b < i then b else b + 1) w) : ORD n v p i (m - 1) s' := by
  obtain ⟨h1, h2⟩ := h
  have e1 : num (i + 1) (fun a => ¬ p a = -1) = num i (fun a => ¬ p a = -1) := num_f (P := fun a => ¬ p a = -1) (fun q => q hx)
  refine ⟨by omega, fun a ha han hpa => ?_⟩
  have hne : a ≠ i := fun e => hpa (by rw [e]; exact hx)
  have e3 : num (i + 1) (fun a => ¬ p a = -1) ≤ num a (fun a => ¬ p a = -1) := num_le_of (by omega)
  have e4 : num a (fun a => ¬ p a = -1) < num n (fun a => ¬ p a = -1) := num_lt_of (P := fun a => ¬ p a = -1) han hpa
  obtain ⟨q1, q2⟩ := h2 a (by omega) han hpa
  rw [show i + 1 + (num a (fun a => ¬ p a = -1) - num (i + 1) (fun a => ¬ p a = -1)) = i + (num a (fun a => ¬ p a = -1) - num i (fun a => ¬ p a = -1)) + 1 by omega] at q1 q2
  rw [hs _ 0 (by omega) (by decide), hs _ 1 (by omega) (by decide), if_neg (by omega), lay_avo (by omega) (by decide), lay_avo (by omega) (by decide)]
  exact ⟨q1, q2⟩
theorem x_settle2 {sd pl p : Nat → Int32} (hn : n ≤ 9) (hp : ∀ a b, a < n → b < n → a ≠ b → p a = p b → p a = -1) (hsd : ∀ a, a < n → sd a = p a) (hpl : ∀ a, a < n → pl a = p a) :
    ∀ (i nf nf' m : Nat) (C N s : Nat → Int32), i ≤ n → i ≤ m → i < nf → i < nf' → SB m (upd N 7 (N 7 + nI (num i fun a => p a = -1))) bO C s → INV n v p i m s → ORD n v p i m s →
      ∃ m' C' N' s', g_X2_settle_L1 sd nf (nI i - 1) C N = some (C', N') ∧ g_X5_opens_L2 pl nf' (nI i - 1) s = some s' ∧ SB m' N' bO C' s' ∧ INV n v p 0 m' s' ∧ ORD n v p 0 m' s' ∧ ∀ j, j < 14 → j ≠ 9 → s' j = s j := by
  intro i
  induction i with
  | zero =>
    intro nf nf' m C N s _ _ hf hf' hS hI hO
    have h0 : (nI 0 - 1 : Int32) < 0 := by decide
    cases nf with
    | zero => omega
    | succ nf => cases nf' with
      | zero => omega
      | succ nf' =>
        refine ⟨m, C, N, s, by rw [g_X2_settle_L1, if_pos h0], by rw [g_X5_opens_L2, if_pos h0], ?_, hI, hO, fun _ _ _ => rfl⟩
        have e : upd N 7 (N 7 + nI (num 0 fun a => p a = -1)) = N := by
          rw [show nI (num 0 fun a => p a = -1) = 0 from rfl, i_add0, upd_self]
        rw [← e]; exact hS
  | succ i ih =>
    intro nf nf' m C N s hin him hf hf' hS hI hO
    have hm9 := hS.1
    have h9 : i < 9 := by omega
    have hneg : ¬ nI i < 0 := nI_pos (by omega)
    have em1 : nI i + (-1) = nI i - 1 := (Int32.sub_eq_add_neg _ _).symm
    have hS1 : SB m (upd N 7 (N 7 + nI (num (i + 1) fun a => p a = -1))) bO (lay3 (upd C (7 * i + 1) (p i)) (7 * i) 0 (-1) (-1)) (lay3 (upd s (14 + 7 * i + 1) (p i)) (14 + 7 * i) 0 (-1) (-1)) := (hS.put (w := 1) (show i < m by omega) (by decide) (p i)).lay (by omega) 0 (-1) (-1)
    have hlo : ∀ j, j < 14 → lay3 (upd s (14 + 7 * i + 1) (p i)) (14 + 7 * i) 0 (-1) (-1) j = s j := fun j hj => by
      rw [lay3_un (by omega) (by omega) (by omega), pk_un (by omega)]
    have pu1 : g_X0_put C (nI i) 1 (p i) = some (upd C (7 * i + 1) (p i)) := x0_put (w := 1) (by omega)
    have gv : g_X0_give (upd C (7 * i + 1) (p i)) (nI i) 0 (-1) (-1) = some (upd C (7 * i + 1) (p i) (7 * i + 2), lay3 (upd C (7 * i + 1) (p i)) (7 * i) 0 (-1) (-1)) := x0_give h9 0 (-1) (-1)
    have r9 : ∀ {α : Type} {k : Int32 → Option α}, rdA pl 9 (nI i) k = k (p i) := fun {α k} => (rdA_n h9 (by decide)).trans (by rw [hpl i (by omega)])
    cases nf with
    | zero => omega
    | succ nf => cases nf' with
      | zero => omega
      | succ nf' =>
        by_cases e : p i = -1
        · have hnum : nI (num (i + 1) fun a => p a = -1) = nI (num i fun a => p a = -1) + 1 := by rw [num_bi, bi_t e]
          obtain ⟨C2, s2, g1, g2, g3, g4, g5⟩ := hS1.goes2 (N := N) hS1.cb7 (show i < m by omega)
          have hS2 : SB (m - 1) (upd (upd (upd N 0 (nI (m - 1))) 7 (N 7 + 1)) 7 ((upd (upd N 0 (nI (m - 1))) 7 (N 7 + 1)) 7 + nI (num i fun a => p a = -1))) bO C2 s2 := by
            refine SB_c g3 (fun j hj => ?_) (fun _ _ => rfl) (fun _ _ => rfl) (fun _ _ => rfl)
            by_cases e7 : j = 7
            · subst e7
              rw [pk_us, pk_us, pk_un (by decide), pk_us, hnum, Int32.add_assoc, Int32.add_comm 1]
            · rw [pk_un e7, pk_un e7]
              by_cases e0 : j = 0
              · rw [e0, pk_us, pk_us]
              · rw [pk_un e0, pk_un e0, pk_un e7]
          have hI2 := hI.go (show i < m by omega) e g5
          obtain ⟨m', C', N', s', k1, k2, k3, k4, k6, k5⟩ := ih nf nf' (m - 1) C2 (upd (upd N 0 (nI (m - 1))) 7 (N 7 + 1)) s2 (by omega) (by omega) (by omega) (by omega) hS2 hI2 (hO.go hin (by omega) e g5)
          have co : g_X0_countOne (upd N 0 (nI (m - 1))) 7 = some (upd (upd N 0 (nI (m - 1))) 7 (N 7 + 1)) := (x0_count (k := 7) (by decide)).trans (by rw [pk_un (by decide)])
          refine ⟨m', C', N', s', ?_, ?_, k3, k4, k6, fun j hj h9 => by rw [k5 j hj h9, g4 j hj h9, hlo j hj]⟩
          · rw [nI_pred, g_X2_settle_L1, if_neg hneg, x4_entry h9, bd_some, hsd i (by omega), pu1, bd_some, gv, b2_some, bd_some, if_pos e, g1, b2_some, co, bd_some, em1]
            exact k1
          · rw [nI_pred, g_X5_opens_L2, if_neg hneg, x5_at1, bd_some, r9, w77 (14 + 7 * i + 1) (by omega), x5_lays h9, bd_some, r9, if_pos e, g2, bd_some, em1]
            exact k2
        · have hnum : nI (num (i + 1) fun a => p a = -1) = nI (num i fun a => p a = -1) := by rw [num_f e]
          rw [hnum] at hS1
          obtain ⟨m', C', N', s', k1, k2, k3, k4, k6, k5⟩ := ih nf nf' m (lay3 (upd C (7 * i + 1) (p i)) (7 * i) 0 (-1) (-1)) N (lay3 (upd s (14 + 7 * i + 1) (p i)) (14 + 7 * i) 0 (-1) (-1)) (by omega) (by omega) (by omega) (by omega) hS1 (hI.stay hp (by omega) (by omega) e) (hO.stay (hI.1 i (by omega)) hin e)
          refine ⟨m', C', N', s', ?_, ?_, k3, k4, k6, fun j hj h9 => by rw [k5 j hj h9, hlo j hj]⟩
          · rw [nI_pred, g_X2_settle_L1, if_neg hneg, x4_entry h9, bd_some, hsd i (by omega), pu1, bd_some, gv, b2_some, bd_some, if_neg e, em1]
            exact k1
          · rw [nI_pred, g_X5_opens_L2, if_neg hneg, x5_at1, bd_some, r9, w77 (14 + 7 * i + 1) (by omega), x5_lays h9, bd_some, r9, if_neg e, em1]
            exact k2
/-- what an opening counts -/
theorem x2_carryN {v : Nat → Nat → Int32} {dr re bN bC : Nat → Int32} (h : CB n v bN bC) (hd : dist n v) (hre : ∀ a, a < n → re a = wyS n v a) (hdr : ∀ a, a < n → dr a = drS n v a) :
    ∃ C1 N1, g_X2_carryOut_L1 dr re FU 0 0 bC bN = some (nI (num n (Fx n v)), C1, N1) ∧ N1 4 = bN 4 + nI (num n (goS n v)) ∧ N1 5 = bN 5 + nI (num n (Fx n v)) ∧ N1 6 = bN 6 + nI (num n (drv n v)) ∧ ∀ j, j ≠ 4 → j ≠ 5 → j ≠ 6 → N1 j = bN j := by
  have hn := h.1
  obtain ⟨⟨r, C1, N1⟩, h1, h2, h3⟩ := lpF (fun nf i (x : Int32 × (Nat → Int32) × (Nat → Int32)) => g_X2_carryOut_L1 dr re nf x.1 (nI i) x.2.1 x.2.2) n
    (fun i x => x.1 = nI (num i (Fx n v)) ∧ (x.2.2 4 = bN 4 + nI (num i (goS n v)) ∧ x.2.2 5 = bN 5 + nI (num i (Fx n v)) ∧ x.2.2 6 = bN 6 + nI (num i (drv n v)) ∧ ∀ j, j ≠ 4 → j ≠ 5 → j ≠ 6 → x.2.2 j = bN j) ∧ ∀ b, b < n → x.2.1 (7 * b + 2) = v b 2)
    (fun x => x.1 = nI (num n (Fx n v)) ∧ (x.2.2 4 = bN 4 + nI (num n (goS n v)) ∧ x.2.2 5 = bN 5 + nI (num n (Fx n v)) ∧ x.2.2 6 = bN 6 + nI (num n (drv n v)) ∧ ∀ j, j ≠ 4 → j ≠ 5 → j ≠ 6 → x.2.2 j = bN j)) (by omega) (0, bC, bN)
    ⟨rfl, ⟨(i_add0 _).symm, (i_add0 _).symm, (i_add0 _).symm, fun _ _ _ _ => rfl⟩, fun b hb => h.2.2 b 2 hb (by decide)⟩
    (fun nf i x hi hI => by
      obtain ⟨r, C, N⟩ := x
      obtain ⟨i1, ⟨i4, i5, i6, i7⟩, i8⟩ := hI
      replace i1 : r = nI (num i (Fx n v)) := i1
      replace i4 : N 4 = bN 4 + nI (num i (goS n v)) := i4
      replace i5 : N 5 = bN 5 + nI (num i (Fx n v)) := i5
      replace i6 : N 6 = bN 6 + nI (num i (drv n v)) := i6
      replace i7 : ∀ j, j ≠ 4 → j ≠ 5 → j ≠ 6 → N j = bN j := i7
      replace i8 : ∀ b, b < n → C (7 * b + 2) = v b 2 := i8
      refine Or.inl ⟨(r + bi (Fx n v i), ctC C i (bi (goS n v i)) (bi (Fx n v i)), ctN N (bi (goS n v i)) (bi (Fx n v i)) (bi (drv n v i))), ⟨?_, ⟨?_, ?_, ?_, fun j j4 j5 j6 => ?_⟩, fun b hb => ?_⟩, x2_carryS hn ((i7 0 (by decide) (by decide) (by decide)).trans h.2.1) (i8 i hi) hd hi (hre i hi) (hdr i hi) nf r⟩
      · show r + bi (Fx n v i) = _
        rw [i1, num_bi]
      · show ctN N (bi (goS n v i)) (bi (Fx n v i)) (bi (drv n v i)) 4 = _
        unfold ctN; rw [pk_un (by decide), pk_un (by decide), pk_us, i4, num_bi, Int32.add_assoc]
      · show ctN N (bi (goS n v i)) (bi (Fx n v i)) (bi (drv n v i)) 5 = _
        unfold ctN; rw [pk_un (by decide), pk_us, i5, num_bi, Int32.add_assoc]
      · show ctN N (bi (goS n v i)) (bi (Fx n v i)) (bi (drv n v i)) 6 = _
        unfold ctN; rw [pk_us, i6, num_bi, Int32.add_assoc]
      · show ctN N (bi (goS n v i)) (bi (Fx n v i)) (bi (drv n v i)) j = _
        unfold ctN; rw [pk_un j6, pk_un j5, pk_un j4]; exact i7 j j4 j5 j6
      · show ctC C i (bi (goS n v i)) (bi (Fx n v i)) (7 * b + 2) = _
        unfold ctC; rw [pk_un (by omega), pk_un (by omega)]; exact i8 b hb)
    (fun nf x hI => ⟨x, by
      have hN : x.2.2 0 = nI n := (hI.2.1.2.2.2 0 (by decide) (by decide) (by decide)).trans h.2.1
      show g_X2_carryOut_L1 dr re (nf + 1) x.1 (nI n) x.2.1 x.2.2 = _
      rw [g_X2_carryOut_L1, show g_X0_number x.2.2 0 = some (nI n) from (x0_number (k := 0) (by decide)).trans (by rw [hN]), bd_some, go_out hn], hI.1, hI.2.1⟩)
  replace h2 : r = nI (num n (Fx n v)) := h2
  subst h2
  exact ⟨C1, N1, h1, h3⟩
theorem x2_settleN {sd p : Nat → Int32} (hsd : ∀ a, a < n → sd a = p a) (hn : n ≤ 9) : ∀ (i nf m : Nat) (C N C' N' : Nat → Int32), i ≤ n → i ≤ m → m ≤ 9 → N 0 = nI m → i < nf → g_X2_settle_L1 sd nf (nI i - 1) C N = some (C', N') → N' 7 = N 7 + nI (num i fun a => p a = -1) ∧ ∀ j, j ≠ 0 → j ≠ 7 → N' j = N j := by
  intro i
  induction i with
  | zero =>
    intro nf m C N C' N' _ _ _ _ hf h
    obtain ⟨nf, rfl⟩ : ∃ k, nf = k + 1 := ⟨nf - 1, by omega⟩
    rw [g_X2_settle_L1, if_pos (by decide)] at h
    have h2 := Option.some.inj h
    have e2 : N' = N := (congrArg Prod.snd h2).symm
    rw [e2]
    exact ⟨(i_add0 _).symm, fun _ _ _ => rfl⟩
  | succ i ih =>
    intro nf m C N C' N' hin him hm9 hN hf h
    obtain ⟨nf, rfl⟩ : ∃ k, nf = k + 1 := ⟨nf - 1, by omega⟩
    have h9 : i < 9 := by omega
    have hneg : ¬ nI i < 0 := nI_pos (by omega)
    have em1 : nI i + (-1) = nI i - 1 := (Int32.sub_eq_add_neg _ _).symm
    have pu1 : g_X0_put C (nI i) 1 (p i) = some (upd C (7 * i + 1) (p i)) := x0_put (w := 1) (by omega)
    have gv : g_X0_give (upd C (7 * i + 1) (p i)) (nI i) 0 (-1) (-1) = some (upd C (7 * i + 1) (p i) (7 * i + 2), lay3 (upd C (7 * i + 1) (p i)) (7 * i) 0 (-1) (-1)) := x0_give h9 0 (-1) (-1)
    rw [nI_pred, g_X2_settle_L1, if_neg hneg, x4_entry h9, bd_some, hsd i (by omega), pu1, bd_some, gv, b2_some, bd_some] at h
    by_cases e : p i = -1
    · have hc : CB m (av (fun j => lay3 (upd C (7 * i + 1) (p i)) (7 * i) 0 (-1) (-1) (j - 14))) N (lay3 (upd C (7 * i + 1) (p i)) (7 * i) 0 (-1) (-1)) := ⟨hm9, hN, fun a w _ _ => by
        unfold av
        show _ = lay3 (upd C (7 * i + 1) (p i)) (7 * i) 0 (-1) (-1) (14 + 7 * a + w - 14)
        rw [show 14 + 7 * a + w - 14 = 7 * a + w by omega]⟩
      obtain ⟨C2, g1, _⟩ := x0_remove hc (show i < m by omega)
      have co : g_X0_countOne (upd N 0 (nI (m - 1))) 7 = some (upd (upd N 0 (nI (m - 1))) 7 (N 7 + 1)) := (x0_count (k := 7) (by decide)).trans (by rw [pk_un (by decide)])
      rw [if_pos e, g1, b2_some, co, bd_some, em1] at h
      obtain ⟨k1, k2⟩ := ih nf (m - 1) C2 (upd (upd N 0 (nI (m - 1))) 7 (N 7 + 1)) C' N' (by omega) (by omega) (by omega) (by rw [pk_un (by decide), pk_us]) (by omega) h
      refine ⟨?_, fun j j0 j7 => by rw [k2 j j0 j7, pk_un j7, pk_un j0]⟩
      rw [k1, pk_us, num_bi, bi_t e, Int32.add_assoc, Int32.add_comm 1]
    · rw [if_neg e, em1] at h
      obtain ⟨k1, k2⟩ := ih nf m _ N C' N' (by omega) (by omega) hm9 hN (by omega) h
      exact ⟨by rw [k1, num_f (P := fun a => p a = -1) e], k2⟩
end SF
section OQ
variable {K n : Nat} {bN bO bC s : Nat → Int32}
theorem x_carry2 (hok : okS K n s) (hE : eqB n bN bO bC s) {dr re sd fa dr2 pl : Nat → Int32} (h1 : ∀ a, a < n → re a = wyS n (av s) a ∧ dr a = drS n (av s) a ∧ sd a = pfS n (av s) a) (h2 : ∀ a, a < n → fa a = bi (Fx n (av s) a) ∧ dr2 a = drS n (av s) a ∧ pl a = pfS n (av s) a) :
    ∃ r m C1 N1 C2 N2 s1 s2, g_X2_carryOut_L1 dr re FU 0 0 bC bN = some (r, C1, N1) ∧ g_X2_settle N1 sd C1 = some (N2, C2) ∧
      g_X5_opens_L1 fa dr2 pl FU 0 0 s = some (r, s1) ∧ s1 9 = nI n ∧ g_X5_opens_L2 pl FU (nI n - 1) s1 = some s2 ∧ okS (K + 1) m s2 ∧ eqB m N2 bO C2 s2 ∧ INV n (av s) (pfS n (av s)) 0 m s2 ∧ ORD n (av s) (pfS n (av s)) 0 m s2 ∧ ∀ k, k < 4 → s2 (10 + k) = s (10 + k) := by
  have hS := hok.sb hE
  have hn := hok.1
  have hokA : ∀ a, a < n → okA s a := fun a ha => hok.arm ha
  have hF : ∀ a, a < n → ∃ f, f < 12 ∧ av s a 1 = nI f := fun a ha => by
    obtain ⟨_, F, q1, q2, _⟩ := hok.arm ha
    exact ⟨F, q1, q2⟩
  have hT : ∀ a, a < n → av s a 2 = 1 → ∃ f, f < 12 ∧ av s a 3 = nI f := fun a ha h => by
    obtain ⟨_, F, q1, q2, q3⟩ := hok.arm ha
    rcases q3 with ⟨q4, _⟩ | ⟨_, ⟨t, t1, t2, _⟩, _⟩ | ⟨q4, _⟩
    · rw [q4] at h; exact absurd h (by decide)
    · exact ⟨t, t1, t2⟩
    · rw [q4] at h; exact absurd h (by decide)
  obtain ⟨pv, pd⟩ := pf_facts hn hok.d hF hT
  obtain ⟨b, c, g1, g2, g3⟩ := lq2F (fun nf i (x : Int32 × (Nat → Int32) × (Nat → Int32)) => g_X2_carryOut_L1 dr re nf x.1 (nI i) x.2.1 x.2.2) (fun nf i (y : Int32 × (Nat → Int32)) => g_X5_opens_L1 fa dr2 pl nf y.1 (nI i) y.2) n
    (fun i x y => x.1 = y.1 ∧ SB n (upd x.2.2 7 (x.2.2 7 + nI (num i fun a => pfS n (av s) a = -1))) bO x.2.1 y.2 ∧ (∀ b w, w < 5 → av y.2 b w = av s b w) ∧ y.2 3 = s 3 + nI (num i (goS n (av s))) ∧ y.2 4 = s 4 + nI (num i (Fx n (av s))) ∧ ∀ j, j < 14 → j ≠ 3 → j ≠ 4 → j ≠ 5 → j ≠ 6 → y.2 j = s j)
    (fun x y => x.1 = y.1 ∧ SB n (upd x.2.2 7 (x.2.2 7 + nI (num n fun a => pfS n (av s) a = -1))) bO x.2.1 y.2 ∧ (∀ b w, w < 5 → av y.2 b w = av s b w) ∧ y.2 3 = s 3 + nI (num n (goS n (av s))) ∧ y.2 4 = s 4 + nI (num n (Fx n (av s))) ∧ ∀ j, j < 14 → j ≠ 3 → j ≠ 4 → j ≠ 5 → j ≠ 6 → y.2 j = s j) (by omega)
    (0, bC, bN) (0, s) ⟨rfl, by
      show SB n (upd bN 7 (bN 7 + nI (num 0 fun a => pfS n (av s) a = -1))) bO bC s
      rw [show nI (num 0 fun a => pfS n (av s) a = -1) = 0 from rfl, i_add0, upd_self]; exact hS, fun _ _ _ => rfl, (i_add0 _).symm, (i_add0 _).symm, fun _ _ _ _ _ _ => rfl⟩
    (fun nf nf' i x y hi hI => by
      obtain ⟨x1, C, N⟩ := x
      obtain ⟨y1, u⟩ := y
      obtain ⟨e0, hU, hv, q3, q4, q5⟩ := hI
      replace e0 : x1 = y1 := e0
      subst e0
      replace hU : SB n (upd N 7 (N 7 + nI (num i fun a => pfS n (av s) a = -1))) bO C u := hU
      replace hv : ∀ b w, w < 5 → av u b w = av s b w := hv
      replace q3 : u 3 = s 3 + nI (num i (goS n (av s))) := q3
      replace q4 : u 4 = s 4 + nI (num i (Fx n (av s))) := q4
      replace q5 : ∀ j, j < 14 → j ≠ 3 → j ≠ 4 → j ≠ 5 → j ≠ 6 → u j = s j := q5
      have hk : C (7 * i + 2) = av s i 2 := (hU.2.2.2.2.2.2 i 2 hi (by decide)).trans (hv i 2 (by decide))
      have hN : N 0 = nI n := hU.cb7.2.1
      have k1 := x2_carryS (v := av s) (dr := dr) (re := re) hn hN hk hok.d hi (h1 i hi).1 (h1 i hi).2.1 nf x1
      have k2 := x5_opensS (v := av s) (fa := fa) (dr := dr2) (pl := pl) hU.mb (hv i 2 (by decide)) hi (h2 i hi).1 (h2 i hi).2.1 nf' x1
      rw [(h2 i hi).2.2] at k2
      refine ⟨(x1 + bi (Fx n (av s) i), ctC C i (bi (goS n (av s) i)) (bi (Fx n (av s) i)), ctN N (bi (goS n (av s) i)) (bi (Fx n (av s) i)) (bi (drv n (av s) i))), (x1 + bi (Fx n (av s) i), ctR u i (bi (goS n (av s) i)) (bi (Fx n (av s) i)) (bi (drv n (av s) i)) (bi (pfS n (av s) i = -1))), ⟨rfl, ?_, fun b w hw => ?_, ?_, ?_, fun j hj a3 a4 a5 a6 => ?_⟩, k1, k2⟩
      · rw [num_bi]; exact hU.count hi _ _ _ _
      · exact ctR_av hw |>.trans (hv b w hw)
      · refine (ctR_3 (s := u) (i := i) (u5 := bi (goS n (av s) i)) (u6 := bi (Fx n (av s) i)) (d := bi (drv n (av s) i)) (e := bi (pfS n (av s) i = -1))).trans ?_
        rw [q3, num_bi, Int32.add_assoc]
      · refine (ctR_4 (s := u) (i := i) (u5 := bi (goS n (av s) i)) (u6 := bi (Fx n (av s) i)) (d := bi (drv n (av s) i)) (e := bi (pfS n (av s) i = -1))).trans ?_
        rw [q4, num_bi, Int32.add_assoc]
      · exact (ctR_lo hj a3 a4 a5 a6).trans (q5 j hj a3 a4 a5 a6))
    (fun nf nf' x y hI => by
      refine ⟨x, y, ?_, ?_, hI⟩
      · show g_X2_carryOut_L1 dr re (nf + 1) x.1 (nI n) x.2.1 x.2.2 = _
        have hc := SB.cb7 hI.2.1
        rw [g_X2_carryOut_L1, x0_number0 hc, bd_some, go_out hn]
      · show g_X5_opens_L1 fa dr2 pl (nf' + 1) y.1 (nI n) y.2 = _
        have hm := hI.2.1.mb
        rw [g_X5_opens_L1, x5_n hm, go_out hn])
  obtain ⟨r, C1, N1⟩ := b
  obtain ⟨r', s1⟩ := c
  obtain ⟨e0, hU, hv, q3, q4, q5⟩ := g3
  replace e0 : r = r' := e0
  subst e0
  replace hU : SB n (upd N1 7 (N1 7 + nI (num n fun a => pfS n (av s) a = -1))) bO C1 s1 := hU
  replace hv : ∀ b w, w < 5 → av s1 b w = av s b w := hv
  replace q3 : s1 3 = s 3 + nI (num n (goS n (av s))) := q3
  replace q4 : s1 4 = s 4 + nI (num n (Fx n (av s))) := q4
  replace q5 : ∀ j, j < 14 → j ≠ 3 → j ≠ 4 → j ≠ 5 → j ≠ 6 → s1 j = s j := q5
  have hI0 : INV n (av s) (pfS n (av s)) n n s1 := ⟨fun b _ => hv b 0 (by decide), fun j a1 a2 => by omega, fun a a1 a2 => by omega, fun j j' a1 a2 a3 => by omega⟩
  obtain ⟨m, C2, N2, s2, k1, k2, k3, k4, k6, k5⟩ := x_settle2 (sd := sd) (pl := pl) hn pd (fun a ha => (h1 a ha).2.2) (fun a ha => (h2 a ha).2.2) n FU FU n C1 N1 s1 (Nat.le_refl _) (Nat.le_refl _) (by show n < 5000; omega) (by show n < 5000; omega) hU hI0 ⟨by omega, fun a h1 h2 => by omega⟩
  have hN0 : g_X0_number N1 0 = some (nI n) := x0_number0 hU.cb7
  refine ⟨r, m, C1, N1, C2, N2, s1, s2, g1, ?_, g2, hU.2.1, k2, ?_, k3.2.2, k4, k6, fun k hk => by rw [k5 _ (by omega) (by omega), q5 _ (by omega) (by omega) (by omega) (by omega) (by omega)]⟩
  · rw [g_X2_settle, hN0, bd_some, k1, b2_some]
  · obtain ⟨_, _, o3, ⟨a, b, ha, hb, o4, o5⟩, o6, _, _⟩ := hok
    have hk4 := k4
    obtain ⟨i1, i2, i3, i4⟩ := hk4
    have b1 := num_le n (goS n (av s))
    have b2 := num_le n (Fx n (av s))
    refine ⟨k3.1, k3.2.1, ?_, ⟨a + num n (goS n (av s)), b + num n (Fx n (av s)), by omega, by omega, ?_, ?_⟩, fun k hk => ?_, fun j hj => ?_, fun j j' hj hj' e => i4 j j' (Nat.zero_le _) (Nat.zero_le _) hj hj' e⟩
    · rw [k5 1 (by decide) (by decide), q5 1 (by decide) (by decide) (by decide) (by decide) (by decide)]; exact o3
    · rw [k5 3 (by decide) (by decide), q3, o4, nI_add]
    · rw [k5 4 (by decide) (by decide), q4, o5, nI_add]
    · rw [k5 _ (by omega) (by omega), q5 _ (by omega) (by omega) (by omega) (by omega) (by omega)]; exact o6 k hk
    · obtain ⟨a, _, a2, a3, a4, a5, a6, a7, a8⟩ := i2 j (Nat.zero_le _) hj
      obtain ⟨⟨q, hq, e0⟩, _⟩ := hokA a a2
      rcases pv a a2 with w | ⟨f, hf, w⟩
      · exact absurd w a3
      · exact ⟨⟨q, hq, a4.trans e0⟩, f, hf, a5.trans w, Or.inl ⟨a6, a7, a8⟩⟩
end OQ
