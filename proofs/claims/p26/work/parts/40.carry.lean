/-! where the armies stand behind the retreats; what is counted by an opening -/
section PF
variable {n : Nat} {v : Nat → Nat → Int32}
theorem run_pf (hn : n ≤ 9) : ∀ (k : Nat) (W : Nat → Prop) (pl : Nat → Int32), num n W ≤ k → (∀ a, a < n → pl a = -1 ∨ ∃ f, f < 12 ∧ pl a = nI f) → (∀ a b, a < n → b < n → ¬ W a → ¬ W b → a ≠ b → pl a = pl b → pl a = -1) →
    (∀ a, a < n → run n v k W pl a = -1 ∨ ∃ f, f < 12 ∧ run n v k W pl a = nI f) ∧ ∀ a b, a < n → b < n → a ≠ b → run n v k W pl a = run n v k W pl b → run n v k W pl a = -1 := by
  intro k
  induction k with
  | zero =>
    intro W pl hW hv hd
    have h0 := num_0 (Nat.le_zero.mp hW)
    exact ⟨hv, fun a b ha hb => hd a b ha hb (h0 a ha) (h0 b hb)⟩
  | succ k ih =>
    intro W pl hW hv hd
    rcases mx_cases n W (dsN n v) with ⟨c, c1, c2, c3⟩ | ⟨c1, c2⟩
    · rw [run_step (by omega) c3]
      have key : rtS n v pl c = -1 ∨ ∃ f, f < 12 ∧ rtS n v pl c = nI f ∧ ∀ b, b < n → ¬ pl b = nI f := by
        unfold rtS
        rcases fi_cases 12 (rtQ n v pl c) with ⟨f, h1, h2, _, h4⟩ | ⟨_, h4⟩
        · exact Or.inr ⟨f, h1, h4, fun b hb e => h2.2.2.1 ⟨b, hb, e⟩⟩
        · exact Or.inl h4
      refine ih _ _ (num_minus c1 c2 hW) (fun a ha => ?_) (fun a b ha hb wa wb hne e => ?_)
      · by_cases q : a = c
        · rw [q, pk_us]; exact key.imp id (fun ⟨f, h1, h2, _⟩ => ⟨f, h1, h2⟩)
        · rw [pk_un q]; exact hv a ha
      · by_cases qa : a = c
        · have qb : b ≠ c := fun z => hne (qa.trans z.symm)
          rw [qa, pk_us, pk_un qb] at e
          rw [qa, pk_us]
          rcases key with k1 | ⟨f, _, k2, k3⟩
          · exact k1
          · exact absurd (e.symm.trans k2) (k3 b hb)
        · by_cases qb : b = c
          · rw [qb, pk_us, pk_un qa] at e
            rw [pk_un qa]
            rcases key with k1 | ⟨f, _, k2, k3⟩
            · exact e.trans k1
            · exact absurd (e.trans k2) (k3 a ha)
          · rw [pk_un qa, pk_un qb] at e
            rw [pk_un qa]
            exact hd a b ha hb (fun w => wa ⟨w, qa⟩) (fun w => wb ⟨w, qb⟩) hne e
    · rw [run_none c1]
      exact ⟨hv, fun a b ha hb => hd a b ha hb (c1 a ha) (c1 b hb)⟩
theorem pf_facts (hn : n ≤ 9) (hd : dist n v) (hF : ∀ a, a < n → ∃ f, f < 12 ∧ v a 1 = nI f) (hT : ∀ a, a < n → v a 2 = 1 → ∃ f, f < 12 ∧ v a 3 = nI f) :
    (∀ a, a < n → pfS n v a = -1 ∨ ∃ f, f < 12 ∧ pfS n v a = nI f) ∧ ∀ a b, a < n → b < n → a ≠ b → pfS n v a = pfS n v b → pfS n v a = -1 := by
  refine run_pf hn n (drv n v) (plS n v) (num_le n _) (fun a ha => ?_) (fun a b ha hb wa wb hne e => ?_)
  · unfold plS
    by_cases g : goS n v a
    · rw [cite_t g]; exact Or.inr (hT a ha g.1)
    · rw [cite_f g]; exact Or.inr (hF a ha)
  · exfalso
    unfold plS at e
    by_cases ga : goS n v a
    · by_cases gb : goS n v b
      · rw [cite_t ga, cite_t gb] at e
        exact hne (go_one hn hd ha hb ga gb e)
      · rw [cite_t ga, cite_f gb] at e
        have := dr_of hn hd gb ha ga e
        exact wb (fun z => nI_m1 (a := a) (by omega) (this.symm.trans z))
    · by_cases gb : goS n v b
      · rw [cite_f ga, cite_t gb] at e
        have := dr_of hn hd ga hb gb e.symm
        exact wa (fun z => nI_m1 (a := b) (by omega) (this.symm.trans z))
      · rw [cite_f ga, cite_f gb] at e
        exact hne (hd a b ha hb e)
end PF
theorem num_bi (i : Nat) (P : Nat → Prop) : nI (num (i + 1) P) = nI (num i P) + bi (P i) := by
  by_cases h : P i
  · rw [num_t h, bi_t h, nI_1]
  · rw [num_f h, bi_f h, i_add0]
section CA
variable {n : Nat} {bN bO bC s : Nat → Int32} {a : Nat}
theorem SB.cb7 {d : Int32} (h : SB n (upd bN 7 d) bO bC s) : CB n (av s) bN bC := by
  obtain ⟨h1, h2, h3⟩ := h.cb
  exact ⟨h1, by rw [pk_un (by decide)] at h2; exact h2, h3⟩
/-- the reference's row, an army's opening counted -/
def ctR (s : Nat → Int32) (i : Nat) (u5 u6 d e : Int32) : Nat → Int32 :=
  upd (upd (upd (upd (upd (upd s (14 + 7 * i + 5) (s (14 + 7 * i + 5) + u5)) (14 + 7 * i + 6) (s (14 + 7 * i + 6) + u6)) 3 (s 3 + u5)) 4 (s 4 + u6)) 5 (s 5 + d)) 6 (s 6 + e)
def ctC (C : Nat → Int32) (i : Nat) (u5 u6 : Int32) : Nat → Int32 := upd (upd C (7 * i + 5) (C (7 * i + 5) + u5)) (7 * i + 6) (C (7 * i + 6) + u6)
def ctN (N : Nat → Int32) (u5 u6 d : Int32) : Nat → Int32 := upd (upd (upd N 4 (N 4 + u5)) 5 (N 5 + u6)) 6 (N 6 + d)
theorem ctR_lo {i : Nat} {u5 u6 d e : Int32} {j : Nat} (h : j < 14) (h3 : j ≠ 3) (h4 : j ≠ 4) (h5 : j ≠ 5) (h6 : j ≠ 6) : ctR s i u5 u6 d e j = s j := by
  unfold ctR; rw [pk_un h6, pk_un h5, pk_un h4, pk_un h3, pk_un (by omega), pk_un (by omega)]
theorem ctR_3 {i : Nat} {u5 u6 d e : Int32} : ctR s i u5 u6 d e 3 = s 3 + u5 := by
  unfold ctR; rw [pk_un (by decide), pk_un (by decide), pk_un (by decide), pk_us]
theorem ctR_4 {i : Nat} {u5 u6 d e : Int32} : ctR s i u5 u6 d e 4 = s 4 + u6 := by
  unfold ctR; rw [pk_un (by decide), pk_un (by decide), pk_us]
theorem ctR_av {i : Nat} {u5 u6 d e : Int32} {b w : Nat} (hw : w < 5) : av (ctR s i u5 u6 d e) b w = av s b w := by
  unfold av ctR; rw [pk_un (by omega), pk_un (by omega), pk_un (by omega), pk_un (by omega), pk_un (by omega), pk_un (by omega)]
theorem SB.count {N : Nat → Int32} {D : Int32} {i : Nat} (h : SB n (upd N 7 (N 7 + D)) bO bC s) (hi : i < n) (u5 u6 d e : Int32) : SB n (upd (ctN N u5 u6 d) 7 (ctN N u5 u6 d 7 + (D + e))) bO (ctC bC i u5 u6) (ctR s i u5 u6 d e) := by
  have q5 : bC (7 * i + 5) = s (14 + 7 * i + 5) := h.2.2.2.2.2.2 i 5 hi (by decide)
  have q6 : bC (7 * i + 6) = s (14 + 7 * i + 6) := h.2.2.2.2.2.2 i 6 hi (by decide)
  have n4 : N 4 = s 3 := by have := h.2.2.2.1 3 (by decide); rw [pk_un (by decide)] at this; exact this
  have n5 : N 5 = s 4 := by have := h.2.2.2.1 4 (by decide); rw [pk_un (by decide)] at this; exact this
  have n6 : N 6 = s 5 := by have := h.2.2.2.1 5 (by decide); rw [pk_un (by decide)] at this; exact this
  have n7 : N 7 + D = s 6 := by have := h.2.2.2.1 6 (by decide); rw [pk_us] at this; exact this
  have k1 := ((((((h.put (w := 5) hi (by decide) (s (14 + 7 * i + 5) + u5)).put (w := 6) hi (by decide) (s (14 + 7 * i + 6) + u6)).num (k := 3) (by decide) (s 3 + u5)).num (k := 4) (by decide) (s 4 + u6)).num (k := 5) (by decide) (s 5 + d)).num (k := 6) (by decide) (s 6 + e))
  refine SB_c k1 (fun j hj => ?_) (fun _ _ => rfl) (fun j hj => ?_) (fun j hj => rfl)
  · unfold ctN
    rw [← n4, ← n5, ← n6, ← n7]
    by_cases e7 : j = 7
    · subst e7
      simp only [pk_us]
      rw [pk_un (by decide), pk_un (by decide), pk_un (by decide), Int32.add_assoc]
    · rw [pk_un e7, pk_un e7]
      by_cases e6 : j = 6
      · subst e6; rw [pk_us, pk_us]
      · rw [pk_un e6, pk_un e6]
        by_cases e5 : j = 5
        · subst e5; rw [pk_us, pk_us]
        · rw [pk_un e5, pk_un e5]
          by_cases e4 : j = 4
          · subst e4; rw [pk_us, pk_us]
          · rw [pk_un e4, pk_un e4, pk_un e7]
  · unfold ctC
    rw [q5, q6]
theorem x2_carryJ {dr : Nat → Int32} {v : Nat → Nat → Int32} {i : Nat} (hi : i < 9) (hdr : dr i = drS n v i) (bk : Int32 → Int32 → (Nat → Int32) → (Nat → Int32) → Option (Int32 × (Nat → Int32) × (Nat → Int32))) (x : Int32) (C N : Nat → Int32) : g_X2_carryOut_J1 dr (nI i) bk x C N = bk x (nI (i + 1)) C (upd N 6 (N 6 + bi (drv n v i))) := by
  rw [g_X2_carryOut_J1, x4_entry hi, bd_some, hdr, nI_1]
  by_cases e : drS n v i = -1
  · rw [if_pos e, bi_f (show ¬ drv n v i from fun w => w e), i_add0, upd_self]
  · rw [if_neg e, bi_t (show drv n v i from e), show g_X0_countOne N 6 = some (upd N 6 (N 6 + 1)) from x0_count (k := 6) (by decide), bd_some]
theorem x0_put' {C : Nat → Int32} {a w : Nat} {x : Int32} (h : 7 * a + w < 63) : g_X0_put C (nI a) (nI w) x = some (upd C (7 * a + w) x) := x0_put h
/-- the class's loop over the armies, one step -/
theorem x2_carryS {v : Nat → Nat → Int32} {dr re C N : Nat → Int32} {i : Nat} (hn : n ≤ 9) (hN : N 0 = nI n) (hk : C (7 * i + 2) = v i 2) (hd : dist n v) (hi : i < n) (hre : re i = wyS n v i) (hdr : dr i = drS n v i) (nf : Nat) (x : Int32) :
    g_X2_carryOut_L1 dr re (nf + 1) x (nI i) C N = g_X2_carryOut_L1 dr re nf (x + bi (Fx n v i)) (nI (i + 1)) (ctC C i (bi (goS n v i)) (bi (Fx n v i))) (ctN N (bi (goS n v i)) (bi (Fx n v i)) (bi (drv n v i))) := by
  have hc : CB n (fun a w => C (7 * a + w)) N C := ⟨hn, hN, fun _ _ _ _ => rfl⟩
  have hmv : g_X2_moves C (nI i) = some (bi (v i 2 = 1)) := by
    rw [x2_moves hc hi]
    show some (bi (C (7 * i + 2) = 1)) = _
    rw [hk]
  have hgo : g_X2_goes C re (nI i) = some (bi (goS n v i)) := by
    rw [x2_goes hc hi]
    show some (bi (C (7 * i + 2) = 1 ∧ re i = 0)) = _
    rw [hk]
    exact congrArg some (bi_c (goQ_S hn hd hre))
  have h9 : i < 9 := by omega
  have g5 : g_X0_of C (nI i) 5 = some (C (7 * i + 5)) := x0_cell (w := 5) (by omega)
  have g6 : g_X0_of C (nI i) 6 = some (C (7 * i + 6)) := x0_cell (w := 6) (by omega)
  have p5 : g_X0_put C (nI i) 5 (C (7 * i + 5) + 1) = some (upd C (7 * i + 5) (C (7 * i + 5) + 1)) := x0_put (w := 5) (by omega)
  have p6 : g_X0_put C (nI i) 6 (C (7 * i + 6) + 1) = some (upd C (7 * i + 6) (C (7 * i + 6) + 1)) := x0_put (w := 6) (by omega)
  have c5 : g_X0_countOne N 5 = some (upd N 5 (N 5 + 1)) := x0_count (k := 5) (by decide)
  have c4 : g_X0_countOne N 4 = some (upd N 4 (N 4 + 1)) := x0_count (k := 4) (by decide)
  rw [g_X2_carryOut_L1, x0_number0 hc, bd_some, go_on hn hi, hmv, bd_some]
  unfold ctC ctN
  by_cases e1 : v i 2 = 1
  · rw [bi_t e1, if_neg t10, hgo, bd_some]
    by_cases e2 : goS n v i
    · rw [bi_t e2, if_neg t10, g_X2_carryOut_J2, hgo, bd_some, bi_t e2, g_X2_countMove, if_neg t10, g_X2_countMove_J1, g5, bd_some, p5, bd_some, if_neg t10, g_X2_countMove_J2, c4, bd_some, b2_some, x2_carryJ h9 hdr, bi_f e2.2, i_add0, i_add0, i_add0]
      have a1 : upd (upd C (7 * i + 5) (C (7 * i + 5) + 1)) (7 * i + 6) (C (7 * i + 6)) = upd C (7 * i + 5) (C (7 * i + 5) + 1) := funext fun j => by
        by_cases q : j = 7 * i + 6
        · rw [q, pk_us, pk_un (by omega)]
        · rw [pk_un q]
      have a2 : upd (upd N 4 (N 4 + 1)) 5 (N 5) = upd N 4 (N 4 + 1) := funext fun j => by
        by_cases q : j = 5
        · rw [q, pk_us, pk_un (by decide)]
        · rw [pk_un q]
      rw [a1, a2, pk_un (show 6 ≠ 4 by decide)]
    · have e3 : Fx n v i := Classical.byContradiction fun w => e2 ⟨e1, w⟩
      rw [bi_f e2, if_pos rfl, g_X2_carryOut_J2, hgo, bd_some, bi_f e2, g_X2_countMove, if_pos rfl, g_X2_countMove_J1, g6, bd_some, p6, bd_some, if_pos rfl, g_X2_countMove_J2, c5, bd_some, b2_some, x2_carryJ h9 hdr, bi_t e3, i_add0, i_add0, upd_self, upd_self, pk_un (show 6 ≠ 5 by decide)]
  · have e2 : ¬ goS n v i := fun w => e1 w.1
    have e3 : ¬ Fx n v i := fun w => e1 (Fx_in w).2
    rw [bi_f e1, if_pos rfl, x2_carryJ h9 hdr, bi_f e2, bi_f e3, i_add0, i_add0, i_add0, i_add0, i_add0, upd_self, upd_self, upd_self, upd_self]
/-- the reference's loop over the armies, one step -/
theorem x5_opensS {v : Nat → Nat → Int32} {fa dr pl : Nat → Int32} {i : Nat} (hm : MB n (av s) s) (hk : av s i 2 = v i 2) (hi : i < n) (hfa : fa i = bi (Fx n v i)) (hdr : dr i = drS n v i) (nf : Nat) (x : Int32) :
    g_X5_opens_L1 fa dr pl (nf + 1) x (nI i) s = g_X5_opens_L1 fa dr pl nf (x + bi (Fx n v i)) (nI (i + 1)) (ctR s i (bi (goS n v i)) (bi (Fx n v i)) (bi (drv n v i)) (bi (pl i = -1))) := by
  have hn := hm.1
  have r9 : ∀ {α : Type} {f : Nat → Int32} {k : Int32 → Option α}, rdA f 9 (nI i) k = k (f i) := rdA_n (by omega) (by decide)
  have J2 : ∀ bk u, g_X5_opens_J2 (nI i) s (bi (Fx n v i)) dr pl x bk u = bk (x + bi (Fx n v i)) (nI (i + 1)) (ctR s i u (bi (Fx n v i)) (bi (drv n v i)) (bi (pl i = -1))) := fun bk u => by
    have J4 : ∀ f z u, g_X5_opens_J4 f z x (bi (Fx n v i)) (nI i) bk u = bk (x + bi (Fx n v i)) (nI (i + 1)) (upd f 6 (z + u)) := fun f z u => by
      rw [g_X5_opens_J4, w77_6, nI_1]
    have J3 : ∀ f z u, g_X5_opens_J3 f z pl (nI i) x (bi (Fx n v i)) bk u = bk (x + bi (Fx n v i)) (nI (i + 1)) (upd (upd f 5 (z + u)) 6 (f 6 + bi (pl i = -1))) := fun f z u => by
      rw [g_X5_opens_J3, w77_5, r77_6, r9, J4, J4, pk_un (show 6 ≠ 5 by decide)]
      by_cases e : pl i = -1
      · rw [if_pos e, bi_t e]
      · rw [if_neg e, bi_f e]
    have key : ∀ f, (if drS n v i = -1 then g_X5_opens_J3 f (f 5) pl (nI i) x (bi (Fx n v i)) bk 0 else g_X5_opens_J3 f (f 5) pl (nI i) x (bi (Fx n v i)) bk 1) = bk (x + bi (Fx n v i)) (nI (i + 1)) (upd (upd f 5 (f 5 + bi (drv n v i))) 6 (f 6 + bi (pl i = -1))) := fun f => by
      rw [J3, J3]
      by_cases e : drS n v i = -1
      · rw [if_pos e, bi_f (show ¬ drv n v i from fun w => w e)]
      · rw [if_neg e, bi_t (show drv n v i from e)]
    rw [g_X5_opens_J2, x5_at5, bd_some, r77 (14 + 7 * i + 5) (by omega), w77 (14 + 7 * i + 5) (by omega), x5_at6, bd_some, r77 (14 + 7 * i + 6) (by omega), w77 (14 + 7 * i + 6) (by omega), r77_3, w77_3, r77_4, w77_4, r77_5, r9, hdr, key]
    unfold ctR
    simp only [pk_un (show 14 + 7 * i + 6 ≠ 14 + 7 * i + 5 by omega), pk_un (show 3 ≠ 14 + 7 * i + 6 by omega), pk_un (show 3 ≠ 14 + 7 * i + 5 by omega), pk_un (show 4 ≠ 3 by decide), pk_un (show 4 ≠ 14 + 7 * i + 6 by omega), pk_un (show 4 ≠ 14 + 7 * i + 5 by omega), pk_un (show 5 ≠ 4 by decide), pk_un (show 5 ≠ 3 by decide), pk_un (show 5 ≠ 14 + 7 * i + 6 by omega), pk_un (show 5 ≠ 14 + 7 * i + 5 by omega), pk_un (show 6 ≠ 4 by decide), pk_un (show 6 ≠ 3 by decide), pk_un (show 6 ≠ 14 + 7 * i + 6 by omega), pk_un (show 6 ≠ 14 + 7 * i + 5 by omega)]
  have J1 : ∀ bk, g_X5_opens_J1 s (nI i) dr pl x bk (bi (Fx n v i)) = bk (x + bi (Fx n v i)) (nI (i + 1)) (ctR s i (bi (goS n v i)) (bi (Fx n v i)) (bi (drv n v i)) (bi (pl i = -1))) := fun bk => by
    rw [g_X5_opens_J1, x5_moves hm hi, hk, bd_some, J2, J2, ibi]
    by_cases e1 : v i 2 = 1
    · rw [if_pos e1]
      by_cases e2 : Fx n v i
      · rw [bi_t e2, bi_f (fun w : goS n v i => w.2 e2)]; rfl
      · rw [bi_f e2, bi_t (show goS n v i from ⟨e1, e2⟩)]; rfl
    · rw [if_neg e1, bi_f (fun w : goS n v i => e1 w.1)]
  rw [g_X5_opens_L1, x5_n hm, go_on hn hi, r9, hfa]
  by_cases e2 : Fx n v i
  · have := J1 (g_X5_opens_L1 fa dr pl nf)
    rw [bi_t e2] at this
    rw [bi_t e2, if_neg t10]; exact this
  · have := J1 (g_X5_opens_L1 fa dr pl nf)
    rw [bi_f e2] at this
    rw [bi_f e2, if_pos rfl]; exact this
end CA
