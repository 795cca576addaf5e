/-! p26: a change -/
def CHP (K : Nat) (z : Int32 × Int32 × Int32 × (Nat → Int32) × (Nat → Int32) × (Nat → Nat → Int32) × (Nat → Nat → Int32) × (Nat → Nat → Int32) × (Nat → Int32) × (Nat → Int32) × (Nat → Int32) × (Nat → Int32) × (Nat → Int32) × (Nat → Int32) × (Nat → Int32) × (Nat → Int32)) : Prop := z.1 = 1 ∧ JB K z.2.2.2.1 z.2.2.2.2.2.2.2.2.1 z.2.2.2.2.1 ∧ JH K z.2.1 z.2.2.1 z.2.2.2.2.2.1 z.2.2.2.2.2.2.1 z.2.2.2.2.2.2.2.1
theorem adj_sym {f t : Nat} (h : adjN f t) : adjN t f := by unfold adjN at h ⊢; omega
section CH
variable {K n : Nat} {bN bO bC s : Nat → Int32} {old sav : Int32} {hN hO hC : Nat → Nat → Int32} {a t F : Nat}
theorem x4_army (hok : okS K n s) (hE : eqB n bN bO bC s) (hy : bN 1 * 2 + bN 2 = bN 3) (hH : JH K old sav hN hO hC) (hn9 : n < 9) {q f : Nat} (hq : q < 3) (hf : f < 12) (hno : ∀ b, b < n → ¬ av s b 1 = nI f) :
    ∃ N' C' old' sav' hN' hO' hC' s', g_X4_army bN bC old sav hN hO hC bO (nI q) (nI f) = some (0, nI n, N', C', old', sav', hN', hO', hC') ∧ okS K (n + 1) s' ∧ eqB (n + 1) N' bO C' s' ∧ N' 1 * 2 + N' 2 = N' 3 ∧ JH K old' sav' hN' hO' hC' ∧ av s' n 0 = nI q ∧ av s' n 1 = nI f := by
  have hS := hok.sb hE
  obtain ⟨old', sav', hN', hO', hC', g1, g2⟩ := JH_save' hH (show JB K bN bO bC from ⟨n, s, hok, hE, hy⟩)
  obtain ⟨C', s', h1, h2, h3, h4, h5, h6, h7, _⟩ := RB_sets2 hok hE hn9 hq hf hno
  have hfi : (fi n fun c => av s c 1 = nI f) = -1 := by
    rcases on_cases hok.1 hok.d (nI f) with ⟨o, ho, eo, _⟩ | ⟨_, h⟩
    · exact absurd eo (hno o ho)
    · exact h
  refine ⟨_, C', old', sav', hN', hO', hC', s', ?_, h2, h3, ?_, g2, h6, h7⟩
  · rw [g_X4_army, isS hq, bd_some, if_neg t10, isF hf, bd_some, if_neg t10, x0_armyOn hS.cb, bd_some, hfi, if_pos rfl, x0_number0 hS.cb, bd_some, if_pos (show nI n < 9 from nI_lt (b := 9) hn9 (by decide)), g1, b5_some, h1, b3_some]
  · rw [pk_un (by decide), pk_un (by decide), pk_un (by decide)]; exact hy
theorem x4_move (hok : okS K n s) (hE : eqB n bN bO bC s) (hy : bN 1 * 2 + bN 2 = bN 3) (hH : JH K old sav hN hO hC) (ha : a < n) (hF : F < 12) (eF : av s a 1 = nI F) (ht : t < 12) (hadj : adjN F t) :
    ∃ old' sav' hN' hO' hC', g_X4_move bN bC old sav hN hO hC bO (nI a) (nI t) = some (0, av s a 2, lay3 bC (7 * a) 1 (nI t) (-1), old', sav', hN', hO', hC') ∧ JH K old' sav' hN' hO' hC' := by
  have hS := hok.sb hE
  obtain ⟨old', sav', hN', hO', hC', g1, g2⟩ := JH_save' hH (show JB K bN bO bC from ⟨n, s, hok, hE, hy⟩)
  refine ⟨old', sav', hN', hO', hC', ?_, g2⟩
  rw [g_X4_move, has1 hS.cb ha, bd_some, if_neg t10, isF ht, bd_some, if_neg t10, x0_can hS (has1 hS.cb ha) ha t10, bd_some, bi_t ⟨by rw [eF]; exact (nb_adj hF ht).mpr hadj, Or.inl rfl⟩, if_neg t10, g1, b5_some, x0_giveS hS ha, b2_some, if_neg t10, if_neg (show ¬ (1 : Int32) = 2 by decide)]
theorem x4_support (hok : okS K n s) (hE : eqB n bN bO bC s) (hy : bN 1 * 2 + bN 2 = bN 3) (hH : JH K old sav hN hO hC) (ha : a < n) (hF : F < 12) (eF : av s a 1 = nI F) (ht : t < 12) (hadj : adjN F t) {u : Nat} (hu : u < 12) (hut : u = t ∨ adjN u t) :
    ∃ old' sav' hN' hO' hC', g_X4_support bN bC old sav hN hO hC bO (nI a) (nI u) (nI t) = some (0, av s a 2, lay3 bC (7 * a) 2 (nI t) (nI u), old', sav', hN', hO', hC') ∧ JH K old' sav' hN' hO' hC' := by
  have hS := hok.sb hE
  obtain ⟨old', sav', hN', hO', hC', g1, g2⟩ := JH_save' hH (show JB K bN bO bC from ⟨n, s, hok, hE, hy⟩)
  refine ⟨old', sav', hN', hO', hC', ?_, g2⟩
  have hc : ¬ nb (av s a 1) (nI t) = 0 ∧ ((2 : Int32) = 1 ∨ nI u = nI t ∨ ¬ nb (nI u) (nI t) = 0) := ⟨by rw [eF]; exact (nb_adj hF ht).mpr hadj, Or.inr (hut.elim (fun e => Or.inl (by rw [e])) (fun e => Or.inr ((nb_adj hu ht).mpr e)))⟩
  rw [g_X4_support, has1 hS.cb ha, bd_some, if_neg t10, isF hu, bd_some, if_neg t10, isF ht, bd_some, if_neg t10, x0_can hS (has1 hS.cb ha) ha (show ¬ (2 : Int32) = 0 by decide), bd_some, bi_t hc, if_neg t10, g1, b5_some, x0_giveS hS ha, b2_some, if_neg (show ¬ (2 : Int32) = 0 by decide), if_pos rfl]
theorem x4_hold (hok : okS K n s) (hE : eqB n bN bO bC s) (hy : bN 1 * 2 + bN 2 = bN 3) (hH : JH K old sav hN hO hC) (ha : a < n) :
    ∃ old' sav' hN' hO' hC', g_X4_hold bN old sav hN hO hC bO bC (nI a) = some (0, av s a 2, old', sav', hN', hO', hC', lay3 bC (7 * a) 0 (-1) (-1)) ∧ JH K old' sav' hN' hO' hC' := by
  have hS := hok.sb hE
  obtain ⟨old', sav', hN', hO', hC', g1, g2⟩ := JH_save' hH (show JB K bN bO bC from ⟨n, s, hok, hE, hy⟩)
  refine ⟨old', sav', hN', hO', hC', ?_, g2⟩
  rw [g_X4_hold, has1 hS.cb ha, bd_some, if_neg t10, g1, b5_some, x0_giveS hS ha, b2_some, if_pos rfl, if_neg (show ¬ (0 : Int32) = 2 by decide)]
theorem x4_drop (hok : okS K n s) (hE : eqB n bN bO bC s) (hy : bN 1 * 2 + bN 2 = bN 3) (hH : JH K old sav hN hO hC) (ha : a < n) :
    ∃ N' C' old' sav' hN' hO' hC', g_X4_drop bN old sav hN hO hC bO bC (nI a) = some (0, nI (n - 1), N', old', sav', hN', hO', hC', C') ∧ JB K N' bO C' ∧ JH K old' sav' hN' hO' hC' := by
  have hS := hok.sb hE
  obtain ⟨old', sav', hN', hO', hC', g1, g2⟩ := JH_save' hH (show JB K bN bO bC from ⟨n, s, hok, hE, hy⟩)
  obtain ⟨C', s', h1, _, h2, h3, _⟩ := RB_goes hok hE ha
  refine ⟨_, C', old', sav', hN', hO', hC', ?_, ⟨n - 1, s', h2, h3, ?_⟩, g2⟩
  · have e : g_X0_number (upd bN 0 (nI (n - 1))) 0 = some (nI (n - 1)) := (x0_number (k := 0) (by decide)).trans (by rw [pk_us])
    rw [g_X4_drop, has1 hS.cb ha, bd_some, if_neg t10, g1, b5_some, h1, b2_some, e, bd_some]
  · rw [pk_un (by decide), pk_un (by decide), pk_un (by decide)]; exact hy
/-- an order that is given: the board behind it -/
theorem JB_ord (hok : okS K n s) (hE : eqB n bN bO bC s) (hy : bN 1 * 2 + bN 2 = bN 3) (ha : a < n) {k x g : Int32} (ho : okOrd s a k x g) : okS K n (lay3 s (14 + 7 * a) k x g) ∧ eqB n bN bO (lay3 bC (7 * a) k x g) (lay3 s (14 + 7 * a) k x g) ∧ JB K bN bO (lay3 bC (7 * a) k x g) ∧ av (lay3 s (14 + 7 * a) k x g) a 2 = k ∧ av (lay3 s (14 + 7 * a) k x g) a 3 = x ∧ av (lay3 s (14 + 7 * a) k x g) a 4 = g :=
  ⟨okS_lay hok ha ho, ((hok.sb hE).lay ha k x g).2.2, ⟨n, _, okS_lay hok ha ho, ((hok.sb hE).lay ha k x g).2.2, hy⟩, lay3_2, lay3_3, lay3_4⟩
theorem CHP_same (hok : okS K n s) (hE : eqB n bN bO bC s) (hy : bN 1 * 2 + bN 2 = bN 3) (hH : JH K old sav hN hO hC) (c1 c2 c3 c4 c5 c6 c7 : (Nat → Int32)) : CHP (K + 1) (1, old, sav, bN, bC, hN, hO, hC, bO, c1, c2, c3, c4, c5, c6, c7) := ⟨rfl, JB_up ⟨n, s, hok, hE, hy⟩, JH_up hH⟩
theorem CHP_of (hB : JB K bN bO bC) (hH : JH K old sav hN hO hC) (c1 c2 c3 c4 c5 c6 c7 : (Nat → Int32)) : CHP (K + 1) (1, old, sav, bN, bC, hN, hO, hC, bO, c1, c2, c3, c4, c5, c6, c7) := ⟨rfl, JB_up hB, JH_up hH⟩
theorem ch_J4 (hok : okS K n s) (hE : eqB n bN bO bC s) (hy : bN 1 * 2 + bN 2 = bN 3) (hH : JH K old sav hN hO hC) (x3 : Int32) (c1 c2 c3 c4 c5 c6 c7 : (Nat → Int32)) :
    WP (g_L_change_J4 x3 (nI n) old sav bN bC hN hO hC bO c1 c2 c3 c4 c5 c6 c7) (CHP (K + 1)) := by
  have hn := hok.1
  obtain ⟨f, hf, ef⟩ := low_n x3 (n := 12) (by decide) (by decide)
  obtain ⟨q, hq, eq⟩ := low_n (x3 >>> (4 &&& 31)) (n := 3) (by decide) (by decide)
  replace ef : g_L_low x3 12 = some (nI f) := ef
  replace eq : g_L_low (x3 >>> (4 &&& 31)) 3 = some (nI q) := eq
  rw [g_L_change_J4, ef, bd_some]
  refine wp_if (fun _ => wp_ret (CHP_same hok hE hy hH _ _ _ _ _ _ _)) (fun e9 => ?_)
  have hn9 : n < 9 := Nat.lt_of_le_of_ne hn (fun e => e9 (by rw [e]; rfl))
  rw [sp_f0 hok hE hf, b2_some, nz0_0]
  refine wp_if (fun _ => wp_ret (CHP_same hok hE hy hH _ _ _ _ _ _ _)) (fun e0 => ?_)
  have hno : ∀ b, b < n → ¬ av s b 1 = nI f := fun b hb e => e0 (by
    rcases on_cases hn hok.d (nI f) with ⟨o, ho, _, h⟩ | ⟨h, _⟩
    · rw [h]; exact nI_le (a := 0) (Nat.zero_le _) (by omega)
    · exact absurd e (h b hb))
  obtain ⟨N', C', old', sav', hN', hO', hC', s', g1, g2, g3, g4, g5, g6, g7⟩ := x4_army hok hE hy hH hn9 hq hf hno
  have hfi : (fi (n + 1) fun c => av s' c 1 = nI f) = nI n := fi_one (Nat.lt_succ_self n) g7 (fun c hc e => g2.d c n hc (Nat.lt_succ_self n) (e.trans g7.symm))
  rw [eq, bd_some, g1, b9_some, nz0_0, if_pos rfl, sp_f0 g2 g3 hf, b2_some, nz0_0, hfi, if_pos rfl, sp_a0 g2 g3 (Nat.lt_succ_self n), b2_some, nz0_0, bd_some, if_pos g6]
  exact wp_ret (CHP_same g2 g3 g4 g5 _ _ _ _ _ _ _)
theorem ch_J5 (hok : okS K n s) (hE : eqB n bN bO bC s) (hy : bN 1 * 2 + bN 2 = bN 3) (hH : JH K old sav hN hO hC) (ht : t < 12) {v7 : Int32} (hA : ¬ n = 0 → a < n ∧ v7 = av s a 2 ∧ ∃ F, F < 12 ∧ av s a 1 = nI F ∧ adjN F t) (c1 c2 c3 c4 c5 c6 c7 : (Nat → Int32)) :
    WP (g_L_change_J5 (nI n) old sav bN bC hN hO hC bO c1 c2 c3 c4 c5 c6 c7 (nI a) (nI t) v7) (CHP (K + 1)) := by
  rw [g_L_change_J5]
  refine wp_if (fun _ => wp_ret (CHP_same hok hE hy hH _ _ _ _ _ _ _)) (fun e0 => ?_)
  obtain ⟨ha, h7, F, hF, eF, hadj⟩ := hA (fun e => e0 (by rw [e]; rfl))
  obtain ⟨old', sav', hN', hO', hC', g1, g2⟩ := x4_move hok hE hy hH ha hF eF ht hadj
  obtain ⟨k1, k2, k3, k4, k5, _⟩ := JB_ord hok hE hy ha (k := 1) (x := nI t) (g := -1) (fun f hf e => Or.inr (Or.inl ⟨rfl, ⟨t, ht, rfl, by rw [(nI_eq (by omega) (by omega)).mp (e.symm.trans eF)]; exact hadj⟩, rfl⟩))
  rw [g1, b8_some, nz0_0, if_pos h7.symm, sp_a3 k1 k2 ha, b2_some, nz0_0, if_pos k5, sp_a2 k1 k2 ha, b2_some, nz0_0, if_pos k4]
  exact wp_ret (CHP_of k3 g2 _ _ _ _ _ _ _)
theorem ch_J7 (hok : okS K n s) (hE : eqB n bN bO bC s) (hy : bN 1 * 2 + bN 2 = bN 3) (hH : JH K old sav hN hO hC) (ht : t < 12) {v7 : Int32} (hA : ¬ n = 0 → a < n ∧ v7 = av s a 2 ∧ ∃ F, F < 12 ∧ av s a 1 = nI F ∧ adjN F t) {u : Nat} (hu : u < 12) (hut : u = t ∨ adjN u t) (c1 c2 c3 c4 c5 c6 c7 : (Nat → Int32)) :
    WP (g_L_change_J7 (nI n) old sav bN bC hN hO hC bO c1 c2 c3 c4 c5 c6 c7 (nI a) (nI t) v7 (nI u)) (CHP (K + 1)) := by
  rw [g_L_change_J7]
  refine wp_if (fun _ => wp_ret (CHP_same hok hE hy hH _ _ _ _ _ _ _)) (fun e0 => ?_)
  obtain ⟨ha, h7, F, hF, eF, hadj⟩ := hA (fun e => e0 (by rw [e]; rfl))
  obtain ⟨old', sav', hN', hO', hC', g1, g2⟩ := x4_support hok hE hy hH ha hF eF ht hadj hu hut
  obtain ⟨k1, k2, k3, k4, _, k6⟩ := JB_ord hok hE hy ha (k := 2) (x := nI t) (g := nI u) (fun f hf e => Or.inr (Or.inr ⟨rfl, ⟨t, ht, rfl, by rw [(nI_eq (by omega) (by omega)).mp (e.symm.trans eF)]; exact hadj⟩, ⟨u, hu, rfl⟩⟩))
  rw [g1, b8_some, nz0_0, if_pos h7.symm, sp_a4 k1 k2 ha, b2_some, nz0_0, if_pos k6, sp_a2 k1 k2 ha, b2_some, nz0_0, if_pos k4]
  exact wp_ret (CHP_of k3 g2 _ _ _ _ _ _ _)
theorem ch_J6 (hok : okS K n s) (hE : eqB n bN bO bC s) (hy : bN 1 * 2 + bN 2 = bN 3) (hH : JH K old sav hN hO hC) (ht : t < 12) {v7 : Int32} (hA : ¬ n = 0 → a < n ∧ v7 = av s a 2 ∧ ∃ F, F < 12 ∧ av s a 1 = nI F ∧ adjN F t) (x3 : Int32) (c1 c2 c3 c4 c5 c6 c7 : (Nat → Int32)) :
    WP (g_L_change_J6 x3 (nI n) old sav bN bC hN hO hC bO c1 c2 c3 c4 c5 c6 c7 (nI a) (nI t) v7) (CHP (K + 1)) := by
  rw [g_L_change_J6]
  refine wp_if (fun _ => ch_J7 hok hE hy hH ht hA ht (Or.inl rfl) _ _ _ _ _ _ _) (fun _ => ?_)
  obtain ⟨u, hu, hadj, eu⟩ := beside_n (x3 >>> (8 &&& 31)) ht
  rw [eu, bd_some]
  exact ch_J7 hok hE hy hH ht hA hu (Or.inr (adj_sym hadj)) _ _ _ _ _ _ _
theorem ch_J3 (hok : okS K n s) (hE : eqB n bN bO bC s) (hy : bN 1 * 2 + bN 2 = bN 3) (hH : JH K old sav hN hO hC) (hF : F < 12) {v7 : Int32} (hA : ¬ n = 0 → a < n ∧ v7 = av s a 2 ∧ av s a 1 = nI F) (x3 x2 : Int32) (c1 c2 c3 c4 c5 c6 c7 : (Nat → Int32)) :
    WP (g_L_change_J3 x3 x2 (nI n) old sav bN bC hN hO hC bO c1 c2 c3 c4 c5 c6 c7 (nI a) v7 (nI F)) (CHP (K + 1)) := by
  obtain ⟨t, ht, hadj, et⟩ := beside_n (x3 >>> (4 &&& 31)) hF
  obtain ⟨j, hj, ej⟩ := low_n x2 (n := 14) (by decide) (by decide)
  replace ej : g_L_low x2 14 = some (nI j) := ej
  have hA' : ¬ n = 0 → a < n ∧ v7 = av s a 2 ∧ ∃ F, F < 12 ∧ av s a 1 = nI F ∧ adjN F t := fun h => ⟨(hA h).1, (hA h).2.1, F, hF, (hA h).2.2, hadj⟩
  rw [g_L_change_J3, et, bd_some, ej, bd_some]
  refine wp_if (fun _ => ch_J4 hok hE hy hH _ _ _ _ _ _ _ _) (fun _ => ?_)
  refine wp_if (fun _ => ch_J4 hok hE hy hH _ _ _ _ _ _ _ _) (fun _ => ?_)
  refine wp_if (fun _ => ch_J4 hok hE hy hH _ _ _ _ _ _ _ _) (fun _ => ?_)
  refine wp_if (fun _ => ch_J5 hok hE hy hH ht hA' _ _ _ _ _ _ _) (fun _ => ?_)
  refine wp_if (fun _ => ch_J5 hok hE hy hH ht hA' _ _ _ _ _ _ _) (fun _ => ?_)
  refine wp_if (fun _ => ch_J5 hok hE hy hH ht hA' _ _ _ _ _ _ _) (fun _ => ?_)
  refine wp_if (fun _ => ch_J5 hok hE hy hH ht hA' _ _ _ _ _ _ _) (fun _ => ?_)
  refine wp_if (fun _ => ch_J6 hok hE hy hH ht hA' _ _ _ _ _ _ _ _) (fun _ => ?_)
  refine wp_if (fun _ => ch_J6 hok hE hy hH ht hA' _ _ _ _ _ _ _ _) (fun _ => ?_)
  refine wp_if (fun _ => ch_J6 hok hE hy hH ht hA' _ _ _ _ _ _ _ _) (fun _ => ?_)
  refine wp_if (fun _ => ?_) (fun _ => ?_)
  · refine wp_if (fun _ => wp_ret (CHP_same hok hE hy hH _ _ _ _ _ _ _)) (fun e0 => ?_)
    obtain ⟨ha, h7, _⟩ := hA (fun e => e0 (by rw [e]; rfl))
    obtain ⟨old', sav', hN', hO', hC', g1, g2⟩ := x4_hold hok hE hy hH ha
    obtain ⟨k1, k2, k3, _, k5, _⟩ := JB_ord hok hE hy ha (k := 0) (x := -1) (g := -1) (fun f hf e => Or.inl ⟨rfl, rfl, rfl⟩)
    rw [g1, b8_some, nz0_0, if_pos h7.symm, sp_a3 k1 k2 ha, b2_some, nz0_0, if_pos k5]
    exact wp_ret (CHP_of k3 g2 _ _ _ _ _ _ _)
  refine wp_if (fun _ => ?_) (fun _ => ?_)
  · refine wp_if (fun _ => wp_ret (CHP_same hok hE hy hH _ _ _ _ _ _ _)) (fun e0 => ?_)
    obtain ⟨ha, h7, _⟩ := hA (fun e => e0 (by rw [e]; rfl))
    refine wp_if (fun _ => ?_) (fun _ => wp_ret (CHP_same hok hE hy hH _ _ _ _ _ _ _))
    obtain ⟨N', C', old', sav', hN', hO', hC', g1, g2, g3⟩ := x4_drop hok hE hy hH ha
    rw [g1, b9_some, nz0_0, if_pos (show nI (n - 1) = nI n - 1 from (pk_pred (by omega)).symm)]
    exact wp_ret (CHP_of g2 g3 _ _ _ _ _ _ _)
  · refine wp_b16 (wp_opens hok hE hy hH _ _ _ _ _ _ _) (fun z1 z2 z3 z4 z5 z6 z7 z8 z9 z10 z11 z12 z13 z14 z15 z16 h => wp_ret ?_)
    exact h
theorem wp_change (hok : okS K n s) (hE : eqB n bN bO bC s) (hy : bN 1 * 2 + bN 2 = bN 3) (hH : JH K old sav hN hO hC) (x2 x3 : Int32) (c1 c2 c3 c4 c5 c6 c7 : (Nat → Int32)) :
    WP (g_L_change old sav bN bC hN hO hC bO c1 c2 c3 c4 c5 c6 c7 x2 x3) (CHP (K + 1)) := by
  have hn := hok.1
  rw [g_L_change, sp_c0, b2_some, nz0_0, hok.n0 hE]
  by_cases e : n = 0
  · have e0 : nI n = 0 := by rw [e]; rfl
    obtain ⟨j, hj, ej⟩ := low_n x3 (n := 1) (by decide) (by decide)
    replace ej : g_L_low x3 1 = some (nI j) := ej
    rw [if_pos e0, g_L_change_J1, ej, bd_some, if_pos e0, g_L_change_J2, if_pos e0]
    exact ch_J3 (F := 0) hok hE hy hH (by decide) (fun h => absurd e h) _ _ _ _ _ _ _ _ _
  · have e0 : ¬ nI n = 0 := nI_ne0 (by omega) (by omega)
    obtain ⟨j, hj, ej⟩ := low_n x3 (n := n) (by omega) (by omega)
    obtain ⟨F, hF, eF⟩ := hok.hF j hj
    rw [if_neg e0, g_L_change_J1, ej, bd_some, if_neg e0, sp_a2 hok hE hj, b2_some, nz0_0, g_L_change_J2, if_neg e0, sp_a1 hok hE hj, b2_some, nz0_0, eF]
    exact ch_J3 hok hE hy hH hF (fun _ => ⟨hj, rfl, eF⟩) _ _ _ _ _ _ _ _ _
end CH
