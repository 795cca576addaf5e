/-! the digest -/
theorem spec_c {n : Nat} {v v' : Nat → Nat → Int32} (hn : n ≤ 9) (hd : dist n v) (h : ∀ a w, a < n → w < 7 → v a w = v' a w) : ∀ a, a < n → pfS n v a = pfS n v' a := by
  have c1 : CB n v (fun _ => nI n) (fun k => v (k / 7) (k % 7)) := ⟨hn, rfl, fun a w ha hw => by
    show v ((7 * a + w) / 7) ((7 * a + w) % 7) = v a w
    rw [show (7 * a + w) / 7 = a by omega, show (7 * a + w) % 7 = w by omega]⟩
  have c2 : CB n v' (fun _ => nI n) (fun k => v (k / 7) (k % 7)) := ⟨hn, rfl, fun a w ha hw => (c1.2.2 a w ha hw).trans (h a w ha hw)⟩
  have hd' : dist n v' := fun a b ha hb e => hd a b ha hb (by rw [h a 1 ha (by decide), h b 1 hb (by decide)]; exact e)
  obtain ⟨cu, co, st, re, dr, wa, sd, e1, f1⟩ := x2_study c1 hd (fun _ => 0) (fun _ => 0) (fun _ => 0) (fun _ => 0) (fun _ => 0) (fun _ => 0) (fun _ => 0)
  obtain ⟨cu', co', st', re', dr', wa', sd', e2, f2⟩ := x2_study c2 hd' (fun _ => 0) (fun _ => 0) (fun _ => 0) (fun _ => 0) (fun _ => 0) (fun _ => 0) (fun _ => 0)
  have e := e1.symm.trans e2
  simp only [Option.some.injEq, Prod.mk.injEq] at e
  obtain ⟨_, _, _, _, _, _, rfl⟩ := e
  exact fun a ha => by rw [← (f1 a ha).2.2.2.2.2, (f2 a ha).2.2.2.2.2]
section DG
variable {K n : Nat} {bN bO bC s u : Nat → Int32}
theorem okS_c (h : okS K n s) (hs : ∀ j, j < 77 → u j = s j) : okS K n u := by
  have hn := h.1
  have hav : ∀ a w, a < n → w < 7 → av u a w = av s a w := fun a w ha hw => hs _ (by omega)
  obtain ⟨h1, h2, h3, ⟨a, b, ha, hb, e3, e4⟩, h5, h6, h7⟩ := h
  exact ⟨h1, by rw [hs 9 (by decide)]; exact h2, by rw [hs 1 (by decide)]; exact h3, ⟨a, b, ha, hb, by rw [hs 3 (by decide)]; exact e3, by rw [hs 4 (by decide)]; exact e4⟩, fun k hk => by rw [hs _ (by omega)]; exact h5 k hk, fun a ha => okA_c (fun w hw => hav a w ha (by omega)) (h6 a ha), fun a b ha hb e => h7 a b ha hb (by rw [← hav a 1 ha (by decide), ← hav b 1 hb (by decide)]; exact e)⟩
theorem MB_c (h : okS K n s) (hs : ∀ j, j < 77 → u j = s j) : MB n (av s) u := by
  have hn := h.1
  exact ⟨hn, by rw [hs 9 (by decide)]; exact h.2.1, fun a w ha hw => hs _ (by omega)⟩
theorem SB_s (h : SB n bN bO bC s) (hs : ∀ j, j < 77 → u j = s j) : SB n bN bO bC u := SB_c h (fun _ _ => rfl) (fun _ _ => rfl) (fun _ _ => rfl) hs
/-- what is counted -/
theorem dg_counts {m : Nat} (hok : okS K n s) (hE : eqB n bN bO bC s) : ∃ h, g_X4_digest_L1 (nI m) bN bC FU 3701 0 = some h ∧ g_X5_digest_L1 (nI m) s FU 0 3701 = some h := by
  obtain ⟨b, c, h1, h2, h3⟩ := lq2F (fun nf i x => g_X4_digest_L1 (nI m) bN bC nf x (nI i)) (fun nf i y => g_X5_digest_L1 (nI m) s nf (nI i) y) 13 (fun _ x y => x = y) (fun x y => x = y) (by decide) 3701 3701 rfl
    (fun nf nf' i x y hi hI => by
      subst hI
      obtain ⟨r, r1, r2⟩ := x_count (m := m) hok hE hi
      refine ⟨31 * x + r.toInt64, 31 * x + r.toInt64, rfl, ?_, ?_⟩
      · rw [g_X4_digest_L1, past (M := 13) 13 rfl hi (by decide), r1, bd_some, g_X4_mixed, bd_some, nI_1]
      · rw [g_X5_digest_L1, past (M := 13) 13 rfl hi (by decide), r2, bd_some, g_X5_digestOne, bd_some, nI_1])
    (fun nf nf' x y hI => ⟨x, y, by rw [g_X4_digest_L1, pastE (M := 13) 13 rfl (Nat.le_refl _) (by decide)], by rw [g_X5_digest_L1, pastE (M := 13) 13 rfl (Nat.le_refl _) (by decide)], hI⟩)
  subst h3
  exact ⟨b, h1, h2⟩
theorem dg_nums {v : Nat → Nat → Int32} {a : Nat} (hc : CB n v bN bC) (hm : MB n v u) (ha : a < n) (h0 : Int64) : ∃ h, g_X4_mixedArmies_L2 bC (nI a) FU h0 0 = some h ∧ g_X5_digestArmies_L2 u (nI a) FU 0 h0 = some h := by
  obtain ⟨b, c, h1, h2, h3⟩ := lq2F (fun nf i x => g_X4_mixedArmies_L2 bC (nI a) nf x (nI i)) (fun nf i y => g_X5_digestArmies_L2 u (nI a) nf (nI i) y) 7 (fun _ x y => x = y) (fun x y => x = y) (by decide) h0 h0 rfl
    (fun nf nf' i x y hi hI => by
      subst hI
      refine ⟨31 * x + (v a i).toInt64, 31 * x + (v a i).toInt64, rfl, ?_, ?_⟩
      · rw [g_X4_mixedArmies_L2, past (M := 7) 7 rfl hi (by decide), x0_of hc ha hi, bd_some, g_X4_mixed, bd_some, nI_1]
      · rw [g_X5_digestArmies_L2, past (M := 7) 7 rfl hi (by decide), x5_of hm ha hi, bd_some, g_X5_digestOne, bd_some, nI_1])
    (fun nf nf' x y hI => ⟨x, y, by rw [g_X4_mixedArmies_L2, pastE (M := 7) 7 rfl (Nat.le_refl _) (by decide)], by rw [g_X5_digestArmies_L2, pastE (M := 7) 7 rfl (Nat.le_refl _) (by decide)], hI⟩)
  subst h3
  exact ⟨b, h1, h2⟩
theorem dg_outs {v : Nat → Nat → Int32} {cu co st re dr sd : Nat → Int32} {a : Nat} (hm : MB n v u) (hd : dist n v) (ha : a < n) (hall : ∀ a, a < n → cu a = bi (cutQ n v a) ∧ co a = bi (cntQ n v a) ∧ st a = nI (stN n v a) ∧ re a = wyS n v a ∧ dr a = drS n v a ∧ sd a = pfS n v a) (h0 : Int64) (q1 q2 q3 q4 q5 q6 q7 q8 : Nat → Int32) :
    ∃ h y1 y2 y3 y4 y5 y6 y7 y8, g_X4_mixedArmies_L3 sd st re dr co cu (nI a) FU h0 0 = some h ∧ g_X5_digestArmies_L3 u (nI a) FU 0 q1 h0 q2 q3 q4 q5 q6 q7 q8 = some (y1, h, y2, y3, y4, y5, y6, y7, y8) := by
  have hn := hm.1
  obtain ⟨b, c, h1, h2, h3⟩ := lq2F (fun nf i x => g_X4_mixedArmies_L3 sd st re dr co cu (nI a) nf x (nI i)) (fun nf i (y : (Nat → Int32) × Int64 × (Nat → Int32) × (Nat → Int32) × (Nat → Int32) × (Nat → Int32) × (Nat → Int32) × (Nat → Int32) × (Nat → Int32)) => g_X5_digestArmies_L3 u (nI a) nf (nI i) y.1 y.2.1 y.2.2.1 y.2.2.2.1 y.2.2.2.2.1 y.2.2.2.2.2.1 y.2.2.2.2.2.2.1 y.2.2.2.2.2.2.2.1 y.2.2.2.2.2.2.2.2) 6 (fun _ x y => x = y.2.1) (fun x y => x = y.2.1) (by decide) h0 (q1, h0, q2, q3, q4, q5, q6, q7, q8) rfl
    (fun nf nf' i x y hi hI => by
      obtain ⟨q1, h, q2, q3, q4, q5, q6, q7, q8⟩ := y
      replace hI : x = h := hI
      subst hI
      obtain ⟨cu2, co2, st2, fa, dr2, wy, dn, pl, g⟩ := x5_opened hm hd ha hi q4 q1 q7 q3 q2 q8 q5 q6
      refine ⟨31 * x + (outS n v a i).toInt64, (co2, 31 * x + (outS n v a i).toInt64, dr2, fa, cu2, dn, pl, st2, wy), rfl, ?_, ?_⟩
      · rw [g_X4_mixedArmies_L3, past (M := 6) 6 rfl hi (by decide), x2_outc hn ha hi hall, bd_some, g_X4_mixed, bd_some, nI_1]
      · show g_X5_digestArmies_L3 u (nI a) (nf' + 1) (nI i) q1 x q2 q3 q4 q5 q6 q7 q8 = g_X5_digestArmies_L3 u (nI a) nf' (nI (i + 1)) co2 (31 * x + (outS n v a i).toInt64) dr2 fa cu2 dn pl st2 wy
        rw [g_X5_digestArmies_L3, past (M := 6) 6 rfl hi (by decide), g, b9_some, g_X5_digestOne, bd_some, nI_1])
    (fun nf nf' x y hI => ⟨x, y, by rw [g_X4_mixedArmies_L3, pastE (M := 6) 6 rfl (Nat.le_refl _) (by decide)], by rw [g_X5_digestArmies_L3, pastE (M := 6) 6 rfl (Nat.le_refl _) (by decide)], hI⟩)
  obtain ⟨y1, h, y2, y3, y4, y5, y6, y7, y8⟩ := c
  replace h3 : b = h := h3
  subst h3
  exact ⟨b, y1, y2, y3, y4, y5, y6, y7, y8, h1, h2⟩
set_option maxHeartbeats 2000000 in
theorem dg_armies (hok : okS K n s) (hE : eqB n bN bO bC s) {cu co st re dr sd : Nat → Int32} (hall : ∀ a, a < n → cu a = bi (cutQ n (av s) a) ∧ co a = bi (cntQ n (av s) a) ∧ st a = nI (stN n (av s) a) ∧ re a = wyS n (av s) a ∧ dr a = drS n (av s) a ∧ sd a = pfS n (av s) a) (h0 : Int64) (tN tO tC e1 e2 e3 e4 as ycu yco yst yfa ydr ywy ydn ypl : Nat → Int32) :
    ∃ h x1 x2 x3 x4 x5 x6 x7 u y1 y2 y3 y4 y5 y6 y7 y8 y9, g_X4_mixedArmies bN bC sd st re dr co cu tN bO tO tC e1 e2 e3 e4 h0 = some (h, x1, x2, x3, x4, x5, x6, x7) ∧ g_X5_digestArmies h0 s ycu yco yst yfa ydr ywy ydn ypl as = some (h, u, y1, y2, y3, y4, y5, y6, y7, y8, y9) ∧ ∀ j, j < 77 → u j = s j := by
  have hS := hok.sb hE
  have hn := hok.1
  obtain ⟨b, c, h1, h2, h3⟩ := lq2F (fun nf i (x : Int64 × (Nat → Int32) × (Nat → Int32) × (Nat → Int32) × (Nat → Int32) × (Nat → Int32) × (Nat → Int32) × (Nat → Int32)) => g_X4_mixedArmies_L1 bN bC sd st re dr co cu bO nf x.1 (nI i) x.2.1 x.2.2.1 x.2.2.2.1 x.2.2.2.2.1 x.2.2.2.2.2.1 x.2.2.2.2.2.2.1 x.2.2.2.2.2.2.2)
    (fun nf i (y : (Nat → Int32) × (Nat → Int32) × Int64 × (Nat → Int32) × (Nat → Int32) × (Nat → Int32) × (Nat → Int32) × (Nat → Int32) × (Nat → Int32) × (Nat → Int32) × (Nat → Int32)) => g_X5_digestArmies_L1 nf (nI i) y.1 y.2.1 y.2.2.1 y.2.2.2.1 y.2.2.2.2.1 y.2.2.2.2.2.1 y.2.2.2.2.2.2.1 y.2.2.2.2.2.2.2.1 y.2.2.2.2.2.2.2.2.1 y.2.2.2.2.2.2.2.2.2.1 y.2.2.2.2.2.2.2.2.2.2) n
    (fun _ x y => x.1 = y.2.2.1 ∧ ∀ j, j < 77 → y.2.2.2.2.2.2.2.2.1 j = s j) (fun x y => x.1 = y.2.2.1 ∧ ∀ j, j < 77 → y.2.2.2.2.2.2.2.2.1 j = s j) (by omega)
    (h0, tC, tN, tO, e2, e1, e4, e3) (as, yco, h0, ydr, yfa, ycu, ydn, ypl, s, yst, ywy) ⟨rfl, fun _ _ => rfl⟩
    (fun nf nf' i x y hi hI => by
      obtain ⟨h, tC, tN, tO, z2, z1, z4, z3⟩ := x
      obtain ⟨as, yco, h', ydr, yfa, ycu, ydn, ypl, u, yst, ywy⟩ := y
      obtain ⟨e0, hu⟩ := hI
      replace e0 : h = h' := e0
      subst e0
      replace hu : ∀ j, j < 77 → u j = s j := hu
      have hm := MB_c hok hu
      have hU := SB_s hS hu
      have hoku := okS_c hok hu
      obtain ⟨k1, a1, a2⟩ := dg_nums hS.cb hm hi h
      obtain ⟨k2, w1, w2, w3, w4, w5, w6, w7, w8, a3, a4⟩ := dg_outs hm hok.d hi hall k1 yco ydr yfa ycu ydn ypl yst ywy
      obtain ⟨r, x1, x2, x3, x4, x5, x6, x7, s', y1, y2, y3, y4, y5, y6, y7, y8, y9, a5, a6, a7⟩ := x_reachMask (tN := tN) (tO := tO) (tC := tC) hU hoku.d hi z1 z2 z3 z4 as w4 w1 w7 w3 w2 w8 w5 w6
      refine ⟨(31 * k2 + r.toInt64, x3, x1, x2, x5, x4, x7, x6), (y1, y3, 31 * k2 + r.toInt64, y6, y5, y2, y8, y9, s', y4, y7), ⟨rfl, fun j hj => (a7 j hj).trans (hu j hj)⟩, ?_, ?_⟩
      · show g_X4_mixedArmies_L1 bN bC sd st re dr co cu bO (nf + 1) h (nI i) tC tN tO z2 z1 z4 z3 = g_X4_mixedArmies_L1 bN bC sd st re dr co cu bO nf (31 * k2 + r.toInt64) (nI (i + 1)) x3 x1 x2 x5 x4 x7 x6
        rw [g_X4_mixedArmies_L1, x0_number0 hS.cb, bd_some, go_on hn hi, a1, bd_some, a3, bd_some, a5, b8_some, g_X4_mixed, bd_some, nI_1]
      · show g_X5_digestArmies_L1 (nf' + 1) (nI i) as yco h ydr yfa ycu ydn ypl u yst ywy = g_X5_digestArmies_L1 nf' (nI (i + 1)) y1 y3 (31 * k2 + r.toInt64) y6 y5 y2 y8 y9 s' y4 y7
        rw [g_X5_digestArmies_L1, r77_9, hm.2.1, go_on hn hi, a2, bd_some, a4, b9_some, a6, b11_some, g_X5_digestOne, bd_some, nI_1])
    (fun nf nf' x y hI => by
      refine ⟨x, y, ?_, ?_, hI⟩
      · show g_X4_mixedArmies_L1 bN bC sd st re dr co cu bO (nf + 1) x.1 (nI n) x.2.1 x.2.2.1 x.2.2.2.1 x.2.2.2.2.1 x.2.2.2.2.2.1 x.2.2.2.2.2.2.1 x.2.2.2.2.2.2.2 = _
        rw [g_X4_mixedArmies_L1, x0_number0 hS.cb, bd_some, go_out hn]
      · show g_X5_digestArmies_L1 (nf' + 1) (nI n) y.1 y.2.1 y.2.2.1 y.2.2.2.1 y.2.2.2.2.1 y.2.2.2.2.2.1 y.2.2.2.2.2.2.1 y.2.2.2.2.2.2.2.1 y.2.2.2.2.2.2.2.2.1 y.2.2.2.2.2.2.2.2.2.1 y.2.2.2.2.2.2.2.2.2.2 = _
        rw [g_X5_digestArmies_L1, r77_9, (MB_c hok hI.2).2.1, go_out hn])
  obtain ⟨h, x1, x2, x3, x4, x5, x6, x7⟩ := b
  obtain ⟨y1, y2, h', y3, y4, y5, y6, y7, u, y8, y9⟩ := c
  obtain ⟨e0, hu⟩ := h3
  replace e0 : h = h' := e0
  subst e0
  refine ⟨h, x2, x3, x1, x5, x4, x7, x6, u, y5, y2, y8, y4, y3, y9, y6, y7, y1, ?_, ?_, hu⟩
  · rw [g_X4_mixedArmies, show g_X4_mixedArmies_L1 bN bC sd st re dr co cu bO FU h0 0 tC tN tO e2 e1 e4 e3 = some (h, x1, x2, x3, x4, x5, x6, x7) from h1, b8_some]
  · rw [g_X5_digestArmies, show g_X5_digestArmies_L1 FU 0 as yco h0 ydr yfa ycu ydn ypl s yst ywy = some (y1, y2, h, y3, y4, y5, y6, y7, u, y8, y9) from h2, b11_some]
/-- fields -/
noncomputable def dfv (u : Nat → Int32) (k : Nat) : Int32 := (g_X5_toldOfField u (nI (k / 5)) (nI (k % 5))).getD 0
noncomputable def dfh (u : Nat → Int32) (h0 : Int64) : Nat → Int64
  | 0 => h0
  | k + 1 => 31 * dfh u h0 k + (dfv u k).toInt64
theorem dfv_ok (hok : okS K n u) (hE : eqB n bN bO bC u) {f j : Nat} (hf : f < 12) (hj : j < 5) : g_X4_fieldNumber bN bC bO (nI f) (nI j) = some (dfv u (5 * f + j)) ∧ g_X5_toldOfField u (nI f) (nI j) = some (dfv u (5 * f + j)) := by
  obtain ⟨r, r1, r2⟩ := x_field hok hE hf hj
  have e : dfv u (5 * f + j) = r := by
    unfold dfv
    rw [show (5 * f + j) / 5 = f by omega, show (5 * f + j) % 5 = j by omega, r2]; rfl
  rw [e]; exact ⟨r1, r2⟩
theorem dg_fields (hok : okS K n u) (hE : eqB n bN bO bC u) (h0 : Int64) : ∃ h, g_X4_mixedFields bN bC bO h0 = some h ∧ g_X5_digest_L2 u FU 0 h0 = some h := by
  refine ⟨dfh u h0 60, ?_, ?_⟩
  · rw [g_X4_mixedFields, bd_id]
    refine lpV (fun nf i x => g_X4_mixedFields_L1 bN bC bO nf x (nI i)) 12 (fun f => dfh u h0 (5 * f)) (by decide) (fun nf f hf => ?_) (fun nf => ?_)
    · have inner : g_X4_mixedFields_L2 bN bC bO (nI f) FU (dfh u h0 (5 * f)) 0 = some (dfh u h0 (5 * f + 5)) := by
        refine lpV (fun nf i x => g_X4_mixedFields_L2 bN bC bO (nI f) nf x (nI i)) 5 (fun j => dfh u h0 (5 * f + j)) (by decide) (fun nf j hj => ?_) (fun nf => ?_)
        · show g_X4_mixedFields_L2 bN bC bO (nI f) (nf + 1) (dfh u h0 (5 * f + j)) (nI j) = g_X4_mixedFields_L2 bN bC bO (nI f) nf (31 * dfh u h0 (5 * f + j) + (dfv u (5 * f + j)).toInt64) (nI (j + 1))
          rw [g_X4_mixedFields_L2, past (M := 5) 5 rfl hj (by decide), (dfv_ok hok hE hf hj).1, bd_some, g_X4_mixed, bd_some, nI_1]
        · show g_X4_mixedFields_L2 bN bC bO (nI f) (nf + 1) (dfh u h0 (5 * f + 5)) (nI 5) = _
          rw [g_X4_mixedFields_L2, pastE (M := 5) 5 rfl (Nat.le_refl _) (by decide)]
      show g_X4_mixedFields_L1 bN bC bO (nf + 1) (dfh u h0 (5 * f)) (nI f) = g_X4_mixedFields_L1 bN bC bO nf (dfh u h0 (5 * (f + 1))) (nI (f + 1))
      rw [g_X4_mixedFields_L1, past (M := 12) 12 rfl hf (by decide), inner, bd_some, nI_1, show 5 * (f + 1) = 5 * f + 5 by omega]
    · show g_X4_mixedFields_L1 bN bC bO (nf + 1) (dfh u h0 60) (nI 12) = _
      rw [g_X4_mixedFields_L1, pastE (M := 12) 12 rfl (Nat.le_refl _) (by decide)]
  · refine lpV (fun nf i x => g_X5_digest_L2 u nf (nI i) x) 60 (dfh u h0) (by decide) (fun nf k hk => ?_) (fun nf => ?_)
    · have e5 : nI k / 5 = nI (k / 5) := pk_div (d := 5) (by omega) (by decide) (by decide)
      have r5 : nI k - nI k / 5 * 5 = nI (k % 5) := pk_rem (d := 5) (by omega) (by decide) (by decide)
      have hv := (dfv_ok hok hE (show k / 5 < 12 by omega) (show k % 5 < 5 by omega)).2
      rw [show 5 * (k / 5) + k % 5 = k by omega] at hv
      show g_X5_digest_L2 u (nf + 1) (nI k) (dfh u h0 k) = g_X5_digest_L2 u nf (nI (k + 1)) (31 * dfh u h0 k + (dfv u k).toInt64)
      rw [g_X5_digest_L2, past (M := 60) 60 rfl hk (by decide), r5, e5, hv, bd_some, g_X5_digestOne, bd_some, nI_1]
    · rw [g_X5_digest_L2, pastE (M := 60) 60 rfl (Nat.le_refl _) (by decide)]
theorem dg_seat {q : Nat} (hok : okS K n u) (hE : eqB n bN bO bC u) (hq : q < 3) (h0 : Int64) : ∃ h, g_X4_mixedSeats_L2 bN bC bO (nI q) FU h0 0 = some h ∧ g_X5_digest_L4 u (nI q) FU 0 h0 = some h := by
  obtain ⟨b, c, h1, h2, h3⟩ := lq2F (fun nf i x => g_X4_mixedSeats_L2 bN bC bO (nI q) nf x (nI i)) (fun nf i y => g_X5_digest_L4 u (nI q) nf (nI i) y) 5 (fun _ x y => x = y) (fun x y => x = y) (by decide) h0 h0 rfl
    (fun nf nf' i x y hi hI => by
      subst hI
      obtain ⟨r, r1, r2⟩ := x_seat hok hE hq hi
      refine ⟨31 * x + r.toInt64, 31 * x + r.toInt64, rfl, ?_, ?_⟩
      · rw [g_X4_mixedSeats_L2, past (M := 5) 5 rfl hi (by decide), r1, bd_some, g_X4_mixed, bd_some, nI_1]
      · rw [g_X5_digest_L4, past (M := 5) 5 rfl hi (by decide), r2, bd_some, g_X5_digestOne, bd_some, nI_1])
    (fun nf nf' x y hI => ⟨x, y, by rw [g_X4_mixedSeats_L2, pastE (M := 5) 5 rfl (Nat.le_refl _) (by decide)], by rw [g_X5_digest_L4, pastE (M := 5) 5 rfl (Nat.le_refl _) (by decide)], hI⟩)
  subst h3
  exact ⟨b, h1, h2⟩
set_option maxHeartbeats 2000000 in
theorem dg_seats (hok : okS K n s) (hE : eqB n bN bO bC s) (hu : ∀ j, j < 77 → u j = s j) {sd : Nat → Int32} (hsd : ∀ a, a < n → sd a = pfS n (av s) a) (h0 : Int64) (as ycu yco yst yfa ydr ywy ydn ypl : Nat → Int32) :
    ∃ h y1 y2 y3 y4 y5 y6 y7 u' y9 y10, g_X4_mixedSeats bN bC bO sd h0 = some h ∧ g_X5_digest_L3 FU 0 as yco h0 ydr yfa ycu ydn ypl u yst ywy = some (y1, y2, h, y3, y4, y5, y6, y7, u', y9, y10) ∧ ∀ j, j < 77 → u' j = s j := by
  have hS := hok.sb hE
  have hn := hok.1
  obtain ⟨b, c, h1, h2, h3⟩ := lq2F (fun nf i (x : Int64) => g_X4_mixedSeats_L1 bN bC bO sd nf x (nI i))
    (fun nf i (y : (Nat → Int32) × (Nat → Int32) × Int64 × (Nat → Int32) × (Nat → Int32) × (Nat → Int32) × (Nat → Int32) × (Nat → Int32) × (Nat → Int32) × (Nat → Int32) × (Nat → Int32)) => g_X5_digest_L3 nf (nI i) y.1 y.2.1 y.2.2.1 y.2.2.2.1 y.2.2.2.2.1 y.2.2.2.2.2.1 y.2.2.2.2.2.2.1 y.2.2.2.2.2.2.2.1 y.2.2.2.2.2.2.2.2.1 y.2.2.2.2.2.2.2.2.2.1 y.2.2.2.2.2.2.2.2.2.2) 3
    (fun _ x y => x = y.2.2.1 ∧ ∀ j, j < 77 → y.2.2.2.2.2.2.2.2.1 j = s j) (fun x y => x = y.2.2.1 ∧ ∀ j, j < 77 → y.2.2.2.2.2.2.2.2.1 j = s j) (by decide)
    h0 (as, yco, h0, ydr, yfa, ycu, ydn, ypl, u, yst, ywy) ⟨rfl, hu⟩
    (fun nf nf' i x y hi hI => by
      obtain ⟨as, yco, h', ydr, yfa, ycu, ydn, ypl, w, yst, ywy⟩ := y
      obtain ⟨e0, hw⟩ := hI
      replace e0 : x = h' := e0
      subst e0
      replace hw : ∀ j, j < 77 → w j = s j := hw
      have hokw := okS_c hok hw
      have hEw : eqB n bN bO bC w := (SB_s hS hw).2.2
      have hsdw : ∀ a, a < n → sd a = pfS n (av w) a := fun a ha => (hsd a ha).trans (spec_c hn hok.d (fun a w' ha hw' => (hw _ (by omega)).symm) a ha)
      obtain ⟨k1, a1, a2⟩ := dg_seat hokw hEw hi x
      obtain ⟨r, s', y0, y1, y2, y3, y4, y5, y6, y7, y8, a3, a4, a5⟩ := x_cent hokw hEw hsdw i as ycu yco yst yfa ydr ywy ydn ypl
      refine ⟨31 * k1 + r.toInt64, (y0, y2, 31 * k1 + r.toInt64, y5, y4, y1, y7, y8, s', y3, y6), ⟨rfl, fun j hj => (a5 j hj).trans (hw j hj)⟩, ?_, ?_⟩
      · rw [g_X4_mixedSeats_L1, past (M := 3) 3 rfl hi (by decide), a1, bd_some, a3, bd_some, g_X4_mixed, bd_some, nI_1]
      · show g_X5_digest_L3 (nf' + 1) (nI i) as yco x ydr yfa ycu ydn ypl w yst ywy = g_X5_digest_L3 nf' (nI (i + 1)) y0 y2 (31 * k1 + r.toInt64) y5 y4 y1 y7 y8 s' y3 y6
        rw [g_X5_digest_L3, past (M := 3) 3 rfl hi (by decide), a2, bd_some, a4, b11_some, g_X5_digestOne, bd_some, nI_1])
    (fun nf nf' x y hI => by
      refine ⟨x, y, ?_, ?_, hI⟩
      · rw [g_X4_mixedSeats_L1, pastE (M := 3) 3 rfl (Nat.le_refl _) (by decide)]
      · show g_X5_digest_L3 (nf' + 1) (nI 3) y.1 y.2.1 y.2.2.1 y.2.2.2.1 y.2.2.2.2.1 y.2.2.2.2.2.1 y.2.2.2.2.2.2.1 y.2.2.2.2.2.2.2.1 y.2.2.2.2.2.2.2.2.1 y.2.2.2.2.2.2.2.2.2.1 y.2.2.2.2.2.2.2.2.2.2 = _
        rw [g_X5_digest_L3, pastE (M := 3) 3 rfl (Nat.le_refl _) (by decide)])
  obtain ⟨y1, y2, h', y3, y4, y5, y6, y7, u', y8, y9⟩ := c
  obtain ⟨e0, hw⟩ := h3
  replace e0 : b = h' := e0
  subst e0
  refine ⟨b, y1, y2, y3, y4, y5, y6, y7, u', y8, y9, ?_, h2, hw⟩
  rw [g_X4_mixedSeats, bd_id]; exact h1
theorem dg_codes {m : Nat} {codes text : Nat → Int32} (hm : m ≤ 60) (hc : ∀ j, j < m → codes j = text j) (h0 : Int64) : ∃ h, g_X4_digest_L2 (nI m) codes FU h0 0 = some h ∧ g_X5_digest_L5 (nI m) text FU 0 h0 = some h := by
  obtain ⟨b, c, h1, h2, h3⟩ := lq2F (fun nf i x => g_X4_digest_L2 (nI m) codes nf x (nI i)) (fun nf i y => g_X5_digest_L5 (nI m) text nf (nI i) y) m (fun _ x y => x = y) (fun x y => x = y) (by omega) h0 h0 rfl
    (fun nf nf' i x y hi hI => by
      subst hI
      refine ⟨31 * x + (text i).toInt64, 31 * x + (text i).toInt64, rfl, ?_, ?_⟩
      · rw [g_X4_digest_L2, g_X3_size, bd_some, if_neg (nI_ge hi (by omega)), x3_code hm hc hi, bd_some, g_X4_mixed, bd_some, nI_1]
      · rw [g_X5_digest_L5, if_neg (nI_ge hi (by omega)), r60 i (by omega), g_X5_digestOne, bd_some, nI_1])
    (fun nf nf' x y hI => ⟨x, y, by rw [g_X4_digest_L2, g_X3_size, bd_some, if_pos (nI_le (Nat.le_refl _) (by omega))], by rw [g_X5_digest_L5, if_pos (nI_le (Nat.le_refl _) (by omega))], hI⟩)
  subst h3
  exact ⟨b, h1, h2⟩
end DG
theorem pu_digest : PU_digest := by
  intro K has bN bO bC c1 c2 c3 c4 c5 c6 c7 tN tO tC e1 e2 e3 e4 old sav hN hO hC sN sO sC len codes th kept sm tl dg s as snap ss text yco ycu yst yfa ywy ydr ypl ydn hK hR
  have hR1 := pu_skip _ _ _ _ _ _ _ _ _ _ _ _ _ _ _ _ _ _ _ _ _ _ hR
  obtain ⟨⟨n, hok, hE⟩, hH, hSn, hT⟩ := hR
  obtain ⟨o, mm, ho, hmm, rfl, rfl, rfl, hk⟩ := hH
  obtain ⟨m, hT2, rfl, rfl, hc⟩ := RT_ok hT
  have hS := hok.sb hE
  have hn := hok.1
  obtain ⟨h1, a1, a2⟩ := dg_counts (m := mm) hok hE
  obtain ⟨cu, co, st, re, dr, wa, sd, g1, g2⟩ := x2_study hS.cb hok.d c1 c2 c3 c4 c5 c6 c7
  obtain ⟨h2, x1, x2, x3, x4, x5, x6, x7, u, y1, y2, y3, y4, y5, y6, y7, y8, y9, b1, b2, b3⟩ := dg_armies hok hE g2 h1 tN tO tC e1 e2 e3 e4 as ycu yco yst yfa ydr ywy ydn ypl
  have hoku := okS_c hok b3
  have hEu : eqB n bN bO bC u := (SB_s hS b3).2.2
  obtain ⟨h3, d1, d2⟩ := dg_fields hoku hEu h2
  obtain ⟨h4, z1, z2, z3, z4, z5, z6, z7, u', z9, z10, f1, f2, f3⟩ := dg_seats hok hE b3 (sd := sd) (fun a ha => (g2 a ha).2.2.2.2.2) h3 y9 y1 y2 y3 y4 y5 y6 y7 y8
  have hoku' := okS_c hok f3
  have hEu' : eqB n bN bO bC u' := (SB_s hS f3).2.2
  have hmu' := MB_c hok f3
  obtain ⟨cu2, co2, st2, fa, dr2, wy, dn, pl, k1⟩ := x5_inDanger hmu' hok.d z5 z2 z9 z4 z3 z10 z6 z7
  obtain ⟨v, v1, v2, v3⟩ := x_share hoku' hEu' (by omega)
  obtain ⟨zz, v4, v5⟩ := v1.bits
  obtain ⟨h5, l1, l2⟩ := dg_codes hT2.1 hc (31 * (31 * (31 * h4 + (mx n (drv n (av s)) (dsN n (av s))).toInt64) + zz) + (nI m).toInt64)
  refine ⟨h5, cu, co, st, re, dr, wa, sd, x1, x2, x3, x4, x5, x6, x7, 0, h5, u', cu2, co2, st2, fa, dr2, wy, dn, pl, z1, ?_, ?_, ⟨RB_c hR1.1 (fun _ _ => rfl) (fun _ _ => rfl) (fun _ _ => rfl) f3, hR1.2⟩⟩
  · rw [g_X4_digest, a1, bd_some, g1, b7_some, b1, b8_some, d1, bd_some, f1, bd_some, x2_danger hS.cb (fun o ho => (g2 o ho).2.2.1) (fun o ho => (g2 o ho).2.2.2.2.1), bd_some, g_X4_mixed, bd_some, v2, bd_some, v4, bd_some, g_X4_mixed, bd_some, g_X3_size, bd_some, g_X4_mixed, bd_some, l1, bd_some]
  · rw [g_X5_digest, a2, bd_some, b2, b11_some, d2, bd_some, f2, b11_some, k1, b9_some, g_X5_digestOne, bd_some, v3, bd_some, v5, bd_some, g_X5_digestOne, bd_some, g_X5_digestOne, bd_some, l2, bd_some]
