/-! the retreats, one after another -/
noncomputable def nb (x y : Int32) : Int32 := (g_X4_areNeighbours x y).getD 0
theorem x4_nb (x y : Int32) : g_X4_areNeighbours x y = some (nb x y) := by
  have : ∃ z, g_X4_areNeighbours x y = some z := by
    unfold g_X4_areNeighbours g_X4_areNeighbours_J1
    repeat' split
    all_goals exact ⟨_, rfl⟩
  obtain ⟨z, hz⟩ := this
  unfold nb; rw [hz]; rfl
theorem x5_nb (x y : Int32) : g_X5_areNeighbours x y = some (nb x y) := (show g_X5_areNeighbours x y = g_X4_areNeighbours x y from rfl).trans (x4_nb x y)
def rtQ (n : Nat) (v : Nat → Nat → Int32) (pl : Nat → Int32) (a f : Nat) : Prop := ¬ nb (v a 1) (nI f) = 0 ∧ ¬ nI f = v (drS n v a).toNatClampNeg 1 ∧ (¬ ∃ b, b < n ∧ pl b = nI f) ∧ ¬ ∃ b, b < n ∧ wyS n v b = 1 ∧ v b 3 = nI f
noncomputable def rtS (n : Nat) (v : Nat → Nat → Int32) (pl : Nat → Int32) (a : Nat) : Int32 := fi 12 (rtQ n v pl a)
noncomputable def run (n : Nat) (v : Nat → Nat → Int32) : Nat → (Nat → Prop) → (Nat → Int32) → Nat → Int32
  | 0, _, pl => pl
  | k + 1, W, pl => cite (mx n W (dsN n v) = -1) pl (run n v k (fun x => W x ∧ ¬ x = (mx n W (dsN n v)).toNatClampNeg) (upd pl (mx n W (dsN n v)).toNatClampNeg (rtS n v pl (mx n W (dsN n v)).toNatClampNeg)))
noncomputable def pfS (n : Nat) (v : Nat → Nat → Int32) : Nat → Int32 := run n v n (drv n v) (plS n v)
theorem run_none {n k : Nat} {v : Nat → Nat → Int32} {W : Nat → Prop} {pl : Nat → Int32} (h : ∀ a, a < n → ¬ W a) : run n v k W pl = pl := by
  cases k with
  | zero => rfl
  | succ k =>
    rcases mx_cases n W (dsN n v) with ⟨a, h1, h2, _⟩ | ⟨_, h2⟩
    · exact absurd h2 (h a h1)
    · exact cite_t h2
theorem run_step {n k a : Nat} {v : Nat → Nat → Int32} {W : Nat → Prop} {pl : Nat → Int32} (ha : a < 9) (h : mx n W (dsN n v) = nI a) : run n v (k + 1) W pl = run n v k (fun x => W x ∧ ¬ x = a) (upd pl a (rtS n v pl a)) := by
  show cite _ _ _ = _
  rw [h, cite_f (nI_m1 (by omega)), nI_clamp (by omega)]
theorem num_minus {n a k : Nat} {W : Nat → Prop} (ha : a < n) (hW : W a) (h : num n W ≤ k + 1) : num n (fun x => W x ∧ ¬ x = a) ≤ k := by
  have := num_lt (n := n) (P := fun x => W x ∧ ¬ x = a) (Q := W) (fun c _ q => q.1) ha (fun q => q.2 rfl) hW
  omega
theorem num_0 {n : Nat} {W : Nat → Prop} (h : num n W = 0) : ∀ a, a < n → ¬ W a := by
  intro a ha hW
  have := num_lt (n := n) (P := fun _ => False) (Q := W) (fun c _ q => q.elim) ha (fun q => q) hW
  omega
/-- downwards to the lowest one -/
theorem lpB (L : Nat → Nat → Int32 → Option Int32) (N : Nat) (Q : Nat → Prop) (hN : N < 5000)
    (step : ∀ nf i x, i < N → (Q i ∧ L (nf + 1) (i + 1) x = L nf i (nI i)) ∨ (¬ Q i ∧ L (nf + 1) (i + 1) x = L nf i x)) (stop : ∀ nf x, L (nf + 1) 0 x = some x) : L FU N (-1) = some (fi N Q) := by
  obtain ⟨y, h1, h2⟩ := lpD L (fun i x => i ≤ N ∧ ((∃ a, i ≤ a ∧ a < N ∧ Q a ∧ (∀ c, i ≤ c → c < a → ¬ Q c) ∧ x = nI a) ∨ ((∀ c, i ≤ c → c < N → ¬ Q c) ∧ x = -1))) (fun y => y = fi N Q)
    (fun nf i x hI => by
      obtain ⟨hi, hor⟩ := hI
      rcases step nf i x (by omega) with ⟨g1, g2⟩ | ⟨g1, g2⟩
      · exact Or.inl ⟨nI i, ⟨by omega, Or.inl ⟨i, by omega, by omega, g1, fun c h1 h2 => by omega, rfl⟩⟩, g2⟩
      · refine Or.inl ⟨x, ⟨by omega, ?_⟩, g2⟩
        rcases hor with ⟨a, k1, k2, k3, k4, k5⟩ | ⟨k1, k2⟩
        · refine Or.inl ⟨a, by omega, k2, k3, fun c h1 h2 => ?_, k5⟩
          by_cases e : c = i
          · rw [e]; exact g1
          · exact k4 c (by omega) h2
        · refine Or.inr ⟨fun c h1 h2 => ?_, k2⟩
          by_cases e : c = i
          · rw [e]; exact g1
          · exact k1 c (by omega) h2)
    (fun nf x hI => by
      obtain ⟨_, hor⟩ := hI
      refine ⟨x, stop nf x, ?_⟩
      rcases hor with ⟨a, k1, k2, k3, k4, k5⟩ | ⟨k1, k2⟩
      · rw [k5, fi_first k2 k3 (fun c hc => k4 c (by omega) hc)]
      · rw [k2, fi_none (fun c hc => k1 c (by omega) hc)]) N FU (-1) hN ⟨Nat.le_refl _, Or.inr ⟨fun c h1 h2 => by omega, rfl⟩⟩
  rw [h1, h2]
section RT
variable {n : Nat} {v : Nat → Nat → Int32} {bN bC s st re dr wa sd pl : Nat → Int32} {a : Nat} {W : Nat → Prop}
theorem drv_ix (hn : n ≤ 9) (h : drv n v a) : ∃ b, b < n ∧ drS n v a = nI b ∧ dsN n v a = stN n v b ∧ goS n v b ∧ v b 3 = v a 1 ∧ ¬ goS n v a := by
  rcases dr_cases hn a with q | ⟨q1, b, q2, q3, q4, q5⟩
  · exact absurd q h
  · refine ⟨b, q2, q5, ?_, q3, q4, q1⟩
    unfold dsN; rw [q5, nI_clamp (by omega)]
theorem mx_succ (n : Nat) (W : Nat → Prop) (ds : Nat → Nat) : mx (n + 1) W ds = cite (W n ∧ (mx n W ds = -1 ∨ ds (mx n W ds).toNatClampNeg < ds n)) (nI n) (mx n W ds) := rfl
theorem x2_strong (h : CB n v bN bC) (hst : ∀ o, o < n → st o = nI (stN n v o)) (hdr : ∀ o, o < n → dr o = drS n v o) (x : Int32) (hW : ∀ o, o < n → (W o ↔ drv n v o ∧ (x = 0 ∨ wa o = 1))) : g_X2_strongestDriven bN dr wa st x = some (mx n W (dsN n v)) := by
  have hn := h.1
  have hs : ∀ o, stN n v o ≤ 10 := fun o => Nat.le_trans (st_le n v o) (by omega)
  rw [g_X2_strongestDriven, bd_id]
  obtain ⟨y, h1, h2⟩ := lpF (fun nf i (x_1 : Int32 × Int32) => g_X2_strongestDriven_L1 bN dr st x wa nf x_1.1 x_1.2 (nI i)) n
    (fun i z => z.1 = mx i W (dsN n v) ∧ z.2 = nI (if mx i W (dsN n v) = -1 then 0 else dsN n v (mx i W (dsN n v)).toNatClampNeg)) (fun y => y = mx n W (dsN n v)) (by omega) (-1, 0) ⟨rfl, rfl⟩
    (fun nf i z hi hI => by
      obtain ⟨z1, z2⟩ := z
      obtain ⟨q1, q2⟩ := hI
      replace q1 : z1 = mx i W (dsN n v) := q1
      replace q2 : z2 = nI (if mx i W (dsN n v) = -1 then 0 else dsN n v (mx i W (dsN n v)).toNatClampNeg) := q2
      have h9 : i < 9 := by omega
      by_cases hw : W i
      · obtain ⟨g1, g2⟩ := (hW i hi).mp hw
        obtain ⟨b, b1, b2, b3, _⟩ := drv_ix hn g1
        have hlo : 1 ≤ dsN n v i := by rw [b3]; unfold stN; omega
        have hhi : dsN n v i ≤ 10 := by rw [b3]; exact hs b
        have hm : (if mx i W (dsN n v) = -1 then 0 else dsN n v (mx i W (dsN n v)).toNatClampNeg) ≤ 10 := by
          split
          · omega
          · rcases mx_cases i W (dsN n v) with ⟨c, c1, c2, c3⟩ | ⟨_, c3⟩
            · rw [c3, nI_clamp (by omega)]
              obtain ⟨b', _, _, e3, _⟩ := drv_ix hn ((hW c (by omega)).mp c2).1
              rw [e3]; exact hs b'
            · exact absurd c3 (by assumption)
        have key : ∀ {α : Type} {p q : α}, (if nI (dsN n v i) ≤ z2 then p else q) = cite (mx i W (dsN n v) = -1 ∨ dsN n v (mx i W (dsN n v)).toNatClampNeg < dsN n v i) q p := by
          intro α p q
          rw [q2]
          by_cases e : mx i W (dsN n v) = -1
          · rw [if_pos e, cite_t (Or.inl e), if_neg (nI_ge (by omega) (by omega))]
          · rw [if_neg e] at hm
            rw [if_neg e]
            by_cases e2 : dsN n v (mx i W (dsN n v)).toNatClampNeg < dsN n v i
            · rw [cite_t (Or.inr e2), if_neg (nI_ge e2 (by omega))]
            · rw [cite_f (fun w => w.elim e e2), if_pos (nI_le (by omega) (by omega))]
        have hgo : g_X2_strongestDriven_L1 bN dr st x wa (nf + 1) z1 z2 (nI i) = cite (mx i W (dsN n v) = -1 ∨ dsN n v (mx i W (dsN n v)).toNatClampNeg < dsN n v i) (g_X2_strongestDriven_L1 bN dr st x wa nf (nI i) (nI (dsN n v i)) (nI (i + 1))) (g_X2_strongestDriven_L1 bN dr st x wa nf z1 z2 (nI (i + 1))) := by
          rw [← key]
          simp only [g_X2_strongestDriven_L1, x0_number0 h, go_on hn hi, bd_some, x4_entry h9, hdr i hi, b2, if_neg (nI_m1 (show b < 2 ^ 31 by omega)), g_X2_strongestDriven_J1, x4_entry (show b < 9 by omega), hst b b1, ← b3, nI_1]
          rcases g2 with e | e
          · rw [if_pos e, if_neg (by decide)]
          · by_cases e0 : x = 0
            · rw [if_pos e0, if_neg (by decide)]
            · rw [if_neg e0, if_pos e, if_neg (by decide)]
        by_cases e : mx i W (dsN n v) = -1 ∨ dsN n v (mx i W (dsN n v)).toNatClampNeg < dsN n v i
        · refine Or.inl ⟨(nI i, nI (dsN n v i)), ⟨?_, ?_⟩, by show g_X2_strongestDriven_L1 bN dr st x wa (nf + 1) z1 z2 (nI i) = _; rw [hgo, cite_t e]⟩
          · rw [mx_succ, cite_t ⟨hw, e⟩]
          · rw [mx_succ, cite_t ⟨hw, e⟩, if_neg (nI_m1 (by omega)), nI_clamp (by omega)]
        · refine Or.inl ⟨(z1, z2), ⟨?_, ?_⟩, by show g_X2_strongestDriven_L1 bN dr st x wa (nf + 1) z1 z2 (nI i) = _; rw [hgo, cite_f e]⟩
          · rw [mx_succ, cite_f (fun w => e w.2)]; exact q1
          · rw [mx_succ, cite_f (fun w => e w.2)]; exact q2
      · refine Or.inl ⟨(z1, z2), ⟨?_, ?_⟩, ?_⟩
        · rw [mx_succ, cite_f (fun w => hw w.1)]; exact q1
        · rw [mx_succ, cite_f (fun w => hw w.1)]; exact q2
        · simp only [g_X2_strongestDriven_L1, x0_number0 h, go_on hn hi, bd_some, x4_entry h9, hdr i hi, g_X2_strongestDriven_J1, nI_1]
          by_cases e1 : drS n v i = -1
          · rw [if_pos e1, if_pos trivial]
          · have e2 : ¬ (x = 0 ∨ wa i = 1) := fun w => hw ((hW i hi).mpr ⟨e1, w⟩)
            rw [if_neg e1, if_neg (fun w => e2 (Or.inl w)), if_neg (fun w => e2 (Or.inr w)), if_pos trivial])
    (fun nf z hI => ⟨z.1, by simp only [g_X2_strongestDriven_L1, x0_number0 h, bd_some, go_out hn], hI.1⟩)
  exact h1.trans (by rw [h2])
end RT
