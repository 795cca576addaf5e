/-! the run of retreats on both sides -/
section RU
variable {n : Nat} {v : Nat → Nat → Int32} {bN bC s st re dr fa : Nat → Int32}
/-- what the class's rows show of a run: W still wait, pl is where they stand else -/
def RI (n : Nat) (v : Nat → Nat → Int32) (W : Nat → Prop) (pl : Nat → Int32) : Prop := (∀ a, a < n → W a → drv n v a ∧ pl a = v a 1) ∧ ∀ a, a < n → goS n v a → pl a = v a 3
theorem RI.step (hn : n ≤ 9) {W : Nat → Prop} {pl : Nat → Int32} (h : RI n v W pl) {a : Nat} {x : Int32} (ha : a < n) (hW : W a) : RI n v (fun y => W y ∧ ¬ y = a) (upd pl a x) := by
  obtain ⟨b, _, _, _, _, _, hg⟩ := drv_ix hn (h.1 a ha hW).1
  refine ⟨fun c hc hw => ?_, fun c hc hw => ?_⟩
  · rw [pk_un hw.2]; exact h.1 c hc hw.1
  · have e : ¬ c = a := fun e => hg (by rw [← e]; exact hw)
    rw [pk_un e]; exact h.2 c hc hw
theorem RI.fields (hn : n ≤ 9) {W : Nat → Prop} {pl sd : Nat → Int32} (h : RI n v W pl) (hsd : ∀ a, a < n → sd a = cite (W a) (-1) (pl a)) (f : Nat) (hf : f < 12) : (∃ b, b < n ∧ sd b = nI f) ↔ ∃ b, b < n ∧ pl b = nI f := by
  constructor
  · rintro ⟨b, h1, h2⟩
    rw [hsd b h1] at h2
    by_cases hw : W b
    · rw [cite_t hw] at h2; exact absurd h2.symm (nI_m1 (by omega))
    · rw [cite_f hw] at h2; exact ⟨b, h1, h2⟩
  · rintro ⟨b, h1, h2⟩
    by_cases hw : W b
    · obtain ⟨g1, g2⟩ := h.1 b h1 hw
      obtain ⟨c, c1, c2, c3, c4, c5, c6⟩ := drv_ix hn g1
      have hc : ¬ W c := fun q => by
        obtain ⟨_, _, _, _, _, _, d⟩ := drv_ix hn (h.1 c c1 q).1
        exact d c4
      exact ⟨c, c1, by rw [hsd c c1, cite_f hc, h.2 c c1 c4, c5, ← g2, h2]⟩
    · exact ⟨b, h1, by rw [hsd b h1, cite_f hw, h2]⟩
theorem x2_run (h : CB n v bN bC) (hst : ∀ o, o < n → st o = nI (stN n v o)) (hdr : ∀ o, o < n → dr o = drS n v o) (hre : ∀ o, o < n → re o = wyS n v o) :
    ∀ (k nf i : Nat) (W : Nat → Prop) (pl sd wa : Nat → Int32), i + k = n → k < nf → num n W ≤ k → RI n v W pl → (∀ a, a < n → wa a = bi (W a)) → (∀ a, a < n → sd a = cite (W a) (-1) (pl a)) →
      ∃ wa' sd', g_X2_retreatAll_L1 bN dr st bC re nf (nI i) sd wa = some (wa', sd') ∧ ∀ a, a < n → sd' a = run n v k W pl a := by
  have hn := h.1
  intro k
  induction k with
  | zero =>
    intro nf i W pl sd wa hi hf hW hR hwa hsd
    obtain rfl : i = n := by omega
    cases nf with
    | zero => omega
    | succ nf =>
      have h0 := num_0 (Nat.le_zero.mp hW)
      refine ⟨wa, sd, by simp only [g_X2_retreatAll_L1, x0_number0 h, bd_some, go_out hn], fun a ha => ?_⟩
      rw [hsd a ha, cite_f (h0 a ha)]; rfl
  | succ k ih =>
    intro nf i W pl sd wa hi hf hW hR hwa hsd
    cases nf with
    | zero => omega
    | succ nf =>
      have hsg : g_X2_strongestDriven bN dr wa st 1 = some (mx n W (dsN n v)) := x2_strong h hst hdr 1 (fun o ho => by
        rw [hwa o ho]
        exact ⟨fun w => ⟨(hR.1 o ho w).1, Or.inr (bi_t w)⟩, fun w => w.2.elim (fun q => absurd q (by decide)) bi_1.mp⟩)
      rcases mx_cases n W (dsN n v) with ⟨a, a1, a2, a3⟩ | ⟨a1, a2⟩
      · have hrt := x2_retreat h a1 (hR.1 a a1 a2).1 hdr hre (fun f hf => hR.fields hn hsd f hf)
        obtain ⟨wa', sd', g1, g2⟩ := ih nf (i + 1) (fun y => W y ∧ ¬ y = a) (upd pl a (rtS n v pl a)) (upd sd a (rtS n v pl a)) (upd wa a 0) (by omega) (by omega) (num_minus a1 a2 hW) (hR.step hn a1 a2)
          (fun c hc => by
            by_cases e : c = a
            · rw [e, pk_us, bi_f (fun q => q.2 rfl)]
            · rw [pk_un e, hwa c hc]; exact bi_c ⟨fun q => ⟨q, e⟩, fun q => q.1⟩)
          (fun c hc => by
            by_cases e : c = a
            · rw [e, pk_us, pk_us, cite_f (fun q => q.2 rfl)]
            · rw [pk_un e, pk_un e, hsd c hc]
              by_cases w : W c
              · rw [cite_t w, cite_t ⟨w, e⟩]
              · rw [cite_f w, cite_f (fun q => w q.1)])
        refine ⟨wa', sd', ?_, fun c hc => by rw [g2 c hc, run_step (by omega) a3]⟩
        rw [← g1]
        simp only [g_X2_retreatAll_L1, x0_number0 h, bd_some, go_on hn (show i < n by omega), hsg, a3, if_neg (nI_m1 (show a < 2 ^ 31 by omega)), hrt, x4_enter (show a < 9 by omega), nI_1]
      · refine ⟨wa, sd, ?_, fun c hc => ?_⟩
        · simp only [g_X2_retreatAll_L1, x0_number0 h, bd_some, go_on hn (show i < n by omega), hsg, a2, if_true]
        · rw [hsd c hc, cite_f (a1 c hc), run_none a1]
end RU
