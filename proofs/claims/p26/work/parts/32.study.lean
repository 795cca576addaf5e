theorem b2_some {α1 α2 β : Type} {x1 : α1} {x2 : α2} (k : α1 → α2 → Option β) : b2 (some (x1, x2)) k = k x1 x2 := rfl
theorem b3_some {α1 α2 α3 β : Type} {x1 : α1} {x2 : α2} {x3 : α3} (k : α1 → α2 → α3 → Option β) : b3 (some (x1, x2, x3)) k = k x1 x2 x3 := rfl
theorem b4_some {α1 α2 α3 α4 β : Type} {x1 : α1} {x2 : α2} {x3 : α3} {x4 : α4} (k : α1 → α2 → α3 → α4 → Option β) : b4 (some (x1, x2, x3, x4)) k = k x1 x2 x3 x4 := rfl
theorem b5_some {α1 α2 α3 α4 α5 β : Type} {x1 : α1} {x2 : α2} {x3 : α3} {x4 : α4} {x5 : α5} (k : α1 → α2 → α3 → α4 → α5 → Option β) : b5 (some (x1, x2, x3, x4, x5)) k = k x1 x2 x3 x4 x5 := rfl
theorem b6_some {α1 α2 α3 α4 α5 α6 β : Type} {x1 : α1} {x2 : α2} {x3 : α3} {x4 : α4} {x5 : α5} {x6 : α6} (k : α1 → α2 → α3 → α4 → α5 → α6 → Option β) : b6 (some (x1, x2, x3, x4, x5, x6)) k = k x1 x2 x3 x4 x5 x6 := rfl
theorem b7_some {α1 α2 α3 α4 α5 α6 α7 β : Type} {x1 : α1} {x2 : α2} {x3 : α3} {x4 : α4} {x5 : α5} {x6 : α6} {x7 : α7} (k : α1 → α2 → α3 → α4 → α5 → α6 → α7 → Option β) : b7 (some (x1, x2, x3, x4, x5, x6, x7)) k = k x1 x2 x3 x4 x5 x6 x7 := rfl
theorem b8_some {α1 α2 α3 α4 α5 α6 α7 α8 β : Type} {x1 : α1} {x2 : α2} {x3 : α3} {x4 : α4} {x5 : α5} {x6 : α6} {x7 : α7} {x8 : α8} (k : α1 → α2 → α3 → α4 → α5 → α6 → α7 → α8 → Option β) : b8 (some (x1, x2, x3, x4, x5, x6, x7, x8)) k = k x1 x2 x3 x4 x5 x6 x7 x8 := rfl
theorem b9_some {α1 α2 α3 α4 α5 α6 α7 α8 α9 β : Type} {x1 : α1} {x2 : α2} {x3 : α3} {x4 : α4} {x5 : α5} {x6 : α6} {x7 : α7} {x8 : α8} {x9 : α9} (k : α1 → α2 → α3 → α4 → α5 → α6 → α7 → α8 → α9 → Option β) : b9 (some (x1, x2, x3, x4, x5, x6, x7, x8, x9)) k = k x1 x2 x3 x4 x5 x6 x7 x8 x9 := rfl
theorem b10_some {α1 α2 α3 α4 α5 α6 α7 α8 α9 α10 β : Type} {x1 : α1} {x2 : α2} {x3 : α3} {x4 : α4} {x5 : α5} {x6 : α6} {x7 : α7} {x8 : α8} {x9 : α9} {x10 : α10} (k : α1 → α2 → α3 → α4 → α5 → α6 → α7 → α8 → α9 → α10 → Option β) : b10 (some (x1, x2, x3, x4, x5, x6, x7, x8, x9, x10)) k = k x1 x2 x3 x4 x5 x6 x7 x8 x9 x10 := rfl
theorem b11_some {α1 α2 α3 α4 α5 α6 α7 α8 α9 α10 α11 β : Type} {x1 : α1} {x2 : α2} {x3 : α3} {x4 : α4} {x5 : α5} {x6 : α6} {x7 : α7} {x8 : α8} {x9 : α9} {x10 : α10} {x11 : α11} (k : α1 → α2 → α3 → α4 → α5 → α6 → α7 → α8 → α9 → α10 → α11 → Option β) : b11 (some (x1, x2, x3, x4, x5, x6, x7, x8, x9, x10, x11)) k = k x1 x2 x3 x4 x5 x6 x7 x8 x9 x10 x11 := rfl
theorem b12_some {α1 α2 α3 α4 α5 α6 α7 α8 α9 α10 α11 α12 β : Type} {x1 : α1} {x2 : α2} {x3 : α3} {x4 : α4} {x5 : α5} {x6 : α6} {x7 : α7} {x8 : α8} {x9 : α9} {x10 : α10} {x11 : α11} {x12 : α12} (k : α1 → α2 → α3 → α4 → α5 → α6 → α7 → α8 → α9 → α10 → α11 → α12 → Option β) : b12 (some (x1, x2, x3, x4, x5, x6, x7, x8, x9, x10, x11, x12)) k = k x1 x2 x3 x4 x5 x6 x7 x8 x9 x10 x11 x12 := rfl
theorem b13_some {α1 α2 α3 α4 α5 α6 α7 α8 α9 α10 α11 α12 α13 β : Type} {x1 : α1} {x2 : α2} {x3 : α3} {x4 : α4} {x5 : α5} {x6 : α6} {x7 : α7} {x8 : α8} {x9 : α9} {x10 : α10} {x11 : α11} {x12 : α12} {x13 : α13} (k : α1 → α2 → α3 → α4 → α5 → α6 → α7 → α8 → α9 → α10 → α11 → α12 → α13 → Option β) : b13 (some (x1, x2, x3, x4, x5, x6, x7, x8, x9, x10, x11, x12, x13)) k = k x1 x2 x3 x4 x5 x6 x7 x8 x9 x10 x11 x12 x13 := rfl
theorem b14_some {α1 α2 α3 α4 α5 α6 α7 α8 α9 α10 α11 α12 α13 α14 β : Type} {x1 : α1} {x2 : α2} {x3 : α3} {x4 : α4} {x5 : α5} {x6 : α6} {x7 : α7} {x8 : α8} {x9 : α9} {x10 : α10} {x11 : α11} {x12 : α12} {x13 : α13} {x14 : α14} (k : α1 → α2 → α3 → α4 → α5 → α6 → α7 → α8 → α9 → α10 → α11 → α12 → α13 → α14 → Option β) : b14 (some (x1, x2, x3, x4, x5, x6, x7, x8, x9, x10, x11, x12, x13, x14)) k = k x1 x2 x3 x4 x5 x6 x7 x8 x9 x10 x11 x12 x13 x14 := rfl
theorem b15_some {α1 α2 α3 α4 α5 α6 α7 α8 α9 α10 α11 α12 α13 α14 α15 β : Type} {x1 : α1} {x2 : α2} {x3 : α3} {x4 : α4} {x5 : α5} {x6 : α6} {x7 : α7} {x8 : α8} {x9 : α9} {x10 : α10} {x11 : α11} {x12 : α12} {x13 : α13} {x14 : α14} {x15 : α15} (k : α1 → α2 → α3 → α4 → α5 → α6 → α7 → α8 → α9 → α10 → α11 → α12 → α13 → α14 → α15 → Option β) : b15 (some (x1, x2, x3, x4, x5, x6, x7, x8, x9, x10, x11, x12, x13, x14, x15)) k = k x1 x2 x3 x4 x5 x6 x7 x8 x9 x10 x11 x12 x13 x14 x15 := rfl
theorem b16_some {α1 α2 α3 α4 α5 α6 α7 α8 α9 α10 α11 α12 α13 α14 α15 α16 β : Type} {x1 : α1} {x2 : α2} {x3 : α3} {x4 : α4} {x5 : α5} {x6 : α6} {x7 : α7} {x8 : α8} {x9 : α9} {x10 : α10} {x11 : α11} {x12 : α12} {x13 : α13} {x14 : α14} {x15 : α15} {x16 : α16} (k : α1 → α2 → α3 → α4 → α5 → α6 → α7 → α8 → α9 → α10 → α11 → α12 → α13 → α14 → α15 → α16 → Option β) : b16 (some (x1, x2, x3, x4, x5, x6, x7, x8, x9, x10, x11, x12, x13, x14, x15, x16)) k = k x1 x2 x3 x4 x5 x6 x7 x8 x9 x10 x11 x12 x13 x14 x15 x16 := rfl
section RV
variable {n : Nat} {v : Nat → Nat → Int32} {bN bC s st re dr fa : Nat → Int32} {a : Nat}
theorem rtS_c {pl pl' : Nat → Int32} (h : ∀ b, b < n → pl b = pl' b) : rtS n v pl a = rtS n v pl' a := by
  unfold rtS
  refine fi_c (fun f _ => ?_)
  unfold rtQ
  have e : (∃ b, b < n ∧ pl b = nI f) ↔ ∃ b, b < n ∧ pl' b = nI f := ⟨fun ⟨b, h1, h2⟩ => ⟨b, h1, by rw [← h b h1]; exact h2⟩, fun ⟨b, h1, h2⟩ => ⟨b, h1, by rw [h b h1]; exact h2⟩⟩
  rw [e]
theorem run_c : ∀ (k : Nat) (W : Nat → Prop) (pl pl' : Nat → Int32), n ≤ 9 → (∀ b, b < n → pl b = pl' b) → ∀ b, b < n → run n v k W pl b = run n v k W pl' b := by
  intro k
  induction k with
  | zero => intro W pl pl' _ h b hb; exact h b hb
  | succ k ih =>
    intro W pl pl' hn h b hb
    rcases mx_cases n W (dsN n v) with ⟨c, c1, c2, c3⟩ | ⟨c1, c2⟩
    · rw [run_step (by omega) c3, run_step (by omega) c3]
      refine ih _ _ _ hn (fun d hd => ?_) b hb
      by_cases e : d = c
      · rw [e, pk_us, pk_us, rtS_c h]
      · rw [pk_un e, pk_un e, h d hd]
    · rw [run_none c1, run_none c1, h b hb]
theorem x5_run (h : MB n v s) (hd : dist n v) (hst : ∀ o, o < n → st o = nI (stN n v o)) (hdr : ∀ o, o < n → dr o = drS n v o) (hf : ∀ a, a < n → fa a = bi (Fx n v a)) (hw : ∀ a, a < n → re a = wyS n v a) :
    ∀ (k nf : Nat) (W : Nat → Prop) (pl dn : Nat → Int32), k < nf → num n W ≤ k → (∀ o, o < n → (W o ↔ drv n v o ∧ dn o = 0)) →
      ∃ dn', g_X5_layOpening_L3 s fa re dr st nf (mx n W (dsN n v)) dn pl = some (dn', run n v k W pl) := by
  have hn := h.1
  intro k
  induction k with
  | zero =>
    intro nf W pl dn hf' hW hdn
    cases nf with
    | zero => omega
    | succ nf =>
      have h0 := num_0 (Nat.le_zero.mp hW)
      rcases mx_cases n W (dsN n v) with ⟨c, c1, c2, c3⟩ | ⟨c1, c2⟩
      · exact absurd c2 (h0 c c1)
      · exact ⟨dn, by rw [c2, g_X5_layOpening_L3, if_pos rfl]; rfl⟩
  | succ k ih =>
    intro nf W pl dn hf' hW hdn
    cases nf with
    | zero => omega
    | succ nf =>
      rcases mx_cases n W (dsN n v) with ⟨c, c1, c2, c3⟩ | ⟨c1, c2⟩
      · have hdn' : ∀ o, o < n → ((fun y => W y ∧ ¬ y = c) o ↔ drv n v o ∧ upd dn c 1 o = 0) := fun o ho => by
          by_cases e : o = c
          · rw [e, pk_us]; exact ⟨fun q => absurd rfl q.2, fun q => absurd q.2 (by decide)⟩
          · rw [pk_un e]; exact ⟨fun q => (hdn o ho).mp q.1, fun q => ⟨(hdn o ho).mpr q, e⟩⟩
        obtain ⟨dn', g1⟩ := ih nf (fun y => W y ∧ ¬ y = c) (upd pl c (rtS n v pl c)) (upd dn c 1) (by omega) (num_minus c1 c2 hW) hdn'
        refine ⟨dn', ?_⟩
        rw [run_step (by omega) c3, ← g1, c3, g_X5_layOpening_L3, if_neg (nI_m1 (by omega)), x5_retreat h hd c1 ((hdn c c1).mp c2).1 hdr hf hw, bd_some, wrA_n (show c < 9 by omega) (by decide), wrA_n (show c < 9 by omega) (by decide), x5_next h hst hdr hdn', bd_some]
      · exact ⟨dn, by rw [c2, g_X5_layOpening_L3, if_pos rfl, run_none c1]⟩
/-- the class's study -/
theorem x2_study (h : CB n v bN bC) (hd : dist n v) (q1 q2 q3 q4 q5 q6 q7 : Nat → Int32) : ∃ cu co st re dr wa sd, g_X2_study bN bC q1 q2 q3 q4 q5 q6 q7 = some (cu, co, st, re, dr, wa, sd) ∧
    ∀ a, a < n → cu a = bi (cutQ n v a) ∧ co a = bi (cntQ n v a) ∧ st a = nI (stN n v a) ∧ re a = wyS n v a ∧ dr a = drS n v a ∧ sd a = pfS n v a := by
  have hn := h.1
  obtain ⟨cu, co, st, re, h1, h2⟩ := x2_decide h hd q1 q2 q3 q4
  obtain ⟨dr, wa, sd, h3, h4⟩ := x2_come h hd (fun a ha => (h2 a ha).2.2.2) q5 q6 q7
  have hRI : RI n v (drv n v) (plS n v) := ⟨fun a ha hw => ⟨hw, by
      obtain ⟨_, _, _, _, _, _, g⟩ := drv_ix hn hw
      unfold plS; rw [cite_f g]⟩, fun a ha hg => by unfold plS; rw [cite_t hg]⟩
  obtain ⟨wa', sd', h5, h6⟩ := x2_run h (fun a ha => (h2 a ha).2.2.1) (fun a ha => (h4 a ha).1) (fun a ha => (h2 a ha).2.2.2) n FU 0 (drv n v) (plS n v) sd wa (by omega) (by show n < 5000; omega) (num_le n _) hRI (fun a ha => (h4 a ha).2.1) (fun a ha => (h4 a ha).2.2)
  refine ⟨cu, co, st, re, dr, wa', sd', ?_, fun a ha => ?_⟩
  · rw [g_X2_study, h1, b4_some, h3, b3_some, g_X2_retreatAll, show g_X2_retreatAll_L1 bN dr st bC re FU 0 sd wa = some (wa', sd') from h5]; rfl
  · obtain ⟨g1, g2, g3, g4⟩ := h2 a ha
    exact ⟨g1, g2, g3, g4, (h4 a ha).1, h6 a ha⟩
/-- the reference's layout -/
theorem x5_opening (h : MB n v s) (hd : dist n v) (q1 q2 q3 q4 q5 q6 q7 q8 : Nat → Int32) : ∃ cu co st fa dr wy dn pl, g_X5_layOpening s q1 q2 q3 q4 q5 q6 q7 q8 = some (cu, co, st, fa, dr, wy, dn, pl) ∧
    ∀ a, a < n → cu a = bi (cutQ n v a) ∧ co a = bi (cntQ n v a) ∧ st a = nI (stN n v a) ∧ fa a = bi (Fx n v a) ∧ dr a = drS n v a ∧ wy a = wyS n v a ∧ pl a = pfS n v a := by
  have hn := h.1
  obtain ⟨cu, co, st, fa0, dr0, wy0, dn0, h1, h2⟩ := x5_strengths h hd q1 q2 q3 q4 q5 q6 q7
  obtain ⟨fa, wy, h3, h4⟩ := x5_layFails h hd (fun a ha => (h2 a ha).2.2.1) (fun a ha => (h2 a ha).2.2.2.1) wy0
  obtain ⟨pl0, h5, h6⟩ := x5_place h (fun a ha => (h4 a ha).1) q8
  obtain ⟨dr, h7, h8⟩ := x5_driver h hd (fun a ha => (h4 a ha).1) (fun a ha => (h2 a ha).2.2.2.2.1)
  have hdn : ∀ o, o < n → (drv n v o ↔ drv n v o ∧ dn0 o = 0) := fun o ho => ⟨fun q => ⟨q, (h2 o ho).2.2.2.2.2.2⟩, fun q => q.1⟩
  obtain ⟨dn, h9⟩ := x5_run h hd (fun a ha => (h2 a ha).2.2.1) h8 (fun a ha => (h4 a ha).1) (fun a ha => (h4 a ha).2) n FU (drv n v) pl0 dn0 (by show n < 5000; omega) (num_le n _) hdn
  refine ⟨cu, co, st, fa, dr, wy, dn, run n v n (drv n v) pl0, ?_, fun a ha => ?_⟩
  · rw [g_X5_layOpening, h1, b7_some, h3, b2_some, h5, bd_some, h7, bd_some, x5_next h (fun a ha => (h2 a ha).2.2.1) h8 hdn, bd_some, h9]; rfl
  · obtain ⟨g1, g2, g3, _⟩ := h2 a ha
    exact ⟨g1, g2, g3, (h4 a ha).1, h8 a ha, (h4 a ha).2, run_c n (drv n v) pl0 (plS n v) hn h6 a ha⟩
end RV
