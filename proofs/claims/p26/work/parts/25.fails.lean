/-! the moves that fail: both ways come to the least closed set -/
theorem upd_self (f : Nat → Int32) (i : Nat) : upd f i (f i) = f := funext fun j => by
  by_cases e : j = i
  · rw [e, pk_us]
  · rw [pk_un e]
section FA
variable {n : Nat} {v : Nat → Nat → Int32} {bN bC s st : Nat → Int32} {a : Nat}
def KF (n : Nat) (v : Nat → Nat → Int32) (f : Nat → Int32) : Prop := ∀ a, a < n → (f a = 0 ∨ f a = 1) ∧ (f a = 1 → Fx n v a)
def CF (n : Nat) (v : Nat → Nat → Int32) (f : Nat → Int32) : Prop := ∀ a, a < n → v a 2 = 1 → f a = 0 → rs n v (fun o => f o = 1) a = 0
theorem KF.bi {f : Nat → Int32} (h : KF n v f) (ha : a < n) : f a = bi (f a = 1) := by
  rcases (h a ha).1 with e | e
  · rw [bi_f]; exact e
    rw [e]; decide
  · rw [bi_t e]; exact e
theorem KF.all {f : Nat → Int32} (h : KF n v f) (hc : CF n v f) (ha : a < n) : f a = 1 ↔ Fx n v a := by
  refine ⟨(h a ha).2, fun hx => hx (fun o => f o = 1) (fun o ho hm hr => ?_)⟩
  rcases (h o ho).1 with e | e
  · exact absurd (hc o ho hm e) hr
  · exact e
theorem x5_pass (h : MB n v s) (hd : dist n v) (hst : ∀ o, o < n → st o = nI (stN n v o)) {f : Nat → Int32} (hK : KF n v f) :
    ∃ b f', g_X5_layFails_L2 s st FU 0 0 f = some (b, f') ∧ KF n v f' ∧ ((b = 0 ∧ f' = f ∧ CF n v f) ∨ (b = 1 ∧ num n (fun o => f o = 1) < num n (fun o => f' o = 1))) := by
  have hn := h.1
  have r9 : ∀ {α : Type} {f : Nat → Int32} {j : Nat} {k : Int32 → Option α}, j < n → rdA f 9 (nI j) k = k (f j) := fun hj => rdA_n (by omega) (by decide)
  have w9 : ∀ {α : Type} {f : Nat → Int32} {x : Int32} {j : Nat} {k : (Nat → Int32) → Option α}, j < n → wrA f 9 (nI j) x k = k (upd f j x) := fun hj => wrA_n (by omega) (by decide)
  obtain ⟨⟨b, f'⟩, h1, h2, h3⟩ := lpF (fun nf i (x : Int32 × (Nat → Int32)) => g_X5_layFails_L2 s st nf x.1 (nI i) x.2) n
    (fun i x => KF n v x.2 ∧ ((x.1 = 0 ∧ x.2 = f ∧ ∀ a, a < i → v a 2 = 1 → f a = 0 → rs n v (fun o => f o = 1) a = 0) ∨ (x.1 = 1 ∧ num n (fun o => f o = 1) < num n (fun o => x.2 o = 1))))
    (fun x => KF n v x.2 ∧ ((x.1 = 0 ∧ x.2 = f ∧ CF n v f) ∨ (x.1 = 1 ∧ num n (fun o => f o = 1) < num n (fun o => x.2 o = 1)))) (by omega) (0, f) ⟨hK, Or.inl ⟨rfl, rfl, fun a ha => by omega⟩⟩
    (fun nf i x hi hI => by
      obtain ⟨b, g⟩ := x
      obtain ⟨hKg, hor⟩ := hI
      replace hKg : KF n v g := hKg
      replace hor : (b = 0 ∧ g = f ∧ ∀ a, a < i → v a 2 = 1 → f a = 0 → rs n v (fun o => f o = 1) a = 0) ∨ (b = 1 ∧ num n (fun o => f o = 1) < num n (fun o => g o = 1)) := hor
      have hb : b = 0 ∨ b = 1 := hor.elim (fun q => Or.inl q.1) (fun q => Or.inr q.1)
      have hrs : g_X5_reason s st g (nI i) = some (rs n v (fun o => g o = 1) i) := x5_reason h hd hi hst (fun o ho => hKg.bi ho)
      by_cases hf : v i 2 = 1 ∧ g i = 0 ∧ ¬ rs n v (fun o => g o = 1) i = 0
      · obtain ⟨e1, e2, e3⟩ := hf
        refine Or.inl ⟨(1, upd g i 1), ⟨?_, Or.inr ⟨rfl, ?_⟩⟩, ?_⟩
        · intro a ha
          by_cases q : a = i
          · subst q
            refine ⟨Or.inr pk_us, fun _ => Fx_clo hn hd a ha e1 ?_⟩
            rw [rs_mono hn hd (fun o ho hq => (hKg o ho).2 hq) e3]; exact e3
          · show (upd g i 1 a = 0 ∨ upd g i 1 a = 1) ∧ (upd g i 1 a = 1 → Fx n v a)
            rw [pk_un q]; exact hKg a ha
        · have hlt : num n (fun o => g o = 1) < num n (fun o => upd g i 1 o = 1) := by
            refine num_lt (fun c hc hq => ?_) hi (by rw [e2]; decide) pk_us
            by_cases q : c = i
            · rw [q, pk_us]
            · rw [pk_un q]; exact hq
          rcases hor with ⟨_, q, _⟩ | ⟨_, q⟩
          · rw [← q]; exact hlt
          · exact Nat.lt_trans q hlt
        · have e4 : ¬ rs n v (fun o => g o = 1) i ≤ 0 := by
            rcases rs_val (n := n) (v := v) (F := fun o => g o = 1) (a := i) with q | q
            · exact absurd q e3
            · exact q.1
          simp only [g_X5_layFails_L2, x5_n h, go_on hn hi, x5_moves h hi, bd_some, ibi, r9 hi, w9 hi, hrs, g_X5_layFails_J1, g_X5_layFails_J2, nI_1]
          rcases hb with rfl | rfl <;> simp [e1, e2, e4]
      · have hsame : ∃ b', b' = b ∧ g_X5_layFails_L2 s st (nf + 1) b (nI i) g = g_X5_layFails_L2 s st nf b' (nI (i + 1)) (upd g i (g i)) := by
          refine ⟨b, rfl, ?_⟩
          simp only [g_X5_layFails_L2, x5_n h, go_on hn hi, x5_moves h hi, bd_some, ibi, r9 hi, w9 hi, hrs, g_X5_layFails_J1, g_X5_layFails_J2, nI_1]
          have hg := (hKg i hi).1
          by_cases e1 : v i 2 = 1
          · rcases hg with e2 | e2
            · have e3 : rs n v (fun o => g o = 1) i = 0 := Classical.byContradiction fun q => hf ⟨e1, e2, q⟩
              rcases hb with rfl | rfl <;> simp [e1, e2, e3]
            · rcases hb with rfl | rfl <;> simp [e1, e2]
          · rcases hg with e2 | e2 <;> rcases hb with rfl | rfl <;> simp [e1, e2]
        obtain ⟨b', rfl, hs'⟩ := hsame
        rw [upd_self] at hs'
        refine Or.inl ⟨(b', g), ⟨hKg, hor.imp (fun ⟨q1, q2, q3⟩ => ⟨q1, q2, fun a ha hm h0 => ?_⟩) id⟩, hs'⟩
        by_cases q : a = i
        · subst q
          replace q2 : g = f := q2
          exact Classical.byContradiction fun w => hf ⟨hm, by rw [q2]; exact h0, by rw [q2]; exact w⟩
        · exact q3 a (by omega) hm h0)
    (fun nf x hI => ⟨x, by simp only [g_X5_layFails_L2, x5_n h, go_out hn], hI⟩)
  exact ⟨b, f', h1, h2, h3⟩
theorem x5_layFails (h : MB n v s) (hd : dist n v) (hst : ∀ o, o < n → st o = nI (stN n v o)) {f : Nat → Int32} (hf : ∀ a, a < n → f a = 0) (w : Nat → Int32) :
    ∃ f' w', g_X5_layFails s f st w = some (f', w') ∧ ∀ a, a < n → f' a = bi (Fx n v a) ∧ w' a = wyS n v a := by
  have hn := h.1
  have r9 : ∀ {α : Type} {f : Nat → Int32} {j : Nat} {k : Int32 → Option α}, j < n → rdA f 9 (nI j) k = k (f j) := fun hj => rdA_n (by omega) (by decide)
  have w9 : ∀ {α : Type} {f : Nat → Int32} {x : Int32} {j : Nat} {k : (Nat → Int32) → Option α}, j < n → wrA f 9 (nI j) x k = k (upd f j x) := fun hj => wrA_n (by omega) (by decide)
  obtain ⟨f1, h1, h2, h3⟩ := lpF (fun nf (_ : Nat) (x : Int32 × (Nat → Int32)) => g_X5_layFails_L1 s st nf x.1 x.2) 10
    (fun r x => KF n v x.2 ∧ ((x.1 = 1 ∧ r ≤ num n (fun o => x.2 o = 1)) ∨ (x.1 = 0 ∧ CF n v x.2))) (fun f => KF n v f ∧ CF n v f) (by decide) (1, f) ⟨fun a ha => ⟨Or.inl (hf a ha), fun (e : f a = 1) => by rw [hf a ha] at e; exact absurd e (by decide)⟩, Or.inl ⟨rfl, Nat.zero_le _⟩⟩
    (fun nf r x hr hI => by
      obtain ⟨b, g⟩ := x
      obtain ⟨hKg, hor⟩ := hI
      rcases hor with ⟨q1, q2⟩ | ⟨q1, q2⟩
      · replace q1 : b = 1 := q1
        subst q1
        obtain ⟨b', g', g1, g2, g3⟩ := x5_pass h hd hst (f := g) hKg
        refine Or.inl ⟨(b', g'), ⟨g2, ?_⟩, ?_⟩
        · rcases g3 with ⟨q3, q4, q5⟩ | ⟨q3, q4⟩
          · exact Or.inr ⟨q3, by show CF n v g'; rw [q4]; exact q5⟩
          · exact Or.inl ⟨q3, Nat.lt_of_le_of_lt q2 q4⟩
        · show g_X5_layFails_L1 s st (nf + 1) 1 g = _
          rw [g_X5_layFails_L1, if_neg (by decide), g1]; rfl
      · replace q1 : b = 0 := q1
        subst q1
        exact Or.inr ⟨g, by show g_X5_layFails_L1 s st (nf + 1) 0 g = _; rw [g_X5_layFails_L1, if_pos rfl], hKg, q2⟩)
    (fun nf x hI => by
      obtain ⟨b, g⟩ := x
      obtain ⟨hKg, hor⟩ := hI
      rcases hor with ⟨q1, q2⟩ | ⟨q1, q2⟩
      · have := num_le n (fun o => g o = 1)
        replace q2 : 10 ≤ num n (fun o => g o = 1) := q2
        omega
      · replace q1 : b = 0 := q1
        subst q1
        exact ⟨g, by show g_X5_layFails_L1 s st (nf + 1) 0 g = _; rw [g_X5_layFails_L1, if_pos rfl], hKg, q2⟩)
  have hall : ∀ a, a < n → f1 a = bi (Fx n v a) := fun a ha => by rw [← bi_c (h2.all h3 ha)]; exact h2.bi ha
  obtain ⟨w1, h4, h5⟩ := lpF (fun nf i x => g_X5_layFails_L3 s f1 st nf (nI i) x) n (fun i x => ∀ a, a < i → x a = wyS n v a) (fun x => ∀ a, a < n → x a = wyS n v a) (by omega) w (fun a ha => by omega)
    (fun nf i x hi hI => by
      refine Or.inl ⟨upd x i (wyS n v i), upd_to hI rfl, ?_⟩
      have hrs : g_X5_reason s st f1 (nI i) = some (rs n v (Fx n v) i) := x5_reason h hd hi hst hall
      simp only [g_X5_layFails_L3, x5_n h, go_on hn hi, r9 hi, hall i hi, ibi, hrs, bd_some, g_X5_layFails_J3, w9 hi, nI_1]
      by_cases e : Fx n v i <;> simp [e, wyS, cite])
    (fun nf x hI => ⟨x, by simp only [g_X5_layFails_L3, x5_n h, go_out hn], hI⟩)
  refine ⟨f1, w1, ?_, fun a ha => ⟨hall a ha, h5 a ha⟩⟩
  rw [g_X5_layFails, show g_X5_layFails_L1 s st FU 1 f = some f1 from h1, bd_some, show g_X5_layFails_L3 s f1 st FU 0 w = some w1 from h4]; rfl
end FA
