/-! the pure part: reading, writing, loops, truth values -/
theorem rdA_n {α : Type} {f : Nat → Int32} {n j : Nat} {k : Int32 → Option α} (h : j < n) (hn : n < 2 ^ 31) : rdA f n (nI j) k = k (f j) := by
  unfold rdA; rw [if_neg (nI_in h hn), nI_clamp (by omega)]
theorem wrA_n {α : Type} {f : Nat → Int32} {n j : Nat} {x : Int32} {k : (Nat → Int32) → Option α} (h : j < n) (hn : n < 2 ^ 31) : wrA f n (nI j) x k = k (upd f j x) := by
  unfold wrA; rw [if_neg (nI_in h hn), nI_clamp (by omega)]
theorem bd_some {α β : Type} (a : α) (f : α → Option β) : (some a).bind f = f a := rfl
theorem bd_id {α : Type} (o : Option α) : (o.bind fun v => some v) = o := by cases o <;> rfl
noncomputable def bi (P : Prop) : Int32 := @ite _ P (Classical.propDecidable P) 1 0
theorem bi_t {P : Prop} (h : P) : bi P = 1 := by unfold bi; exact if_pos h
theorem bi_f {P : Prop} (h : ¬ P) : bi P = 0 := by unfold bi; exact if_neg h
theorem bi_c {P Q : Prop} (h : P ↔ Q) : bi P = bi Q := by rw [propext h]
theorem bi_0 {P : Prop} : bi P = 0 ↔ ¬ P := ⟨fun h hp => by rw [bi_t hp] at h; exact absurd h (by decide), bi_f⟩
theorem bi_1 {P : Prop} : bi P = 1 ↔ P := ⟨fun h => Classical.byContradiction fun hn => by rw [bi_f hn] at h; exact absurd h (by decide), bi_t⟩
/-- the first index with a property, -1 for none -/
noncomputable def fi (n : Nat) (P : Nat → Prop) : Int32 := match n with
  | 0 => -1
  | n + 1 => @ite _ (∃ c, c < n ∧ P c) (Classical.propDecidable _) (fi n P) (@ite _ (P n) (Classical.propDecidable _) (nI n) (-1))
theorem fi_none {n : Nat} {P : Nat → Prop} (h : ∀ c, c < n → ¬ P c) : fi n P = -1 := by
  cases n with
  | zero => rfl
  | succ n =>
    show @ite _ (∃ c, c < n ∧ P c) (Classical.propDecidable _) _ _ = _
    rw [if_neg (fun ⟨c, h1, h2⟩ => h c (by omega) h2), if_neg (h n (by omega))]
theorem fi_first {n a : Nat} {P : Nat → Prop} (ha : a < n) (hP : P a) (h : ∀ c, c < a → ¬ P c) : fi n P = nI a := by
  induction n with
  | zero => omega
  | succ n ih =>
    show @ite _ (∃ c, c < n ∧ P c) (Classical.propDecidable _) _ _ = _
    by_cases e : a = n
    · subst e
      rw [if_neg (fun ⟨c, h1, h2⟩ => h c h1 h2), if_pos hP]
    · rw [if_pos ⟨a, by omega, hP⟩]; exact ih (by omega)
theorem fi_cases (n : Nat) (P : Nat → Prop) : (∃ a, a < n ∧ P a ∧ (∀ c, c < a → ¬ P c) ∧ fi n P = nI a) ∨ ((∀ c, c < n → ¬ P c) ∧ fi n P = -1) := by
  by_cases e : ∃ c, c < n ∧ P c
  · obtain ⟨a, ⟨h1, h2⟩, h3⟩ := pk_least (fun c => c < n ∧ P c) e
    refine Or.inl ⟨a, h1, h2, fun c hc hP => h3 c hc ⟨by omega, hP⟩, fi_first h1 h2 (fun c hc hP => h3 c hc ⟨by omega, hP⟩)⟩
  · have h : ∀ c, c < n → ¬ P c := fun c h1 h2 => e ⟨c, h1, h2⟩
    exact Or.inr ⟨h, fi_none h⟩
theorem fi_one {n a : Nat} {P : Nat → Prop} (ha : a < n) (hP : P a) (hU : ∀ c, c < n → P c → c = a) : fi n P = nI a := by
  refine fi_first ha hP (fun c hc h => ?_)
  have := hU c (by omega) h
  omega
theorem fi_c {n : Nat} {P Q : Nat → Prop} (h : ∀ c, c < n → (P c ↔ Q c)) : fi n P = fi n Q := by
  rcases fi_cases n P with ⟨a, h1, h2, h3, h4⟩ | ⟨h3, h4⟩
  · rw [h4, fi_first h1 ((h a h1).mp h2) (fun c hc hq => h3 c hc ((h c (by omega)).mpr hq))]
  · rw [h4, fi_none (fun c hc hq => h3 c hc ((h c hc).mpr hq))]
theorem nI_m1 {a : Nat} (h : a < 2 ^ 31) : ¬ nI a = -1 := by
  intro e
  have h1 := congrArg Int32.toInt e
  rw [nI_toInt h] at h1
  have : (-1 : Int32).toInt = -1 := by decide
  omega
theorem fi_m1 {n : Nat} {P : Nat → Prop} (hn : n < 2 ^ 31) : fi n P = -1 ↔ ∀ c, c < n → ¬ P c := by
  refine ⟨fun e => ?_, fi_none⟩
  rcases fi_cases n P with ⟨a, h1, h2, h3, h4⟩ | ⟨h3, h4⟩
  · exact absurd (h4.symm.trans e) (nI_m1 (by omega))
  · exact h3
/-- how many -/
noncomputable def num (n : Nat) (P : Nat → Prop) : Nat := match n with
  | 0 => 0
  | n + 1 => num n P + @ite _ (P n) (Classical.propDecidable _) 1 0
theorem num_t {n : Nat} {P : Nat → Prop} (h : P n) : num (n + 1) P = num n P + 1 := by
  show num n P + @ite _ (P n) (Classical.propDecidable _) 1 0 = _
  rw [if_pos h]
theorem num_f {n : Nat} {P : Nat → Prop} (h : ¬ P n) : num (n + 1) P = num n P := by
  show num n P + @ite _ (P n) (Classical.propDecidable _) 1 0 = _
  rw [if_neg h]; rfl
theorem num_le (n : Nat) (P : Nat → Prop) : num n P ≤ n := by
  induction n with
  | zero => exact Nat.le_refl _
  | succ n ih => by_cases h : P n
                 · rw [num_t h]; omega
                 · rw [num_f h]; omega
theorem num_c {n : Nat} {P Q : Nat → Prop} (h : ∀ c, c < n → (P c ↔ Q c)) : num n P = num n Q := by
  induction n with
  | zero => rfl
  | succ n ih =>
    have ih' := ih (fun c hc => h c (by omega))
    by_cases e : P n
    · rw [num_t e, num_t ((h n (by omega)).mp e), ih']
    · rw [num_f e, num_f (fun q => e ((h n (by omega)).mpr q)), ih']
theorem num_mono {n : Nat} {P Q : Nat → Prop} (h : ∀ c, c < n → P c → Q c) : num n P ≤ num n Q := by
  induction n with
  | zero => exact Nat.le_refl _
  | succ n ih =>
    have ih' := ih (fun c hc => h c (by omega))
    by_cases e : P n
    · rw [num_t e, num_t (h n (by omega) e)]; omega
    · rw [num_f e]
      by_cases q : Q n
      · rw [num_t q]; omega
      · rw [num_f q]; exact ih'
theorem num_lt {n : Nat} {P Q : Nat → Prop} (h : ∀ c, c < n → P c → Q c) {a : Nat} (ha : a < n) (h1 : ¬ P a) (h2 : Q a) : num n P < num n Q := by
  induction n with
  | zero => omega
  | succ n ih =>
    by_cases q : a = n
    · subst q
      rw [num_f h1, num_t h2]
      have := num_mono (n := a) (fun c hc => h c (by omega))
      omega
    · have ih' := ih (fun c hc => h c (by omega)) (by omega)
      by_cases e : P n
      · rw [num_t e, num_t (h n (by omega) e)]; omega
      · rw [num_f e]
        by_cases q : Q n
        · rw [num_t q]; omega
        · rw [num_f q]; exact ih'
/-! loops -/
theorem lp {σ β : Type} (L : Nat → Nat → σ → Option β) (n : Nat) (I : Nat → σ → Prop) (Post : β → Prop)
    (step : ∀ nf i x, i < n → I i x → (∃ x', I (i + 1) x' ∧ L (nf + 1) i x = L nf (i + 1) x') ∨ (∃ y, L (nf + 1) i x = some y ∧ Post y))
    (stop : ∀ nf x, I n x → ∃ y, L (nf + 1) n x = some y ∧ Post y) : ∀ d nf i x, i + d = n → d < nf → I i x → ∃ y, L nf i x = some y ∧ Post y := by
  intro d
  induction d with
  | zero =>
    intro nf i x h hf hI
    obtain rfl : i = n := by omega
    cases nf with
    | zero => omega
    | succ nf => exact stop nf x hI
  | succ d ih =>
    intro nf i x h hf hI
    cases nf with
    | zero => omega
    | succ nf =>
      rcases step nf i x (by omega) hI with ⟨x', h1, h2⟩ | h2
      · rw [h2]; exact ih nf (i + 1) x' (by omega) (by omega) h1
      · exact h2
/-- from the first index on, with the fuel that there is -/
theorem lpF {σ β : Type} (L : Nat → Nat → σ → Option β) (n : Nat) (I : Nat → σ → Prop) (Post : β → Prop) (hn : n < 5000) (x0 : σ) (h0 : I 0 x0)
    (step : ∀ nf i x, i < n → I i x → (∃ x', I (i + 1) x' ∧ L (nf + 1) i x = L nf (i + 1) x') ∨ (∃ y, L (nf + 1) i x = some y ∧ Post y))
    (stop : ∀ nf x, I n x → ∃ y, L (nf + 1) n x = some y ∧ Post y) : ∃ y, L FU 0 x0 = some y ∧ Post y :=
  lp L n I Post step stop n FU 0 x0 (by omega) hn h0
/-- downwards: i are left -/
theorem lpD {σ β : Type} (L : Nat → Nat → σ → Option β) (I : Nat → σ → Prop) (Post : β → Prop)
    (step : ∀ nf i x, I (i + 1) x → (∃ x', I i x' ∧ L (nf + 1) (i + 1) x = L nf i x') ∨ (∃ y, L (nf + 1) (i + 1) x = some y ∧ Post y))
    (stop : ∀ nf x, I 0 x → ∃ y, L (nf + 1) 0 x = some y ∧ Post y) : ∀ i nf x, i < nf → I i x → ∃ y, L nf i x = some y ∧ Post y := by
  intro i
  induction i with
  | zero =>
    intro nf x hf hI
    cases nf with
    | zero => omega
    | succ nf => exact stop nf x hI
  | succ i ih =>
    intro nf x hf hI
    cases nf with
    | zero => omega
    | succ nf =>
      rcases step nf i x hI with ⟨x', h1, h2⟩ | h2
      · rw [h2]; exact ih nf x' (by omega) h1
      · exact h2
/-- is there one: with an early end -/
theorem lpE {β : Type} (L : Nat → Nat → Option β) (n : Nat) (P : Nat → Prop) (t f : β) (hn : n < 5000)
    (step : ∀ nf i, i < n → (P i ∧ L (nf + 1) i = some t) ∨ (¬ P i ∧ L (nf + 1) i = L nf (i + 1))) (stop : ∀ nf, L (nf + 1) n = some f) :
    L FU 0 = some (@ite _ (∃ c, c < n ∧ P c) (Classical.propDecidable _) t f) := by
  obtain ⟨y, h1, h2⟩ := lpF (fun nf i (_ : Unit) => L nf i) n (fun i _ => ∀ c, c < i → ¬ P c) (fun y => y = @ite _ (∃ c, c < n ∧ P c) (Classical.propDecidable _) t f) hn () (fun c hc => by omega)
    (fun nf i _ hi hI => by
      rcases step nf i hi with ⟨h1, h2⟩ | ⟨h1, h2⟩
      · exact Or.inr ⟨t, h2, by rw [if_pos ⟨i, hi, h1⟩]⟩
      · refine Or.inl ⟨(), fun c hc => ?_, h2⟩
        by_cases e : c = i
        · rw [e]; exact h1
        · exact hI c (by omega))
    (fun nf _ hI => ⟨f, stop nf, by rw [if_neg (fun ⟨c, h1, h2⟩ => hI c h1 h2)]⟩)
  rw [h1, h2]
theorem lpEb (L : Nat → Nat → Option Int32) (n : Nat) (P : Nat → Prop) (hn : n < 5000)
    (step : ∀ nf i, i < n → (P i ∧ L (nf + 1) i = some 1) ∨ (¬ P i ∧ L (nf + 1) i = L nf (i + 1))) (stop : ∀ nf, L (nf + 1) n = some 0) :
    L FU 0 = some (bi (∃ c, c < n ∧ P c)) := lpE L n P 1 0 hn step stop
/-- is there one: the truth so far is carried along -/
theorem lpX (L : Nat → Nat → Int32 → Option Int32) (n : Nat) (P : Nat → Prop) (hn : n < 5000)
    (step : ∀ nf i x, i < n → (x = 0 ∨ x = 1) → L (nf + 1) i x = L nf (i + 1) (bi (x = 1 ∨ P i))) (stop : ∀ nf x, L (nf + 1) n x = some x) :
    L FU 0 0 = some (bi (∃ c, c < n ∧ P c)) := by
  obtain ⟨y, h1, h2⟩ := lpF L n (fun i x => x = bi (∃ c, c < i ∧ P c)) (fun y => y = bi (∃ c, c < n ∧ P c)) hn 0 (by rw [bi_f]; rintro ⟨c, h, _⟩; omega)
    (fun nf i x hi hI => by
      refine Or.inl ⟨_, ?_, step nf i x hi ?_⟩
      · subst hI
        refine bi_c ⟨?_, ?_⟩
        · rintro (h | h)
          · obtain ⟨c, h1, h2⟩ := bi_1.mp h
            exact ⟨c, by omega, h2⟩
          · exact ⟨i, by omega, h⟩
        · rintro ⟨c, h1, h2⟩
          by_cases e : c = i
          · exact Or.inr (e ▸ h2)
          · exact Or.inl (bi_1.mpr ⟨c, by omega, h2⟩)
      · subst hI
        by_cases h : ∃ c, c < i ∧ P c
        · exact Or.inr (bi_t h)
        · exact Or.inl (bi_f h))
    (fun nf x hI => ⟨x, stop nf x, hI⟩)
  rw [h1, h2]
/-- the first one, with an early end -/
theorem lpI (L : Nat → Nat → Option Int32) (n : Nat) (P : Nat → Prop) (hn : n < 5000)
    (step : ∀ nf i, i < n → (P i ∧ L (nf + 1) i = some (nI i)) ∨ (¬ P i ∧ L (nf + 1) i = L nf (i + 1))) (stop : ∀ nf, L (nf + 1) n = some (-1)) :
    L FU 0 = some (fi n P) := by
  obtain ⟨y, h1, h2⟩ := lpF (fun nf i (_ : Unit) => L nf i) n (fun i _ => ∀ c, c < i → ¬ P c) (fun y => y = fi n P) hn () (fun c hc => by omega)
    (fun nf i _ hi hI => by
      rcases step nf i hi with ⟨h1, h2⟩ | ⟨h1, h2⟩
      · exact Or.inr ⟨_, h2, (fi_first hi h1 hI).symm⟩
      · refine Or.inl ⟨(), fun c hc => ?_, h2⟩
        by_cases e : c = i
        · rw [e]; exact h1
        · exact hI c (by omega))
    (fun nf _ hI => ⟨-1, stop nf, (fi_none hI).symm⟩)
  rw [h1, h2]
/-- the last one, where there is at most one -/
theorem lpL (L : Nat → Nat → Int32 → Option Int32) (n : Nat) (P : Nat → Prop) (hn : n < 5000) (hU : ∀ a b, a < n → b < n → P a → P b → a = b)
    (step : ∀ nf i x, i < n → (P i ∧ L (nf + 1) i x = L nf (i + 1) (nI i)) ∨ (¬ P i ∧ L (nf + 1) i x = L nf (i + 1) x)) (stop : ∀ nf x, L (nf + 1) n x = some x) :
    L FU 0 (-1) = some (fi n P) := by
  obtain ⟨y, h1, h2⟩ := lpF L n (fun i x => x = fi i P) (fun y => y = fi n P) hn (-1) rfl
    (fun nf i x hi hI => by
      rcases step nf i x hi with ⟨h1, h2⟩ | ⟨h1, h2⟩
      · exact Or.inl ⟨_, (fi_one (by omega) h1 (fun c hc hP => hU c i (by omega) hi hP h1)).symm, h2⟩
      · refine Or.inl ⟨_, ?_, h2⟩
        rw [hI]
        rcases fi_cases i P with ⟨a, g1, g2, g3, g4⟩ | ⟨g3, g4⟩
        · rw [g4, fi_first (by omega) g2 g3]
        · rw [g4, fi_none]
          intro c hc
          by_cases e : c = i
          · rw [e]; exact h1
          · exact g3 c (by omega))
    (fun nf x hI => ⟨x, stop nf x, hI⟩)
  rw [h1, h2]
/-- counting -/
theorem lpC (L : Nat → Nat → Int32 → Option Int32) (n : Nat) (P : Nat → Prop) (hn : n < 5000)
    (step : ∀ nf i x, i < n → (P i ∧ L (nf + 1) i x = L nf (i + 1) (x + 1)) ∨ (¬ P i ∧ L (nf + 1) i x = L nf (i + 1) x)) (stop : ∀ nf x, L (nf + 1) n x = some x) :
    L FU 0 0 = some (nI (num n P)) := by
  obtain ⟨y, h1, h2⟩ := lpF L n (fun i x => x = nI (num i P)) (fun y => y = nI (num n P)) hn 0 rfl
    (fun nf i x hi hI => by
      rcases step nf i x hi with ⟨h1, h2⟩ | ⟨h1, h2⟩
      · exact Or.inl ⟨_, by rw [hI, num_t h1, nI_1], h2⟩
      · exact Or.inl ⟨_, by rw [hI, num_f h1], h2⟩)
    (fun nf x hI => ⟨x, stop nf x, hI⟩)
  rw [h1, h2]
