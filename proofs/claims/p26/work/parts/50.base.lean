/-! p26: what a call must come to; the looks of the class, told in the words of the board -/
def WP {α : Type} (o : Option α) (P : α → Prop) : Prop := ∃ a, o = some a ∧ P a
theorem wp_ret {α : Type} {a : α} {P : α → Prop} (h : P a) : WP (some a) P := ⟨a, rfl, h⟩
theorem wp_if {α : Type} {c : Prop} {i : Decidable c} {x y : Option α} {P : α → Prop} (h1 : c → WP x P) (h2 : ¬ c → WP y P) : WP (@ite _ c i x y) P := by
  by_cases h : c
  · rw [if_pos h]; exact h1 h
  · rw [if_neg h]; exact h2 h
theorem wp_t {α : Type} {c : Prop} {i : Decidable c} {x y : Option α} {P : α → Prop} (h : c) (h1 : WP x P) : WP (@ite _ c i x y) P := by rw [if_pos h]; exact h1
theorem wp_f {α : Type} {c : Prop} {i : Decidable c} {x y : Option α} {P : α → Prop} (h : ¬ c) (h1 : WP y P) : WP (@ite _ c i x y) P := by rw [if_neg h]; exact h1
theorem wp_mono {α : Type} {o : Option α} {P Q : α → Prop} (h : WP o P) (hPQ : ∀ a, P a → Q a) : WP o Q := by
  obtain ⟨a, h1, h2⟩ := h
  exact ⟨a, h1, hPQ a h2⟩
theorem wp_bind {α β : Type} {o : Option α} {k : α → Option β} {Q : α → Prop} {P : β → Prop} (h : WP o Q) (hk : ∀ a, Q a → WP (k a) P) : WP (o.bind k) P := by
  obtain ⟨a, rfl, h2⟩ := h
  exact hk a h2
theorem wp_b2 {α1 α2 β : Type} {o : Option (α1 × α2)} {k : α1 → α2 → Option β} {Q : α1 × α2 → Prop} {P : β → Prop} (h : WP o Q) (hk : ∀ x1 x2, Q (x1, x2) → WP (k x1 x2) P) : WP (b2 o k) P := by
  obtain ⟨a, rfl, h2⟩ := h
  exact hk a.1 a.2 h2
theorem wp_b3 {α1 α2 α3 β : Type} {o : Option (α1 × α2 × α3)} {k : α1 → α2 → α3 → Option β} {Q : α1 × α2 × α3 → Prop} {P : β → Prop} (h : WP o Q) (hk : ∀ x1 x2 x3, Q (x1, x2, x3) → WP (k x1 x2 x3) P) : WP (b3 o k) P := by
  obtain ⟨a, rfl, h2⟩ := h
  exact hk a.1 a.2.1 a.2.2 h2
theorem wp_b4 {α1 α2 α3 α4 β : Type} {o : Option (α1 × α2 × α3 × α4)} {k : α1 → α2 → α3 → α4 → Option β} {Q : α1 × α2 × α3 × α4 → Prop} {P : β → Prop} (h : WP o Q) (hk : ∀ x1 x2 x3 x4, Q (x1, x2, x3, x4) → WP (k x1 x2 x3 x4) P) : WP (b4 o k) P := by
  obtain ⟨a, rfl, h2⟩ := h
  exact hk a.1 a.2.1 a.2.2.1 a.2.2.2 h2
theorem wp_b5 {α1 α2 α3 α4 α5 β : Type} {o : Option (α1 × α2 × α3 × α4 × α5)} {k : α1 → α2 → α3 → α4 → α5 → Option β} {Q : α1 × α2 × α3 × α4 × α5 → Prop} {P : β → Prop} (h : WP o Q) (hk : ∀ x1 x2 x3 x4 x5, Q (x1, x2, x3, x4, x5) → WP (k x1 x2 x3 x4 x5) P) : WP (b5 o k) P := by
  obtain ⟨a, rfl, h2⟩ := h
  exact hk a.1 a.2.1 a.2.2.1 a.2.2.2.1 a.2.2.2.2 h2
theorem wp_b6 {α1 α2 α3 α4 α5 α6 β : Type} {o : Option (α1 × α2 × α3 × α4 × α5 × α6)} {k : α1 → α2 → α3 → α4 → α5 → α6 → Option β} {Q : α1 × α2 × α3 × α4 × α5 × α6 → Prop} {P : β → Prop} (h : WP o Q) (hk : ∀ x1 x2 x3 x4 x5 x6, Q (x1, x2, x3, x4, x5, x6) → WP (k x1 x2 x3 x4 x5 x6) P) : WP (b6 o k) P := by
  obtain ⟨a, rfl, h2⟩ := h
  exact hk a.1 a.2.1 a.2.2.1 a.2.2.2.1 a.2.2.2.2.1 a.2.2.2.2.2 h2
theorem wp_b7 {α1 α2 α3 α4 α5 α6 α7 β : Type} {o : Option (α1 × α2 × α3 × α4 × α5 × α6 × α7)} {k : α1 → α2 → α3 → α4 → α5 → α6 → α7 → Option β} {Q : α1 × α2 × α3 × α4 × α5 × α6 × α7 → Prop} {P : β → Prop} (h : WP o Q) (hk : ∀ x1 x2 x3 x4 x5 x6 x7, Q (x1, x2, x3, x4, x5, x6, x7) → WP (k x1 x2 x3 x4 x5 x6 x7) P) : WP (b7 o k) P := by
  obtain ⟨a, rfl, h2⟩ := h
  exact hk a.1 a.2.1 a.2.2.1 a.2.2.2.1 a.2.2.2.2.1 a.2.2.2.2.2.1 a.2.2.2.2.2.2 h2
theorem wp_b8 {α1 α2 α3 α4 α5 α6 α7 α8 β : Type} {o : Option (α1 × α2 × α3 × α4 × α5 × α6 × α7 × α8)} {k : α1 → α2 → α3 → α4 → α5 → α6 → α7 → α8 → Option β} {Q : α1 × α2 × α3 × α4 × α5 × α6 × α7 × α8 → Prop} {P : β → Prop} (h : WP o Q) (hk : ∀ x1 x2 x3 x4 x5 x6 x7 x8, Q (x1, x2, x3, x4, x5, x6, x7, x8) → WP (k x1 x2 x3 x4 x5 x6 x7 x8) P) : WP (b8 o k) P := by
  obtain ⟨a, rfl, h2⟩ := h
  exact hk a.1 a.2.1 a.2.2.1 a.2.2.2.1 a.2.2.2.2.1 a.2.2.2.2.2.1 a.2.2.2.2.2.2.1 a.2.2.2.2.2.2.2 h2
theorem wp_b9 {α1 α2 α3 α4 α5 α6 α7 α8 α9 β : Type} {o : Option (α1 × α2 × α3 × α4 × α5 × α6 × α7 × α8 × α9)} {k : α1 → α2 → α3 → α4 → α5 → α6 → α7 → α8 → α9 → Option β} {Q : α1 × α2 × α3 × α4 × α5 × α6 × α7 × α8 × α9 → Prop} {P : β → Prop} (h : WP o Q) (hk : ∀ x1 x2 x3 x4 x5 x6 x7 x8 x9, Q (x1, x2, x3, x4, x5, x6, x7, x8, x9) → WP (k x1 x2 x3 x4 x5 x6 x7 x8 x9) P) : WP (b9 o k) P := by
  obtain ⟨a, rfl, h2⟩ := h
  exact hk a.1 a.2.1 a.2.2.1 a.2.2.2.1 a.2.2.2.2.1 a.2.2.2.2.2.1 a.2.2.2.2.2.2.1 a.2.2.2.2.2.2.2.1 a.2.2.2.2.2.2.2.2 h2
theorem wp_b10 {α1 α2 α3 α4 α5 α6 α7 α8 α9 α10 β : Type} {o : Option (α1 × α2 × α3 × α4 × α5 × α6 × α7 × α8 × α9 × α10)} {k : α1 → α2 → α3 → α4 → α5 → α6 → α7 → α8 → α9 → α10 → Option β} {Q : α1 × α2 × α3 × α4 × α5 × α6 × α7 × α8 × α9 × α10 → Prop} {P : β → Prop} (h : WP o Q) (hk : ∀ x1 x2 x3 x4 x5 x6 x7 x8 x9 x10, Q (x1, x2, x3, x4, x5, x6, x7, x8, x9, x10) → WP (k x1 x2 x3 x4 x5 x6 x7 x8 x9 x10) P) : WP (b10 o k) P := by
  obtain ⟨a, rfl, h2⟩ := h
  exact hk a.1 a.2.1 a.2.2.1 a.2.2.2.1 a.2.2.2.2.1 a.2.2.2.2.2.1 a.2.2.2.2.2.2.1 a.2.2.2.2.2.2.2.1 a.2.2.2.2.2.2.2.2.1 a.2.2.2.2.2.2.2.2.2 h2
theorem wp_b11 {α1 α2 α3 α4 α5 α6 α7 α8 α9 α10 α11 β : Type} {o : Option (α1 × α2 × α3 × α4 × α5 × α6 × α7 × α8 × α9 × α10 × α11)} {k : α1 → α2 → α3 → α4 → α5 → α6 → α7 → α8 → α9 → α10 → α11 → Option β} {Q : α1 × α2 × α3 × α4 × α5 × α6 × α7 × α8 × α9 × α10 × α11 → Prop} {P : β → Prop} (h : WP o Q) (hk : ∀ x1 x2 x3 x4 x5 x6 x7 x8 x9 x10 x11, Q (x1, x2, x3, x4, x5, x6, x7, x8, x9, x10, x11) → WP (k x1 x2 x3 x4 x5 x6 x7 x8 x9 x10 x11) P) : WP (b11 o k) P := by
  obtain ⟨a, rfl, h2⟩ := h
  exact hk a.1 a.2.1 a.2.2.1 a.2.2.2.1 a.2.2.2.2.1 a.2.2.2.2.2.1 a.2.2.2.2.2.2.1 a.2.2.2.2.2.2.2.1 a.2.2.2.2.2.2.2.2.1 a.2.2.2.2.2.2.2.2.2.1 a.2.2.2.2.2.2.2.2.2.2 h2
theorem wp_b12 {α1 α2 α3 α4 α5 α6 α7 α8 α9 α10 α11 α12 β : Type} {o : Option (α1 × α2 × α3 × α4 × α5 × α6 × α7 × α8 × α9 × α10 × α11 × α12)} {k : α1 → α2 → α3 → α4 → α5 → α6 → α7 → α8 → α9 → α10 → α11 → α12 → Option β} {Q : α1 × α2 × α3 × α4 × α5 × α6 × α7 × α8 × α9 × α10 × α11 × α12 → Prop} {P : β → Prop} (h : WP o Q) (hk : ∀ x1 x2 x3 x4 x5 x6 x7 x8 x9 x10 x11 x12, Q (x1, x2, x3, x4, x5, x6, x7, x8, x9, x10, x11, x12) → WP (k x1 x2 x3 x4 x5 x6 x7 x8 x9 x10 x11 x12) P) : WP (b12 o k) P := by
  obtain ⟨a, rfl, h2⟩ := h
  exact hk a.1 a.2.1 a.2.2.1 a.2.2.2.1 a.2.2.2.2.1 a.2.2.2.2.2.1 a.2.2.2.2.2.2.1 a.2.2.2.2.2.2.2.1 a.2.2.2.2.2.2.2.2.1 a.2.2.2.2.2.2.2.2.2.1 a.2.2.2.2.2.2.2.2.2.2.1 a.2.2.2.2.2.2.2.2.2.2.2 h2
theorem wp_b13 {α1 α2 α3 α4 α5 α6 α7 α8 α9 α10 α11 α12 α13 β : Type} {o : Option (α1 × α2 × α3 × α4 × α5 × α6 × α7 × α8 × α9 × α10 × α11 × α12 × α13)} {k : α1 → α2 → α3 → α4 → α5 → α6 → α7 → α8 → α9 → α10 → α11 → α12 → α13 → Option β} {Q : α1 × α2 × α3 × α4 × α5 × α6 × α7 × α8 × α9 × α10 × α11 × α12 × α13 → Prop} {P : β → Prop} (h : WP o Q) (hk : ∀ x1 x2 x3 x4 x5 x6 x7 x8 x9 x10 x11 x12 x13, Q (x1, x2, x3, x4, x5, x6, x7, x8, x9, x10, x11, x12, x13) → WP (k x1 x2 x3 x4 x5 x6 x7 x8 x9 x10 x11 x12 x13) P) : WP (b13 o k) P := by
  obtain ⟨a, rfl, h2⟩ := h
  exact hk a.1 a.2.1 a.2.2.1 a.2.2.2.1 a.2.2.2.2.1 a.2.2.2.2.2.1 a.2.2.2.2.2.2.1 a.2.2.2.2.2.2.2.1 a.2.2.2.2.2.2.2.2.1 a.2.2.2.2.2.2.2.2.2.1 a.2.2.2.2.2.2.2.2.2.2.1 a.2.2.2.2.2.2.2.2.2.2.2.1 a.2.2.2.2.2.2.2.2.2.2.2.2 h2
theorem wp_b14 {α1 α2 α3 α4 α5 α6 α7 α8 α9 α10 α11 α12 α13 α14 β : Type} {o : Option (α1 × α2 × α3 × α4 × α5 × α6 × α7 × α8 × α9 × α10 × α11 × α12 × α13 × α14)} {k : α1 → α2 → α3 → α4 → α5 → α6 → α7 → α8 → α9 → α10 → α11 → α12 → α13 → α14 → Option β} {Q : α1 × α2 × α3 × α4 × α5 × α6 × α7 × α8 × α9 × α10 × α11 × α12 × α13 × α14 → Prop} {P : β → Prop} (h : WP o Q) (hk : ∀ x1 x2 x3 x4 x5 x6 x7 x8 x9 x10 x11 x12 x13 x14, Q (x1, x2, x3, x4, x5, x6, x7, x8, x9, x10, x11, x12, x13, x14) → WP (k x1 x2 x3 x4 x5 x6 x7 x8 x9 x10 x11 x12 x13 x14) P) : WP (b14 o k) P := by
  obtain ⟨a, rfl, h2⟩ := h
  exact hk a.1 a.2.1 a.2.2.1 a.2.2.2.1 a.2.2.2.2.1 a.2.2.2.2.2.1 a.2.2.2.2.2.2.1 a.2.2.2.2.2.2.2.1 a.2.2.2.2.2.2.2.2.1 a.2.2.2.2.2.2.2.2.2.1 a.2.2.2.2.2.2.2.2.2.2.1 a.2.2.2.2.2.2.2.2.2.2.2.1 a.2.2.2.2.2.2.2.2.2.2.2.2.1 a.2.2.2.2.2.2.2.2.2.2.2.2.2 h2
theorem wp_b15 {α1 α2 α3 α4 α5 α6 α7 α8 α9 α10 α11 α12 α13 α14 α15 β : Type} {o : Option (α1 × α2 × α3 × α4 × α5 × α6 × α7 × α8 × α9 × α10 × α11 × α12 × α13 × α14 × α15)} {k : α1 → α2 → α3 → α4 → α5 → α6 → α7 → α8 → α9 → α10 → α11 → α12 → α13 → α14 → α15 → Option β} {Q : α1 × α2 × α3 × α4 × α5 × α6 × α7 × α8 × α9 × α10 × α11 × α12 × α13 × α14 × α15 → Prop} {P : β → Prop} (h : WP o Q) (hk : ∀ x1 x2 x3 x4 x5 x6 x7 x8 x9 x10 x11 x12 x13 x14 x15, Q (x1, x2, x3, x4, x5, x6, x7, x8, x9, x10, x11, x12, x13, x14, x15) → WP (k x1 x2 x3 x4 x5 x6 x7 x8 x9 x10 x11 x12 x13 x14 x15) P) : WP (b15 o k) P := by
  obtain ⟨a, rfl, h2⟩ := h
  exact hk a.1 a.2.1 a.2.2.1 a.2.2.2.1 a.2.2.2.2.1 a.2.2.2.2.2.1 a.2.2.2.2.2.2.1 a.2.2.2.2.2.2.2.1 a.2.2.2.2.2.2.2.2.1 a.2.2.2.2.2.2.2.2.2.1 a.2.2.2.2.2.2.2.2.2.2.1 a.2.2.2.2.2.2.2.2.2.2.2.1 a.2.2.2.2.2.2.2.2.2.2.2.2.1 a.2.2.2.2.2.2.2.2.2.2.2.2.2.1 a.2.2.2.2.2.2.2.2.2.2.2.2.2.2 h2
theorem wp_b16 {α1 α2 α3 α4 α5 α6 α7 α8 α9 α10 α11 α12 α13 α14 α15 α16 β : Type} {o : Option (α1 × α2 × α3 × α4 × α5 × α6 × α7 × α8 × α9 × α10 × α11 × α12 × α13 × α14 × α15 × α16)} {k : α1 → α2 → α3 → α4 → α5 → α6 → α7 → α8 → α9 → α10 → α11 → α12 → α13 → α14 → α15 → α16 → Option β} {Q : α1 × α2 × α3 × α4 × α5 × α6 × α7 × α8 × α9 × α10 × α11 × α12 × α13 × α14 × α15 × α16 → Prop} {P : β → Prop} (h : WP o Q) (hk : ∀ x1 x2 x3 x4 x5 x6 x7 x8 x9 x10 x11 x12 x13 x14 x15 x16, Q (x1, x2, x3, x4, x5, x6, x7, x8, x9, x10, x11, x12, x13, x14, x15, x16) → WP (k x1 x2 x3 x4 x5 x6 x7 x8 x9 x10 x11 x12 x13 x14 x15 x16) P) : WP (b16 o k) P := by
  obtain ⟨a, rfl, h2⟩ := h
  exact hk a.1 a.2.1 a.2.2.1 a.2.2.2.1 a.2.2.2.2.1 a.2.2.2.2.2.1 a.2.2.2.2.2.2.1 a.2.2.2.2.2.2.2.1 a.2.2.2.2.2.2.2.2.1 a.2.2.2.2.2.2.2.2.2.1 a.2.2.2.2.2.2.2.2.2.2.1 a.2.2.2.2.2.2.2.2.2.2.2.1 a.2.2.2.2.2.2.2.2.2.2.2.2.1 a.2.2.2.2.2.2.2.2.2.2.2.2.2.1 a.2.2.2.2.2.2.2.2.2.2.2.2.2.2.1 a.2.2.2.2.2.2.2.2.2.2.2.2.2.2.2 h2
theorem wp_b17 {α1 α2 α3 α4 α5 α6 α7 α8 α9 α10 α11 α12 α13 α14 α15 α16 α17 β : Type} {o : Option (α1 × α2 × α3 × α4 × α5 × α6 × α7 × α8 × α9 × α10 × α11 × α12 × α13 × α14 × α15 × α16 × α17)} {k : α1 → α2 → α3 → α4 → α5 → α6 → α7 → α8 → α9 → α10 → α11 → α12 → α13 → α14 → α15 → α16 → α17 → Option β} {Q : α1 × α2 × α3 × α4 × α5 × α6 × α7 × α8 × α9 × α10 × α11 × α12 × α13 × α14 × α15 × α16 × α17 → Prop} {P : β → Prop} (h : WP o Q) (hk : ∀ x1 x2 x3 x4 x5 x6 x7 x8 x9 x10 x11 x12 x13 x14 x15 x16 x17, Q (x1, x2, x3, x4, x5, x6, x7, x8, x9, x10, x11, x12, x13, x14, x15, x16, x17) → WP (k x1 x2 x3 x4 x5 x6 x7 x8 x9 x10 x11 x12 x13 x14 x15 x16 x17) P) : WP (b17 o k) P := by
  obtain ⟨a, rfl, h2⟩ := h
  exact hk a.1 a.2.1 a.2.2.1 a.2.2.2.1 a.2.2.2.2.1 a.2.2.2.2.2.1 a.2.2.2.2.2.2.1 a.2.2.2.2.2.2.2.1 a.2.2.2.2.2.2.2.2.1 a.2.2.2.2.2.2.2.2.2.1 a.2.2.2.2.2.2.2.2.2.2.1 a.2.2.2.2.2.2.2.2.2.2.2.1 a.2.2.2.2.2.2.2.2.2.2.2.2.1 a.2.2.2.2.2.2.2.2.2.2.2.2.2.1 a.2.2.2.2.2.2.2.2.2.2.2.2.2.2.1 a.2.2.2.2.2.2.2.2.2.2.2.2.2.2.2.1 a.2.2.2.2.2.2.2.2.2.2.2.2.2.2.2.2 h2
theorem wp_b18 {α1 α2 α3 α4 α5 α6 α7 α8 α9 α10 α11 α12 α13 α14 α15 α16 α17 α18 β : Type} {o : Option (α1 × α2 × α3 × α4 × α5 × α6 × α7 × α8 × α9 × α10 × α11 × α12 × α13 × α14 × α15 × α16 × α17 × α18)} {k : α1 → α2 → α3 → α4 → α5 → α6 → α7 → α8 → α9 → α10 → α11 → α12 → α13 → α14 → α15 → α16 → α17 → α18 → Option β} {Q : α1 × α2 × α3 × α4 × α5 × α6 × α7 × α8 × α9 × α10 × α11 × α12 × α13 × α14 × α15 × α16 × α17 × α18 → Prop} {P : β → Prop} (h : WP o Q) (hk : ∀ x1 x2 x3 x4 x5 x6 x7 x8 x9 x10 x11 x12 x13 x14 x15 x16 x17 x18, Q (x1, x2, x3, x4, x5, x6, x7, x8, x9, x10, x11, x12, x13, x14, x15, x16, x17, x18) → WP (k x1 x2 x3 x4 x5 x6 x7 x8 x9 x10 x11 x12 x13 x14 x15 x16 x17 x18) P) : WP (b18 o k) P := by
  obtain ⟨a, rfl, h2⟩ := h
  exact hk a.1 a.2.1 a.2.2.1 a.2.2.2.1 a.2.2.2.2.1 a.2.2.2.2.2.1 a.2.2.2.2.2.2.1 a.2.2.2.2.2.2.2.1 a.2.2.2.2.2.2.2.2.1 a.2.2.2.2.2.2.2.2.2.1 a.2.2.2.2.2.2.2.2.2.2.1 a.2.2.2.2.2.2.2.2.2.2.2.1 a.2.2.2.2.2.2.2.2.2.2.2.2.1 a.2.2.2.2.2.2.2.2.2.2.2.2.2.1 a.2.2.2.2.2.2.2.2.2.2.2.2.2.2.1 a.2.2.2.2.2.2.2.2.2.2.2.2.2.2.2.1 a.2.2.2.2.2.2.2.2.2.2.2.2.2.2.2.2.1 a.2.2.2.2.2.2.2.2.2.2.2.2.2.2.2.2.2 h2
theorem wp_b19 {α1 α2 α3 α4 α5 α6 α7 α8 α9 α10 α11 α12 α13 α14 α15 α16 α17 α18 α19 β : Type} {o : Option (α1 × α2 × α3 × α4 × α5 × α6 × α7 × α8 × α9 × α10 × α11 × α12 × α13 × α14 × α15 × α16 × α17 × α18 × α19)} {k : α1 → α2 → α3 → α4 → α5 → α6 → α7 → α8 → α9 → α10 → α11 → α12 → α13 → α14 → α15 → α16 → α17 → α18 → α19 → Option β} {Q : α1 × α2 × α3 × α4 × α5 × α6 × α7 × α8 × α9 × α10 × α11 × α12 × α13 × α14 × α15 × α16 × α17 × α18 × α19 → Prop} {P : β → Prop} (h : WP o Q) (hk : ∀ x1 x2 x3 x4 x5 x6 x7 x8 x9 x10 x11 x12 x13 x14 x15 x16 x17 x18 x19, Q (x1, x2, x3, x4, x5, x6, x7, x8, x9, x10, x11, x12, x13, x14, x15, x16, x17, x18, x19) → WP (k x1 x2 x3 x4 x5 x6 x7 x8 x9 x10 x11 x12 x13 x14 x15 x16 x17 x18 x19) P) : WP (b19 o k) P := by
  obtain ⟨a, rfl, h2⟩ := h
  exact hk a.1 a.2.1 a.2.2.1 a.2.2.2.1 a.2.2.2.2.1 a.2.2.2.2.2.1 a.2.2.2.2.2.2.1 a.2.2.2.2.2.2.2.1 a.2.2.2.2.2.2.2.2.1 a.2.2.2.2.2.2.2.2.2.1 a.2.2.2.2.2.2.2.2.2.2.1 a.2.2.2.2.2.2.2.2.2.2.2.1 a.2.2.2.2.2.2.2.2.2.2.2.2.1 a.2.2.2.2.2.2.2.2.2.2.2.2.2.1 a.2.2.2.2.2.2.2.2.2.2.2.2.2.2.1 a.2.2.2.2.2.2.2.2.2.2.2.2.2.2.2.1 a.2.2.2.2.2.2.2.2.2.2.2.2.2.2.2.2.1 a.2.2.2.2.2.2.2.2.2.2.2.2.2.2.2.2.2.1 a.2.2.2.2.2.2.2.2.2.2.2.2.2.2.2.2.2.2 h2
theorem wp_b20 {α1 α2 α3 α4 α5 α6 α7 α8 α9 α10 α11 α12 α13 α14 α15 α16 α17 α18 α19 α20 β : Type} {o : Option (α1 × α2 × α3 × α4 × α5 × α6 × α7 × α8 × α9 × α10 × α11 × α12 × α13 × α14 × α15 × α16 × α17 × α18 × α19 × α20)} {k : α1 → α2 → α3 → α4 → α5 → α6 → α7 → α8 → α9 → α10 → α11 → α12 → α13 → α14 → α15 → α16 → α17 → α18 → α19 → α20 → Option β} {Q : α1 × α2 × α3 × α4 × α5 × α6 × α7 × α8 × α9 × α10 × α11 × α12 × α13 × α14 × α15 × α16 × α17 × α18 × α19 × α20 → Prop} {P : β → Prop} (h : WP o Q) (hk : ∀ x1 x2 x3 x4 x5 x6 x7 x8 x9 x10 x11 x12 x13 x14 x15 x16 x17 x18 x19 x20, Q (x1, x2, x3, x4, x5, x6, x7, x8, x9, x10, x11, x12, x13, x14, x15, x16, x17, x18, x19, x20) → WP (k x1 x2 x3 x4 x5 x6 x7 x8 x9 x10 x11 x12 x13 x14 x15 x16 x17 x18 x19 x20) P) : WP (b20 o k) P := by
  obtain ⟨a, rfl, h2⟩ := h
  exact hk a.1 a.2.1 a.2.2.1 a.2.2.2.1 a.2.2.2.2.1 a.2.2.2.2.2.1 a.2.2.2.2.2.2.1 a.2.2.2.2.2.2.2.1 a.2.2.2.2.2.2.2.2.1 a.2.2.2.2.2.2.2.2.2.1 a.2.2.2.2.2.2.2.2.2.2.1 a.2.2.2.2.2.2.2.2.2.2.2.1 a.2.2.2.2.2.2.2.2.2.2.2.2.1 a.2.2.2.2.2.2.2.2.2.2.2.2.2.1 a.2.2.2.2.2.2.2.2.2.2.2.2.2.2.1 a.2.2.2.2.2.2.2.2.2.2.2.2.2.2.2.1 a.2.2.2.2.2.2.2.2.2.2.2.2.2.2.2.2.1 a.2.2.2.2.2.2.2.2.2.2.2.2.2.2.2.2.2.1 a.2.2.2.2.2.2.2.2.2.2.2.2.2.2.2.2.2.2.1 a.2.2.2.2.2.2.2.2.2.2.2.2.2.2.2.2.2.2.2 h2
theorem wp_b21 {α1 α2 α3 α4 α5 α6 α7 α8 α9 α10 α11 α12 α13 α14 α15 α16 α17 α18 α19 α20 α21 β : Type} {o : Option (α1 × α2 × α3 × α4 × α5 × α6 × α7 × α8 × α9 × α10 × α11 × α12 × α13 × α14 × α15 × α16 × α17 × α18 × α19 × α20 × α21)} {k : α1 → α2 → α3 → α4 → α5 → α6 → α7 → α8 → α9 → α10 → α11 → α12 → α13 → α14 → α15 → α16 → α17 → α18 → α19 → α20 → α21 → Option β} {Q : α1 × α2 × α3 × α4 × α5 × α6 × α7 × α8 × α9 × α10 × α11 × α12 × α13 × α14 × α15 × α16 × α17 × α18 × α19 × α20 × α21 → Prop} {P : β → Prop} (h : WP o Q) (hk : ∀ x1 x2 x3 x4 x5 x6 x7 x8 x9 x10 x11 x12 x13 x14 x15 x16 x17 x18 x19 x20 x21, Q (x1, x2, x3, x4, x5, x6, x7, x8, x9, x10, x11, x12, x13, x14, x15, x16, x17, x18, x19, x20, x21) → WP (k x1 x2 x3 x4 x5 x6 x7 x8 x9 x10 x11 x12 x13 x14 x15 x16 x17 x18 x19 x20 x21) P) : WP (b21 o k) P := by
  obtain ⟨a, rfl, h2⟩ := h
  exact hk a.1 a.2.1 a.2.2.1 a.2.2.2.1 a.2.2.2.2.1 a.2.2.2.2.2.1 a.2.2.2.2.2.2.1 a.2.2.2.2.2.2.2.1 a.2.2.2.2.2.2.2.2.1 a.2.2.2.2.2.2.2.2.2.1 a.2.2.2.2.2.2.2.2.2.2.1 a.2.2.2.2.2.2.2.2.2.2.2.1 a.2.2.2.2.2.2.2.2.2.2.2.2.1 a.2.2.2.2.2.2.2.2.2.2.2.2.2.1 a.2.2.2.2.2.2.2.2.2.2.2.2.2.2.1 a.2.2.2.2.2.2.2.2.2.2.2.2.2.2.2.1 a.2.2.2.2.2.2.2.2.2.2.2.2.2.2.2.2.1 a.2.2.2.2.2.2.2.2.2.2.2.2.2.2.2.2.2.1 a.2.2.2.2.2.2.2.2.2.2.2.2.2.2.2.2.2.2.1 a.2.2.2.2.2.2.2.2.2.2.2.2.2.2.2.2.2.2.2.1 a.2.2.2.2.2.2.2.2.2.2.2.2.2.2.2.2.2.2.2.2 h2
theorem wp_b22 {α1 α2 α3 α4 α5 α6 α7 α8 α9 α10 α11 α12 α13 α14 α15 α16 α17 α18 α19 α20 α21 α22 β : Type} {o : Option (α1 × α2 × α3 × α4 × α5 × α6 × α7 × α8 × α9 × α10 × α11 × α12 × α13 × α14 × α15 × α16 × α17 × α18 × α19 × α20 × α21 × α22)} {k : α1 → α2 → α3 → α4 → α5 → α6 → α7 → α8 → α9 → α10 → α11 → α12 → α13 → α14 → α15 → α16 → α17 → α18 → α19 → α20 → α21 → α22 → Option β} {Q : α1 × α2 × α3 × α4 × α5 × α6 × α7 × α8 × α9 × α10 × α11 × α12 × α13 × α14 × α15 × α16 × α17 × α18 × α19 × α20 × α21 × α22 → Prop} {P : β → Prop} (h : WP o Q) (hk : ∀ x1 x2 x3 x4 x5 x6 x7 x8 x9 x10 x11 x12 x13 x14 x15 x16 x17 x18 x19 x20 x21 x22, Q (x1, x2, x3, x4, x5, x6, x7, x8, x9, x10, x11, x12, x13, x14, x15, x16, x17, x18, x19, x20, x21, x22) → WP (k x1 x2 x3 x4 x5 x6 x7 x8 x9 x10 x11 x12 x13 x14 x15 x16 x17 x18 x19 x20 x21 x22) P) : WP (b22 o k) P := by
  obtain ⟨a, rfl, h2⟩ := h
  exact hk a.1 a.2.1 a.2.2.1 a.2.2.2.1 a.2.2.2.2.1 a.2.2.2.2.2.1 a.2.2.2.2.2.2.1 a.2.2.2.2.2.2.2.1 a.2.2.2.2.2.2.2.2.1 a.2.2.2.2.2.2.2.2.2.1 a.2.2.2.2.2.2.2.2.2.2.1 a.2.2.2.2.2.2.2.2.2.2.2.1 a.2.2.2.2.2.2.2.2.2.2.2.2.1 a.2.2.2.2.2.2.2.2.2.2.2.2.2.1 a.2.2.2.2.2.2.2.2.2.2.2.2.2.2.1 a.2.2.2.2.2.2.2.2.2.2.2.2.2.2.2.1 a.2.2.2.2.2.2.2.2.2.2.2.2.2.2.2.2.1 a.2.2.2.2.2.2.2.2.2.2.2.2.2.2.2.2.2.1 a.2.2.2.2.2.2.2.2.2.2.2.2.2.2.2.2.2.2.1 a.2.2.2.2.2.2.2.2.2.2.2.2.2.2.2.2.2.2.2.1 a.2.2.2.2.2.2.2.2.2.2.2.2.2.2.2.2.2.2.2.2.1 a.2.2.2.2.2.2.2.2.2.2.2.2.2.2.2.2.2.2.2.2.2 h2
theorem wp_b23 {α1 α2 α3 α4 α5 α6 α7 α8 α9 α10 α11 α12 α13 α14 α15 α16 α17 α18 α19 α20 α21 α22 α23 β : Type} {o : Option (α1 × α2 × α3 × α4 × α5 × α6 × α7 × α8 × α9 × α10 × α11 × α12 × α13 × α14 × α15 × α16 × α17 × α18 × α19 × α20 × α21 × α22 × α23)} {k : α1 → α2 → α3 → α4 → α5 → α6 → α7 → α8 → α9 → α10 → α11 → α12 → α13 → α14 → α15 → α16 → α17 → α18 → α19 → α20 → α21 → α22 → α23 → Option β} {Q : α1 × α2 × α3 × α4 × α5 × α6 × α7 × α8 × α9 × α10 × α11 × α12 × α13 × α14 × α15 × α16 × α17 × α18 × α19 × α20 × α21 × α22 × α23 → Prop} {P : β → Prop} (h : WP o Q) (hk : ∀ x1 x2 x3 x4 x5 x6 x7 x8 x9 x10 x11 x12 x13 x14 x15 x16 x17 x18 x19 x20 x21 x22 x23, Q (x1, x2, x3, x4, x5, x6, x7, x8, x9, x10, x11, x12, x13, x14, x15, x16, x17, x18, x19, x20, x21, x22, x23) → WP (k x1 x2 x3 x4 x5 x6 x7 x8 x9 x10 x11 x12 x13 x14 x15 x16 x17 x18 x19 x20 x21 x22 x23) P) : WP (b23 o k) P := by
  obtain ⟨a, rfl, h2⟩ := h
  exact hk a.1 a.2.1 a.2.2.1 a.2.2.2.1 a.2.2.2.2.1 a.2.2.2.2.2.1 a.2.2.2.2.2.2.1 a.2.2.2.2.2.2.2.1 a.2.2.2.2.2.2.2.2.1 a.2.2.2.2.2.2.2.2.2.1 a.2.2.2.2.2.2.2.2.2.2.1 a.2.2.2.2.2.2.2.2.2.2.2.1 a.2.2.2.2.2.2.2.2.2.2.2.2.1 a.2.2.2.2.2.2.2.2.2.2.2.2.2.1 a.2.2.2.2.2.2.2.2.2.2.2.2.2.2.1 a.2.2.2.2.2.2.2.2.2.2.2.2.2.2.2.1 a.2.2.2.2.2.2.2.2.2.2.2.2.2.2.2.2.1 a.2.2.2.2.2.2.2.2.2.2.2.2.2.2.2.2.2.1 a.2.2.2.2.2.2.2.2.2.2.2.2.2.2.2.2.2.2.1 a.2.2.2.2.2.2.2.2.2.2.2.2.2.2.2.2.2.2.2.1 a.2.2.2.2.2.2.2.2.2.2.2.2.2.2.2.2.2.2.2.2.1 a.2.2.2.2.2.2.2.2.2.2.2.2.2.2.2.2.2.2.2.2.2.1 a.2.2.2.2.2.2.2.2.2.2.2.2.2.2.2.2.2.2.2.2.2.2 h2
theorem wp_b24 {α1 α2 α3 α4 α5 α6 α7 α8 α9 α10 α11 α12 α13 α14 α15 α16 α17 α18 α19 α20 α21 α22 α23 α24 β : Type} {o : Option (α1 × α2 × α3 × α4 × α5 × α6 × α7 × α8 × α9 × α10 × α11 × α12 × α13 × α14 × α15 × α16 × α17 × α18 × α19 × α20 × α21 × α22 × α23 × α24)} {k : α1 → α2 → α3 → α4 → α5 → α6 → α7 → α8 → α9 → α10 → α11 → α12 → α13 → α14 → α15 → α16 → α17 → α18 → α19 → α20 → α21 → α22 → α23 → α24 → Option β} {Q : α1 × α2 × α3 × α4 × α5 × α6 × α7 × α8 × α9 × α10 × α11 × α12 × α13 × α14 × α15 × α16 × α17 × α18 × α19 × α20 × α21 × α22 × α23 × α24 → Prop} {P : β → Prop} (h : WP o Q) (hk : ∀ x1 x2 x3 x4 x5 x6 x7 x8 x9 x10 x11 x12 x13 x14 x15 x16 x17 x18 x19 x20 x21 x22 x23 x24, Q (x1, x2, x3, x4, x5, x6, x7, x8, x9, x10, x11, x12, x13, x14, x15, x16, x17, x18, x19, x20, x21, x22, x23, x24) → WP (k x1 x2 x3 x4 x5 x6 x7 x8 x9 x10 x11 x12 x13 x14 x15 x16 x17 x18 x19 x20 x21 x22 x23 x24) P) : WP (b24 o k) P := by
  obtain ⟨a, rfl, h2⟩ := h
  exact hk a.1 a.2.1 a.2.2.1 a.2.2.2.1 a.2.2.2.2.1 a.2.2.2.2.2.1 a.2.2.2.2.2.2.1 a.2.2.2.2.2.2.2.1 a.2.2.2.2.2.2.2.2.1 a.2.2.2.2.2.2.2.2.2.1 a.2.2.2.2.2.2.2.2.2.2.1 a.2.2.2.2.2.2.2.2.2.2.2.1 a.2.2.2.2.2.2.2.2.2.2.2.2.1 a.2.2.2.2.2.2.2.2.2.2.2.2.2.1 a.2.2.2.2.2.2.2.2.2.2.2.2.2.2.1 a.2.2.2.2.2.2.2.2.2.2.2.2.2.2.2.1 a.2.2.2.2.2.2.2.2.2.2.2.2.2.2.2.2.1 a.2.2.2.2.2.2.2.2.2.2.2.2.2.2.2.2.2.1 a.2.2.2.2.2.2.2.2.2.2.2.2.2.2.2.2.2.2.1 a.2.2.2.2.2.2.2.2.2.2.2.2.2.2.2.2.2.2.2.1 a.2.2.2.2.2.2.2.2.2.2.2.2.2.2.2.2.2.2.2.2.1 a.2.2.2.2.2.2.2.2.2.2.2.2.2.2.2.2.2.2.2.2.2.1 a.2.2.2.2.2.2.2.2.2.2.2.2.2.2.2.2.2.2.2.2.2.2.1 a.2.2.2.2.2.2.2.2.2.2.2.2.2.2.2.2.2.2.2.2.2.2.2 h2
theorem wp_b25 {α1 α2 α3 α4 α5 α6 α7 α8 α9 α10 α11 α12 α13 α14 α15 α16 α17 α18 α19 α20 α21 α22 α23 α24 α25 β : Type} {o : Option (α1 × α2 × α3 × α4 × α5 × α6 × α7 × α8 × α9 × α10 × α11 × α12 × α13 × α14 × α15 × α16 × α17 × α18 × α19 × α20 × α21 × α22 × α23 × α24 × α25)} {k : α1 → α2 → α3 → α4 → α5 → α6 → α7 → α8 → α9 → α10 → α11 → α12 → α13 → α14 → α15 → α16 → α17 → α18 → α19 → α20 → α21 → α22 → α23 → α24 → α25 → Option β} {Q : α1 × α2 × α3 × α4 × α5 × α6 × α7 × α8 × α9 × α10 × α11 × α12 × α13 × α14 × α15 × α16 × α17 × α18 × α19 × α20 × α21 × α22 × α23 × α24 × α25 → Prop} {P : β → Prop} (h : WP o Q) (hk : ∀ x1 x2 x3 x4 x5 x6 x7 x8 x9 x10 x11 x12 x13 x14 x15 x16 x17 x18 x19 x20 x21 x22 x23 x24 x25, Q (x1, x2, x3, x4, x5, x6, x7, x8, x9, x10, x11, x12, x13, x14, x15, x16, x17, x18, x19, x20, x21, x22, x23, x24, x25) → WP (k x1 x2 x3 x4 x5 x6 x7 x8 x9 x10 x11 x12 x13 x14 x15 x16 x17 x18 x19 x20 x21 x22 x23 x24 x25) P) : WP (b25 o k) P := by
  obtain ⟨a, rfl, h2⟩ := h
  exact hk a.1 a.2.1 a.2.2.1 a.2.2.2.1 a.2.2.2.2.1 a.2.2.2.2.2.1 a.2.2.2.2.2.2.1 a.2.2.2.2.2.2.2.1 a.2.2.2.2.2.2.2.2.1 a.2.2.2.2.2.2.2.2.2.1 a.2.2.2.2.2.2.2.2.2.2.1 a.2.2.2.2.2.2.2.2.2.2.2.1 a.2.2.2.2.2.2.2.2.2.2.2.2.1 a.2.2.2.2.2.2.2.2.2.2.2.2.2.1 a.2.2.2.2.2.2.2.2.2.2.2.2.2.2.1 a.2.2.2.2.2.2.2.2.2.2.2.2.2.2.2.1 a.2.2.2.2.2.2.2.2.2.2.2.2.2.2.2.2.1 a.2.2.2.2.2.2.2.2.2.2.2.2.2.2.2.2.2.1 a.2.2.2.2.2.2.2.2.2.2.2.2.2.2.2.2.2.2.1 a.2.2.2.2.2.2.2.2.2.2.2.2.2.2.2.2.2.2.2.1 a.2.2.2.2.2.2.2.2.2.2.2.2.2.2.2.2.2.2.2.2.1 a.2.2.2.2.2.2.2.2.2.2.2.2.2.2.2.2.2.2.2.2.2.1 a.2.2.2.2.2.2.2.2.2.2.2.2.2.2.2.2.2.2.2.2.2.2.1 a.2.2.2.2.2.2.2.2.2.2.2.2.2.2.2.2.2.2.2.2.2.2.2.1 a.2.2.2.2.2.2.2.2.2.2.2.2.2.2.2.2.2.2.2.2.2.2.2.2 h2
theorem wp_b26 {α1 α2 α3 α4 α5 α6 α7 α8 α9 α10 α11 α12 α13 α14 α15 α16 α17 α18 α19 α20 α21 α22 α23 α24 α25 α26 β : Type} {o : Option (α1 × α2 × α3 × α4 × α5 × α6 × α7 × α8 × α9 × α10 × α11 × α12 × α13 × α14 × α15 × α16 × α17 × α18 × α19 × α20 × α21 × α22 × α23 × α24 × α25 × α26)} {k : α1 → α2 → α3 → α4 → α5 → α6 → α7 → α8 → α9 → α10 → α11 → α12 → α13 → α14 → α15 → α16 → α17 → α18 → α19 → α20 → α21 → α22 → α23 → α24 → α25 → α26 → Option β} {Q : α1 × α2 × α3 × α4 × α5 × α6 × α7 × α8 × α9 × α10 × α11 × α12 × α13 × α14 × α15 × α16 × α17 × α18 × α19 × α20 × α21 × α22 × α23 × α24 × α25 × α26 → Prop} {P : β → Prop} (h : WP o Q) (hk : ∀ x1 x2 x3 x4 x5 x6 x7 x8 x9 x10 x11 x12 x13 x14 x15 x16 x17 x18 x19 x20 x21 x22 x23 x24 x25 x26, Q (x1, x2, x3, x4, x5, x6, x7, x8, x9, x10, x11, x12, x13, x14, x15, x16, x17, x18, x19, x20, x21, x22, x23, x24, x25, x26) → WP (k x1 x2 x3 x4 x5 x6 x7 x8 x9 x10 x11 x12 x13 x14 x15 x16 x17 x18 x19 x20 x21 x22 x23 x24 x25 x26) P) : WP (b26 o k) P := by
  obtain ⟨a, rfl, h2⟩ := h
  exact hk a.1 a.2.1 a.2.2.1 a.2.2.2.1 a.2.2.2.2.1 a.2.2.2.2.2.1 a.2.2.2.2.2.2.1 a.2.2.2.2.2.2.2.1 a.2.2.2.2.2.2.2.2.1 a.2.2.2.2.2.2.2.2.2.1 a.2.2.2.2.2.2.2.2.2.2.1 a.2.2.2.2.2.2.2.2.2.2.2.1 a.2.2.2.2.2.2.2.2.2.2.2.2.1 a.2.2.2.2.2.2.2.2.2.2.2.2.2.1 a.2.2.2.2.2.2.2.2.2.2.2.2.2.2.1 a.2.2.2.2.2.2.2.2.2.2.2.2.2.2.2.1 a.2.2.2.2.2.2.2.2.2.2.2.2.2.2.2.2.1 a.2.2.2.2.2.2.2.2.2.2.2.2.2.2.2.2.2.1 a.2.2.2.2.2.2.2.2.2.2.2.2.2.2.2.2.2.2.1 a.2.2.2.2.2.2.2.2.2.2.2.2.2.2.2.2.2.2.2.1 a.2.2.2.2.2.2.2.2.2.2.2.2.2.2.2.2.2.2.2.2.1 a.2.2.2.2.2.2.2.2.2.2.2.2.2.2.2.2.2.2.2.2.2.1 a.2.2.2.2.2.2.2.2.2.2.2.2.2.2.2.2.2.2.2.2.2.2.1 a.2.2.2.2.2.2.2.2.2.2.2.2.2.2.2.2.2.2.2.2.2.2.2.1 a.2.2.2.2.2.2.2.2.2.2.2.2.2.2.2.2.2.2.2.2.2.2.2.2.1 a.2.2.2.2.2.2.2.2.2.2.2.2.2.2.2.2.2.2.2.2.2.2.2.2.2 h2
theorem wp_b27 {α1 α2 α3 α4 α5 α6 α7 α8 α9 α10 α11 α12 α13 α14 α15 α16 α17 α18 α19 α20 α21 α22 α23 α24 α25 α26 α27 β : Type} {o : Option (α1 × α2 × α3 × α4 × α5 × α6 × α7 × α8 × α9 × α10 × α11 × α12 × α13 × α14 × α15 × α16 × α17 × α18 × α19 × α20 × α21 × α22 × α23 × α24 × α25 × α26 × α27)} {k : α1 → α2 → α3 → α4 → α5 → α6 → α7 → α8 → α9 → α10 → α11 → α12 → α13 → α14 → α15 → α16 → α17 → α18 → α19 → α20 → α21 → α22 → α23 → α24 → α25 → α26 → α27 → Option β} {Q : α1 × α2 × α3 × α4 × α5 × α6 × α7 × α8 × α9 × α10 × α11 × α12 × α13 × α14 × α15 × α16 × α17 × α18 × α19 × α20 × α21 × α22 × α23 × α24 × α25 × α26 × α27 → Prop} {P : β → Prop} (h : WP o Q) (hk : ∀ x1 x2 x3 x4 x5 x6 x7 x8 x9 x10 x11 x12 x13 x14 x15 x16 x17 x18 x19 x20 x21 x22 x23 x24 x25 x26 x27, Q (x1, x2, x3, x4, x5, x6, x7, x8, x9, x10, x11, x12, x13, x14, x15, x16, x17, x18, x19, x20, x21, x22, x23, x24, x25, x26, x27) → WP (k x1 x2 x3 x4 x5 x6 x7 x8 x9 x10 x11 x12 x13 x14 x15 x16 x17 x18 x19 x20 x21 x22 x23 x24 x25 x26 x27) P) : WP (b27 o k) P := by
  obtain ⟨a, rfl, h2⟩ := h
  exact hk a.1 a.2.1 a.2.2.1 a.2.2.2.1 a.2.2.2.2.1 a.2.2.2.2.2.1 a.2.2.2.2.2.2.1 a.2.2.2.2.2.2.2.1 a.2.2.2.2.2.2.2.2.1 a.2.2.2.2.2.2.2.2.2.1 a.2.2.2.2.2.2.2.2.2.2.1 a.2.2.2.2.2.2.2.2.2.2.2.1 a.2.2.2.2.2.2.2.2.2.2.2.2.1 a.2.2.2.2.2.2.2.2.2.2.2.2.2.1 a.2.2.2.2.2.2.2.2.2.2.2.2.2.2.1 a.2.2.2.2.2.2.2.2.2.2.2.2.2.2.2.1 a.2.2.2.2.2.2.2.2.2.2.2.2.2.2.2.2.1 a.2.2.2.2.2.2.2.2.2.2.2.2.2.2.2.2.2.1 a.2.2.2.2.2.2.2.2.2.2.2.2.2.2.2.2.2.2.1 a.2.2.2.2.2.2.2.2.2.2.2.2.2.2.2.2.2.2.2.1 a.2.2.2.2.2.2.2.2.2.2.2.2.2.2.2.2.2.2.2.2.1 a.2.2.2.2.2.2.2.2.2.2.2.2.2.2.2.2.2.2.2.2.2.1 a.2.2.2.2.2.2.2.2.2.2.2.2.2.2.2.2.2.2.2.2.2.2.1 a.2.2.2.2.2.2.2.2.2.2.2.2.2.2.2.2.2.2.2.2.2.2.2.1 a.2.2.2.2.2.2.2.2.2.2.2.2.2.2.2.2.2.2.2.2.2.2.2.2.1 a.2.2.2.2.2.2.2.2.2.2.2.2.2.2.2.2.2.2.2.2.2.2.2.2.2.1 a.2.2.2.2.2.2.2.2.2.2.2.2.2.2.2.2.2.2.2.2.2.2.2.2.2.2 h2
theorem wp_lp {σ β : Type} (L : Nat → Nat → σ → Option β) (n : Nat) (I : Nat → σ → Prop) (P : β → Prop)
    (step : ∀ nf i x, i < n → I i x → (∀ x', I (i + 1) x' → WP (L nf (i + 1) x') P) → WP (L (nf + 1) i x) P)
    (stop : ∀ nf x, I n x → WP (L (nf + 1) n x) P) : ∀ d nf i x, i + d = n → d < nf → I i x → WP (L nf i x) P := by
  intro d
  induction d with
  | zero =>
    intro nf i x h hf hI
    obtain rfl : i = n := by omega
    cases nf with
    | zero => omega
    | succ nf => exact stop nf x hI
  | succ d ih =>
    intro nf i x h hf hI
    cases nf with
    | zero => omega
    | succ nf => exact step nf i x (by omega) hI (fun x' h' => ih nf (i + 1) x' (by omega) (by omega) h')
theorem wp_loop {σ β : Type} (L : Nat → Nat → σ → Option β) (n : Nat) (I : Nat → σ → Prop) (P : β → Prop) (hn : n < 5000) (x0 : σ) (h0 : I 0 x0)
    (step : ∀ nf i x, i < n → I i x → (∀ x', I (i + 1) x' → WP (L nf (i + 1) x') P) → WP (L (nf + 1) i x) P)
    (stop : ∀ nf x, I n x → WP (L (nf + 1) n x) P) : WP (L FU 0 x0) P :=
  wp_lp L n I P step stop n FU 0 x0 (by omega) hn h0
theorem i_x0 (x : Int32) : ¬ (2 : Int32) = 0 := by decide
section SP
variable {K n : Nat} {bN bO bC s : Nat → Int32} {a f q w : Nat}
theorem sp_armyOf (hok : okS K n s) (hE : eqB n bN bO bC s) (ha : a < n) (hw : w < 7) : g_X4_armyOf bN bC (nI a) (nI w) = some (0, av s a w) := by
  have hS := hok.sb hE
  rw [g_X4_armyOf, has1 hS.cb ha, bd_some, if_neg t10, if_neg (nI_pos (by omega)), if_pos (show nI w < 7 from nI_lt (b := 7) (by omega) (by decide)), x0_of hS.cb ha hw, bd_some]
theorem sp_a0 (hok : okS K n s) (hE : eqB n bN bO bC s) (ha : a < n) : g_X4_armyOf bN bC (nI a) 0 = some (0, av s a 0) := sp_armyOf (w := 0) hok hE ha (by decide)
theorem sp_a1 (hok : okS K n s) (hE : eqB n bN bO bC s) (ha : a < n) : g_X4_armyOf bN bC (nI a) 1 = some (0, av s a 1) := sp_armyOf (w := 1) hok hE ha (by decide)
theorem sp_a2 (hok : okS K n s) (hE : eqB n bN bO bC s) (ha : a < n) : g_X4_armyOf bN bC (nI a) 2 = some (0, av s a 2) := sp_armyOf (w := 2) hok hE ha (by decide)
theorem sp_a3 (hok : okS K n s) (hE : eqB n bN bO bC s) (ha : a < n) : g_X4_armyOf bN bC (nI a) 3 = some (0, av s a 3) := sp_armyOf (w := 3) hok hE ha (by decide)
theorem sp_a4 (hok : okS K n s) (hE : eqB n bN bO bC s) (ha : a < n) : g_X4_armyOf bN bC (nI a) 4 = some (0, av s a 4) := sp_armyOf (w := 4) hok hE ha (by decide)
theorem isF (hf : f < 12) : g_X4_isField (nI f) = some 1 := by
  rw [g_X4_isField, if_neg (nI_pos (by omega)), past (M := 12) 12 rfl hf (by decide)]
theorem isS (hq : q < 3) : g_X4_isSeat (nI q) = some 1 := by
  rw [g_X4_isSeat, if_neg (nI_pos (by omega)), past (M := 3) 3 rfl hq (by decide)]
theorem sp_f0 (hok : okS K n s) (hE : eqB n bN bO bC s) (hf : f < 12) : g_X4_field bN bC bO (nI f) 0 = some (0, fi n fun c => av s c 1 = nI f) := by
  have hS := hok.sb hE
  rw [g_X4_field, isF hf, bd_some, if_neg t10, if_neg (show ¬ (0 : Int32) < 0 by decide), if_pos (show (0 : Int32) < 5 by decide), g_X4_fieldNumber, if_pos rfl, x0_armyOn hS.cb, bd_some, bd_some]
theorem sp_f3 (hok : okS K n s) (hE : eqB n bN bO bC s) (hf : f < 12) : g_X4_field bN bC bO (nI f) 3 = some (0, ssa (av s) (nI f) n) := by
  have hS := hok.sb hE
  rw [g_X4_field, isF hf, bd_some, if_neg t10, if_neg (show ¬ (3 : Int32) < 0 by decide), if_pos (show (3 : Int32) < 5 by decide), g_X4_fieldNumber, if_neg (show ¬ (3 : Int32) = 0 by decide), if_neg (show ¬ (3 : Int32) = 1 by decide), if_neg (show ¬ (3 : Int32) = 2 by decide), if_pos rfl, x0_seats hS.cb, bd_some, bd_some]
theorem sp_f4 (bN bC bO : Nat → Int32) (hf : f < 12) : g_X4_field bN bC bO (nI f) 4 = some (0, nm (nI f)) := by
  rw [g_X4_field, isF hf, bd_some, if_neg t10, if_neg (show ¬ (4 : Int32) < 0 by decide), if_pos (show (4 : Int32) < 5 by decide), g_X4_fieldNumber, if_neg (show ¬ (4 : Int32) = 0 by decide), if_neg (show ¬ (4 : Int32) = 1 by decide), if_neg (show ¬ (4 : Int32) = 2 by decide), if_neg (show ¬ (4 : Int32) = 3 by decide), x4_mask, bd_some, bd_some]
theorem sp_seat (hq : q < 3) {x r : Int32} (h0 : ¬ x < 0) (h5 : x < 5) (h : g_X4_seatNumber bN bC bO (nI q) x = some r) : g_X4_seat bN bC bO (nI q) x = some (0, r) := by
  rw [g_X4_seat, isS hq, bd_some, if_neg t10, if_neg h0, if_pos h5, h, bd_some]
theorem sp_s0 (hok : okS K n s) (hE : eqB n bN bO bC s) (hq : q < 3) : g_X4_seat bN bC bO (nI q) 0 = some (0, nI (num n fun c => av s c 0 = nI q)) :=
  sp_seat hq (by decide) (by decide) (by rw [g_X4_seatNumber, if_pos rfl, x0_armiesOf (hok.sb hE).cb, bd_some])
theorem sp_s1 (bN bC bO : Nat → Int32) (hq : q < 3) : g_X4_seat bN bC bO (nI q) 1 = some (0, nI (num 12 fun f => bO f = nI q)) :=
  sp_seat hq (by decide) (by decide) (by rw [g_X4_seatNumber, if_neg (show ¬ (1 : Int32) = 0 by decide), if_pos rfl, x0_centresOf, bd_some])
theorem sp_s2 (hok : okS K n s) (hE : eqB n bN bO bC s) (hq : q < 3) : g_X4_seat bN bC bO (nI q) 2 = some (0, sna (av s) (nI q) n) :=
  sp_seat hq (by decide) (by decide) (by rw [g_X4_seatNumber, if_neg (show ¬ (2 : Int32) = 0 by decide), if_neg (show ¬ (2 : Int32) = 1 by decide), if_pos rfl, x0_seen (hok.sb hE).cb, bd_some])
theorem sp_s3 (hok : okS K n s) (hE : eqB n bN bO bC s) (hq : q < 3) : g_X4_seat bN bC bO (nI q) 3 = some (0, loa (av s) (nI q) n) :=
  sp_seat hq (by decide) (by decide) (by rw [g_X4_seatNumber, if_neg (show ¬ (3 : Int32) = 0 by decide), if_neg (show ¬ (3 : Int32) = 1 by decide), if_neg (show ¬ (3 : Int32) = 2 by decide), if_pos rfl, x0_lowest (hok.sb hE).cb, bd_some])
theorem sp_cnt (sv : Int32) (bN bC : Nat → Int32) {j : Nat} (hj : j < 10) : g_X4_count sv bN bC (nI j) = some (0, bN j) := by
  rw [g_X4_count, if_neg (nI_pos (by omega)), if_pos (show nI j < 13 from nI_lt (b := 13) (by omega) (by decide)), g_X4_countNumber, past (M := 10) 10 rfl hj (by decide), x0_number hj, bd_some, bd_some]
theorem sp_c0 (sv : Int32) (bN bC : Nat → Int32) : g_X4_count sv bN bC 0 = some (0, bN 0) := sp_cnt sv bN bC (j := 0) (by decide)
theorem sp_c1 (sv : Int32) (bN bC : Nat → Int32) : g_X4_count sv bN bC 1 = some (0, bN 1) := sp_cnt sv bN bC (j := 1) (by decide)
theorem sp_c2 (sv : Int32) (bN bC : Nat → Int32) : g_X4_count sv bN bC 2 = some (0, bN 2) := sp_cnt sv bN bC (j := 2) (by decide)
theorem sp_c3 (sv : Int32) (bN bC : Nat → Int32) : g_X4_count sv bN bC 3 = some (0, bN 3) := sp_cnt sv bN bC (j := 3) (by decide)
theorem sp_c4 (sv : Int32) (bN bC : Nat → Int32) : g_X4_count sv bN bC 4 = some (0, bN 4) := sp_cnt sv bN bC (j := 4) (by decide)
theorem sp_c5 (sv : Int32) (bN bC : Nat → Int32) : g_X4_count sv bN bC 5 = some (0, bN 5) := sp_cnt sv bN bC (j := 5) (by decide)
theorem sp_c6 (sv : Int32) (bN bC : Nat → Int32) : g_X4_count sv bN bC 6 = some (0, bN 6) := sp_cnt sv bN bC (j := 6) (by decide)
theorem sp_c7 (sv : Int32) (bN bC : Nat → Int32) : g_X4_count sv bN bC 7 = some (0, bN 7) := sp_cnt sv bN bC (j := 7) (by decide)
theorem sp_c8 (sv : Int32) (bN bC : Nat → Int32) : g_X4_count sv bN bC 8 = some (0, bN 8) := sp_cnt sv bN bC (j := 8) (by decide)
theorem sp_c9 (sv : Int32) (bN bC : Nat → Int32) : g_X4_count sv bN bC 9 = some (0, bN 9) := sp_cnt sv bN bC (j := 9) (by decide)
theorem sp_c10 (sv : Int32) (hok : okS K n s) (hE : eqB n bN bO bC s) : g_X4_count sv bN bC 10 = some (0, nI (num n fun c => av s c 2 = 1)) := by
  rw [g_X4_count, if_neg (by decide), if_pos (by decide), g_X4_countNumber, if_pos (by decide), if_pos rfl, x0_ordersOf (hok.sb hE).cb, bd_some, bd_some]
theorem sp_c11 (sv : Int32) (hok : okS K n s) (hE : eqB n bN bO bC s) : g_X4_count sv bN bC 11 = some (0, nI (num n fun c => av s c 2 = 2)) := by
  rw [g_X4_count, if_neg (by decide), if_pos (by decide), g_X4_countNumber, if_pos (by decide), if_neg (by decide), if_pos rfl, x0_ordersOf (hok.sb hE).cb, bd_some, bd_some]
theorem sp_c12 (sv : Int32) (bN bC : Nat → Int32) : g_X4_count sv bN bC 12 = some (0, sv) := by
  rw [g_X4_count, if_neg (by decide), if_pos (by decide), g_X4_countNumber, if_pos (by decide), if_neg (by decide), if_neg (by decide), g_X1_size, bd_some, bd_some]
theorem okS.n0 (hok : okS K n s) (hE : eqB n bN bO bC s) : bN 0 = nI n := hE.1.trans hok.2.1
/-- what would be, whatever the rows of the study held -/
theorem wp_ifO {β : Type} {k : Int32 → Int32 → (Nat → Int32) → (Nat → Int32) → (Nat → Int32) → (Nat → Int32) → (Nat → Int32) → (Nat → Int32) → (Nat → Int32) → Option β} {P : β → Prop} (hok : okS K n s) (hE : eqB n bN bO bC s) (ha : a < n) (hw : w < 6) {c1 c2 c3 c4 c5 c6 c7 : Nat → Int32}
    (hk : ∀ d1 d2 d3 d4 d5 d6 d7, WP (k 0 (outS n (av s) a w) d1 d2 d3 d4 d5 d6 d7) P) : WP (b9 (g_X4_ifOpened bN bC c1 c2 c3 c4 c5 c6 c7 (nI a) (nI w)) k) P := by
  have hS := hok.sb hE
  obtain ⟨cu, co, st, re, dr, wa, sd, g1, g2⟩ := x2_study hS.cb hok.d c1 c2 c3 c4 c5 c6 c7
  have e : g_X4_ifOpened bN bC c1 c2 c3 c4 c5 c6 c7 (nI a) (nI w) = some (0, outS n (av s) a w, cu, co, st, re, dr, wa, sd) := by
    rw [g_X4_ifOpened, has1 hS.cb ha, bd_some, if_neg t10, if_neg (nI_pos (by omega)), if_pos (show nI w < 6 from nI_lt (b := 6) (by omega) (by decide)), g1, b7_some, x2_outc hok.1 ha (by omega) g2, bd_some]
  rw [e, b9_some]
  exact hk _ _ _ _ _ _ _
theorem wp_danger {β : Type} {k : Int32 → (Nat → Int32) → (Nat → Int32) → (Nat → Int32) → (Nat → Int32) → (Nat → Int32) → (Nat → Int32) → (Nat → Int32) → Option β} {P : β → Prop} (hok : okS K n s) (hE : eqB n bN bO bC s) {c1 c2 c3 c4 c5 c6 c7 : Nat → Int32}
    (hk : ∀ d1 d2 d3 d4 d5 d6 d7, WP (k (mx n (drv n (av s)) (dsN n (av s))) d1 d2 d3 d4 d5 d6 d7) P) : WP (b8 (g_X4_danger bN bC c1 c2 c3 c4 c5 c6 c7) k) P := by
  have hS := hok.sb hE
  obtain ⟨cu, co, st, re, dr, wa, sd, g1, g2⟩ := x2_study hS.cb hok.d c1 c2 c3 c4 c5 c6 c7
  have e : g_X4_danger bN bC c1 c2 c3 c4 c5 c6 c7 = some (mx n (drv n (av s)) (dsN n (av s)), cu, co, st, re, dr, wa, sd) := by
    rw [g_X4_danger, g1, b7_some, x2_danger hS.cb (fun o ho => (g2 o ho).2.2.1) (fun o ho => (g2 o ho).2.2.2.2.1), bd_some]
  rw [e, b8_some]
  exact hk _ _ _ _ _ _ _
/-- how many centres would belong to a seat -/
noncomputable def cthN (n : Nat) (v : Nat → Nat → Int32) (bO : Nat → Int32) (x : Int32) : Nat := num 12 fun f => f % 3 = 0 ∧ owT n v (pfS n v) bO f = x
theorem owT_c {v : Nat → Nat → Int32} {sd sd' bO : Nat → Int32} (h : ∀ a, a < n → sd a = sd' a) : owT n v sd bO f = owT n v sd' bO f := by
  unfold owT
  rw [fi_c (P := fun a => sd a = nI f) (Q := fun a => sd' a = nI f) (fun c hc => by rw [h c hc])]
theorem wp_ifY {β : Type} {k : Int32 → Int32 → (Nat → Int32) → (Nat → Int32) → (Nat → Int32) → (Nat → Int32) → (Nat → Int32) → (Nat → Int32) → (Nat → Int32) → Option β} {P : β → Prop} (hok : okS K n s) (hE : eqB n bN bO bC s) (hq : q < 3) {c1 c2 c3 c4 c5 c6 c7 : Nat → Int32}
    (hk : ∀ d1 d2 d3 d4 d5 d6 d7, WP (k 0 (nI (cthN n (av s) bO (nI q))) d1 d2 d3 d4 d5 d6 d7) P) : WP (b9 (g_X4_ifYear bN bC c1 c2 c3 c4 c5 c6 c7 bO (nI q)) k) P := by
  have hS := hok.sb hE
  obtain ⟨cu, co, st, re, dr, wa, sd, g1, g2⟩ := x2_study hS.cb hok.d c1 c2 c3 c4 c5 c6 c7
  have e : g_X4_ifYear bN bC c1 c2 c3 c4 c5 c6 c7 bO (nI q) = some (0, nI (cthN n (av s) bO (nI q)), cu, co, st, re, dr, wa, sd) := by
    rw [g_X4_ifYear, isS hq, bd_some, if_neg t10, g1, b7_some, x2_centT hS.cb, bd_some]
    unfold cthN
    rw [num_c (P := fun f => f % 3 = 0 ∧ owT n (av s) sd bO f = nI q) (Q := fun f => f % 3 = 0 ∧ owT n (av s) (pfS n (av s)) bO f = nI q) (fun f _ => by rw [owT_c (fun a ha => (g2 a ha).2.2.2.2.2)])]
  rw [e, b9_some]
  exact hk _ _ _ _ _ _ _
end SP
