/-! what class and reference have in common: K calls made so far -/
def adjN (f t : Nat) : Prop := (f < t ∧ (t - f = 1 ∨ t - f = 4 ∨ t - f = 8 ∨ t - f = 11)) ∨ (t < f ∧ (f - t = 1 ∨ f - t = 4 ∨ f - t = 8 ∨ f - t = 11))
/-- the numbers of an army, as the reference's row has them -/
def av (s : Nat → Int32) (a w : Nat) : Int32 := s (14 + 7 * a + w)
def okA (s : Nat → Int32) (a : Nat) : Prop := (∃ q, q < 3 ∧ av s a 0 = nI q) ∧ ∃ f, f < 12 ∧ av s a 1 = nI f ∧
  ((av s a 2 = 0 ∧ av s a 3 = -1 ∧ av s a 4 = -1) ∨ (av s a 2 = 1 ∧ (∃ t, t < 12 ∧ av s a 3 = nI t ∧ adjN f t) ∧ av s a 4 = -1) ∨ (av s a 2 = 2 ∧ (∃ t, t < 12 ∧ av s a 3 = nI t ∧ adjN f t) ∧ ∃ g, g < 12 ∧ av s a 4 = nI g))
def okO (x : Int32) : Prop := x = -1 ∨ x = 0 ∨ x = 1 ∨ x = 2
/-- the reference's row alone is in order -/
def okS (K n : Nat) (s : Nat → Int32) : Prop := n ≤ 9 ∧ s 9 = nI n ∧ (s 1 = 0 ∨ s 1 = 1) ∧ (∃ a b, a ≤ 9 * K ∧ b ≤ 9 * K ∧ s 3 = nI a ∧ s 4 = nI b) ∧ (∀ k, k < 4 → okO (s (10 + k))) ∧ (∀ a, a < n → okA s a) ∧ ∀ a b, a < n → b < n → av s a 1 = av s b 1 → a = b
/-- the class's board shows the reference's row -/
def eqB (n : Nat) (bN bO bC s : Nat → Int32) : Prop := bN 0 = s 9 ∧ (∀ k, k < 9 → bN (k + 1) = s k) ∧ (∀ k, k < 4 → bO (3 * k) = s (10 + k)) ∧ (∀ f, f < 12 → ¬ f % 3 = 0 → bO f = -1) ∧ ∀ a w, a < n → w < 7 → bC (7 * a + w) = av s a w
def RB (K : Nat) (bN bO bC s : Nat → Int32) : Prop := ∃ n, okS K n s ∧ eqB n bN bO bC s
def RH (K : Nat) (oldest saved : Int32) (hN hO hC : Nat → Nat → Int32) (ss : Nat → Int32) (sm : Int32) : Prop := ∃ o m, o < 6 ∧ m ≤ 6 ∧ oldest = nI o ∧ saved = nI m ∧ sm = nI m ∧ ∀ k, k < m → RB K (hN ((o + k) % 6)) (hO ((o + k) % 6)) (hC ((o + k) % 6)) (fun j => ss (77 * k + j))
def RSn (K : Nat) (has : Int32) (sN sO sC : Nat → Int32) (snap : Nat → Int32) (kept : Int32) : Prop := (has = 0 ∧ kept = 0) ∨ (has = 1 ∧ kept = 1 ∧ RB K sN sO sC snap)
def RT (codes : Nat → Int32) (len : Int32) (text : Nat → Int32) (tl : Int32) : Prop := ∃ m, m ≤ 60 ∧ len = nI m ∧ tl = nI m ∧ ∀ j, j < m → codes j = text j ∧ ∃ c, 33 ≤ c ∧ c ≤ 126 ∧ text j = nI c
def RR (K : Nat) (bN bO bC : Nat → Int32) (oldest saved : Int32) (hN hO hC : Nat → Nat → Int32) (has : Int32) (sN sO sC codes : Nat → Int32) (len : Int32) (s ss : Nat → Int32) (sm : Int32) (snap : Nat → Int32) (kept : Int32) (text : Nat → Int32) (tl : Int32) : Prop := RB K bN bO bC s ∧ RH K oldest saved hN hO hC ss sm ∧ RSn K has sN sO sC snap kept ∧ RT codes len text tl























