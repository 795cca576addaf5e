/-! what every module here uses: guards of the pure pictures, the standing words, calls and array rows in one step each -/
def FU : Nat := 5000
def rdA {α : Type} (f : Nat → Int32) (n : Nat) (i : Int32) (k : Int32 → Option α) : Option α := if i < 0 ∨ n ≤ i.toNatClampNeg then none else k (f i.toNatClampNeg)
def wrA {α : Type} (f : Nat → Int32) (n : Nat) (i x : Int32) (k : (Nat → Int32) → Option α) : Option α := if i < 0 ∨ n ≤ i.toNatClampNeg then none else k (upd f i.toNatClampNeg x)
theorem rdA_ex {α : Type} {f : Nat → Int32} {n : Nat} {i : Int32} {k : Int32 → Option α} {x : α} (h : rdA f n i k = some x) : ∃ v, vp_in i n ∧ f i.toNatClampNeg = v ∧ k v = some x := by
  unfold rdA at h
  by_cases c : i < 0 ∨ n ≤ i.toNatClampNeg
  · rw [if_pos c] at h; cases h
  · rw [if_neg c] at h; exact ⟨_, c, rfl, h⟩
theorem wrA_ex {α : Type} {f : Nat → Int32} {n : Nat} {i y : Int32} {k : (Nat → Int32) → Option α} {x : α} (h : wrA f n i y k = some x) : ∃ v, vp_in i n ∧ upd f i.toNatClampNeg y = v ∧ k v = some x := by
  unfold wrA at h
  by_cases c : i < 0 ∨ n ≤ i.toNatClampNeg
  · rw [if_pos c] at h; cases h
  · rw [if_neg c] at h; exact ⟨_, c, rfl, h⟩
def ndA {α : Type} (x : UInt64) (k : UInt64 → Option α) : Option α := if x &&& 0x7fffffffffffffff ≤ 0x7ff0000000000000 then k x else none
theorem ndA_ex {α : Type} {x : UInt64} {k : UInt64 → Option α} {y : α} (h : ndA x k = some y) : ∃ v, vf_n64 x ∧ x = v ∧ k v = some y := by
  unfold ndA at h
  by_cases c : x &&& 0x7fffffffffffffff ≤ 0x7ff0000000000000
  · rw [if_pos c] at h; exact ⟨x, c, rfl, h⟩
  · rw [if_neg c] at h; cases h
theorem bind_ex {α β : Type} {o : Option α} {k : α → Option β} {x : β} (h : o.bind k = some x) : ∃ v, o = some v ∧ k v = some x := by
  cases o with
  | none => cases h
  | some v => exact ⟨v, rfl, h⟩
theorem if_yes {α : Type} {c : Prop} {i : Decidable c} {a b x : α} (h : (@ite α c i a b) = x) (hc : c) : a = x := by rw [if_pos hc] at h; exact h
theorem if_no {α : Type} {c : Prop} {i : Decidable c} {a b x : α} (h : (@ite α c i a b) = x) (hc : ¬ c) : b = x := by rw [if_neg hc] at h; exact h
theorem no_some {α : Type} {P : Prop} {x : α} (h : (none : Option α) = some x) : P := by cases h
def b2 {α1 α2 β : Type} (o : Option (α1 × α2)) (k : α1 → α2 → Option β) : Option β := o.bind (fun x => k x.1 x.2)
theorem b2_ex {α1 α2 β : Type} {o : Option (α1 × α2)} {k : α1 → α2 → Option β} {y : β} (h : b2 o k = some y) : ∃ x1 x2, o = some (x1, x2) ∧ k x1 x2 = some y := by
  cases o with
  | none => cases h
  | some v => exact ⟨v.1, v.2, rfl, h⟩
def b3 {α1 α2 α3 β : Type} (o : Option (α1 × α2 × α3)) (k : α1 → α2 → α3 → Option β) : Option β := o.bind (fun x => k x.1 x.2.1 x.2.2)
theorem b3_ex {α1 α2 α3 β : Type} {o : Option (α1 × α2 × α3)} {k : α1 → α2 → α3 → Option β} {y : β} (h : b3 o k = some y) : ∃ x1 x2 x3, o = some (x1, x2, x3) ∧ k x1 x2 x3 = some y := by
  cases o with
  | none => cases h
  | some v => exact ⟨v.1, v.2.1, v.2.2, rfl, h⟩
def b4 {α1 α2 α3 α4 β : Type} (o : Option (α1 × α2 × α3 × α4)) (k : α1 → α2 → α3 → α4 → Option β) : Option β := o.bind (fun x => k x.1 x.2.1 x.2.2.1 x.2.2.2)
theorem b4_ex {α1 α2 α3 α4 β : Type} {o : Option (α1 × α2 × α3 × α4)} {k : α1 → α2 → α3 → α4 → Option β} {y : β} (h : b4 o k = some y) : ∃ x1 x2 x3 x4, o = some (x1, x2, x3, x4) ∧ k x1 x2 x3 x4 = some y := by
  cases o with
  | none => cases h
  | some v => exact ⟨v.1, v.2.1, v.2.2.1, v.2.2.2, rfl, h⟩
def b5 {α1 α2 α3 α4 α5 β : Type} (o : Option (α1 × α2 × α3 × α4 × α5)) (k : α1 → α2 → α3 → α4 → α5 → Option β) : Option β := o.bind (fun x => k x.1 x.2.1 x.2.2.1 x.2.2.2.1 x.2.2.2.2)
theorem b5_ex {α1 α2 α3 α4 α5 β : Type} {o : Option (α1 × α2 × α3 × α4 × α5)} {k : α1 → α2 → α3 → α4 → α5 → Option β} {y : β} (h : b5 o k = some y) : ∃ x1 x2 x3 x4 x5, o = some (x1, x2, x3, x4, x5) ∧ k x1 x2 x3 x4 x5 = some y := by
  cases o with
  | none => cases h
  | some v => exact ⟨v.1, v.2.1, v.2.2.1, v.2.2.2.1, v.2.2.2.2, rfl, h⟩
def b6 {α1 α2 α3 α4 α5 α6 β : Type} (o : Option (α1 × α2 × α3 × α4 × α5 × α6)) (k : α1 → α2 → α3 → α4 → α5 → α6 → Option β) : Option β := o.bind (fun x => k x.1 x.2.1 x.2.2.1 x.2.2.2.1 x.2.2.2.2.1 x.2.2.2.2.2)
theorem b6_ex {α1 α2 α3 α4 α5 α6 β : Type} {o : Option (α1 × α2 × α3 × α4 × α5 × α6)} {k : α1 → α2 → α3 → α4 → α5 → α6 → Option β} {y : β} (h : b6 o k = some y) : ∃ x1 x2 x3 x4 x5 x6, o = some (x1, x2, x3, x4, x5, x6) ∧ k x1 x2 x3 x4 x5 x6 = some y := by
  cases o with
  | none => cases h
  | some v => exact ⟨v.1, v.2.1, v.2.2.1, v.2.2.2.1, v.2.2.2.2.1, v.2.2.2.2.2, rfl, h⟩
def b7 {α1 α2 α3 α4 α5 α6 α7 β : Type} (o : Option (α1 × α2 × α3 × α4 × α5 × α6 × α7)) (k : α1 → α2 → α3 → α4 → α5 → α6 → α7 → Option β) : Option β := o.bind (fun x => k x.1 x.2.1 x.2.2.1 x.2.2.2.1 x.2.2.2.2.1 x.2.2.2.2.2.1 x.2.2.2.2.2.2)
theorem b7_ex {α1 α2 α3 α4 α5 α6 α7 β : Type} {o : Option (α1 × α2 × α3 × α4 × α5 × α6 × α7)} {k : α1 → α2 → α3 → α4 → α5 → α6 → α7 → Option β} {y : β} (h : b7 o k = some y) : ∃ x1 x2 x3 x4 x5 x6 x7, o = some (x1, x2, x3, x4, x5, x6, x7) ∧ k x1 x2 x3 x4 x5 x6 x7 = some y := by
  cases o with
  | none => cases h
  | some v => exact ⟨v.1, v.2.1, v.2.2.1, v.2.2.2.1, v.2.2.2.2.1, v.2.2.2.2.2.1, v.2.2.2.2.2.2, rfl, h⟩
def b8 {α1 α2 α3 α4 α5 α6 α7 α8 β : Type} (o : Option (α1 × α2 × α3 × α4 × α5 × α6 × α7 × α8)) (k : α1 → α2 → α3 → α4 → α5 → α6 → α7 → α8 → Option β) : Option β := o.bind (fun x => k x.1 x.2.1 x.2.2.1 x.2.2.2.1 x.2.2.2.2.1 x.2.2.2.2.2.1 x.2.2.2.2.2.2.1 x.2.2.2.2.2.2.2)
theorem b8_ex {α1 α2 α3 α4 α5 α6 α7 α8 β : Type} {o : Option (α1 × α2 × α3 × α4 × α5 × α6 × α7 × α8)} {k : α1 → α2 → α3 → α4 → α5 → α6 → α7 → α8 → Option β} {y : β} (h : b8 o k = some y) : ∃ x1 x2 x3 x4 x5 x6 x7 x8, o = some (x1, x2, x3, x4, x5, x6, x7, x8) ∧ k x1 x2 x3 x4 x5 x6 x7 x8 = some y := by
  cases o with
  | none => cases h
  | some v => exact ⟨v.1, v.2.1, v.2.2.1, v.2.2.2.1, v.2.2.2.2.1, v.2.2.2.2.2.1, v.2.2.2.2.2.2.1, v.2.2.2.2.2.2.2, rfl, h⟩
def b9 {α1 α2 α3 α4 α5 α6 α7 α8 α9 β : Type} (o : Option (α1 × α2 × α3 × α4 × α5 × α6 × α7 × α8 × α9)) (k : α1 → α2 → α3 → α4 → α5 → α6 → α7 → α8 → α9 → Option β) : Option β := o.bind (fun x => k x.1 x.2.1 x.2.2.1 x.2.2.2.1 x.2.2.2.2.1 x.2.2.2.2.2.1 x.2.2.2.2.2.2.1 x.2.2.2.2.2.2.2.1 x.2.2.2.2.2.2.2.2)
theorem b9_ex {α1 α2 α3 α4 α5 α6 α7 α8 α9 β : Type} {o : Option (α1 × α2 × α3 × α4 × α5 × α6 × α7 × α8 × α9)} {k : α1 → α2 → α3 → α4 → α5 → α6 → α7 → α8 → α9 → Option β} {y : β} (h : b9 o k = some y) : ∃ x1 x2 x3 x4 x5 x6 x7 x8 x9, o = some (x1, x2, x3, x4, x5, x6, x7, x8, x9) ∧ k x1 x2 x3 x4 x5 x6 x7 x8 x9 = some y := by
  cases o with
  | none => cases h
  | some v => exact ⟨v.1, v.2.1, v.2.2.1, v.2.2.2.1, v.2.2.2.2.1, v.2.2.2.2.2.1, v.2.2.2.2.2.2.1, v.2.2.2.2.2.2.2.1, v.2.2.2.2.2.2.2.2, rfl, h⟩
def b10 {α1 α2 α3 α4 α5 α6 α7 α8 α9 α10 β : Type} (o : Option (α1 × α2 × α3 × α4 × α5 × α6 × α7 × α8 × α9 × α10)) (k : α1 → α2 → α3 → α4 → α5 → α6 → α7 → α8 → α9 → α10 → Option β) : Option β := o.bind (fun x => k x.1 x.2.1 x.2.2.1 x.2.2.2.1 x.2.2.2.2.1 x.2.2.2.2.2.1 x.2.2.2.2.2.2.1 x.2.2.2.2.2.2.2.1 x.2.2.2.2.2.2.2.2.1 x.2.2.2.2.2.2.2.2.2)
theorem b10_ex {α1 α2 α3 α4 α5 α6 α7 α8 α9 α10 β : Type} {o : Option (α1 × α2 × α3 × α4 × α5 × α6 × α7 × α8 × α9 × α10)} {k : α1 → α2 → α3 → α4 → α5 → α6 → α7 → α8 → α9 → α10 → Option β} {y : β} (h : b10 o k = some y) : ∃ x1 x2 x3 x4 x5 x6 x7 x8 x9 x10, o = some (x1, x2, x3, x4, x5, x6, x7, x8, x9, x10) ∧ k x1 x2 x3 x4 x5 x6 x7 x8 x9 x10 = some y := by
  cases o with
  | none => cases h
  | some v => exact ⟨v.1, v.2.1, v.2.2.1, v.2.2.2.1, v.2.2.2.2.1, v.2.2.2.2.2.1, v.2.2.2.2.2.2.1, v.2.2.2.2.2.2.2.1, v.2.2.2.2.2.2.2.2.1, v.2.2.2.2.2.2.2.2.2, rfl, h⟩
def b11 {α1 α2 α3 α4 α5 α6 α7 α8 α9 α10 α11 β : Type} (o : Option (α1 × α2 × α3 × α4 × α5 × α6 × α7 × α8 × α9 × α10 × α11)) (k : α1 → α2 → α3 → α4 → α5 → α6 → α7 → α8 → α9 → α10 → α11 → Option β) : Option β := o.bind (fun x => k x.1 x.2.1 x.2.2.1 x.2.2.2.1 x.2.2.2.2.1 x.2.2.2.2.2.1 x.2.2.2.2.2.2.1 x.2.2.2.2.2.2.2.1 x.2.2.2.2.2.2.2.2.1 x.2.2.2.2.2.2.2.2.2.1 x.2.2.2.2.2.2.2.2.2.2)
theorem b11_ex {α1 α2 α3 α4 α5 α6 α7 α8 α9 α10 α11 β : Type} {o : Option (α1 × α2 × α3 × α4 × α5 × α6 × α7 × α8 × α9 × α10 × α11)} {k : α1 → α2 → α3 → α4 → α5 → α6 → α7 → α8 → α9 → α10 → α11 → Option β} {y : β} (h : b11 o k = some y) : ∃ x1 x2 x3 x4 x5 x6 x7 x8 x9 x10 x11, o = some (x1, x2, x3, x4, x5, x6, x7, x8, x9, x10, x11) ∧ k x1 x2 x3 x4 x5 x6 x7 x8 x9 x10 x11 = some y := by
  cases o with
  | none => cases h
  | some v => exact ⟨v.1, v.2.1, v.2.2.1, v.2.2.2.1, v.2.2.2.2.1, v.2.2.2.2.2.1, v.2.2.2.2.2.2.1, v.2.2.2.2.2.2.2.1, v.2.2.2.2.2.2.2.2.1, v.2.2.2.2.2.2.2.2.2.1, v.2.2.2.2.2.2.2.2.2.2, rfl, h⟩
def b12 {α1 α2 α3 α4 α5 α6 α7 α8 α9 α10 α11 α12 β : Type} (o : Option (α1 × α2 × α3 × α4 × α5 × α6 × α7 × α8 × α9 × α10 × α11 × α12)) (k : α1 → α2 → α3 → α4 → α5 → α6 → α7 → α8 → α9 → α10 → α11 → α12 → Option β) : Option β := o.bind (fun x => k x.1 x.2.1 x.2.2.1 x.2.2.2.1 x.2.2.2.2.1 x.2.2.2.2.2.1 x.2.2.2.2.2.2.1 x.2.2.2.2.2.2.2.1 x.2.2.2.2.2.2.2.2.1 x.2.2.2.2.2.2.2.2.2.1 x.2.2.2.2.2.2.2.2.2.2.1 x.2.2.2.2.2.2.2.2.2.2.2)
theorem b12_ex {α1 α2 α3 α4 α5 α6 α7 α8 α9 α10 α11 α12 β : Type} {o : Option (α1 × α2 × α3 × α4 × α5 × α6 × α7 × α8 × α9 × α10 × α11 × α12)} {k : α1 → α2 → α3 → α4 → α5 → α6 → α7 → α8 → α9 → α10 → α11 → α12 → Option β} {y : β} (h : b12 o k = some y) : ∃ x1 x2 x3 x4 x5 x6 x7 x8 x9 x10 x11 x12, o = some (x1, x2, x3, x4, x5, x6, x7, x8, x9, x10, x11, x12) ∧ k x1 x2 x3 x4 x5 x6 x7 x8 x9 x10 x11 x12 = some y := by
  cases o with
  | none => cases h
  | some v => exact ⟨v.1, v.2.1, v.2.2.1, v.2.2.2.1, v.2.2.2.2.1, v.2.2.2.2.2.1, v.2.2.2.2.2.2.1, v.2.2.2.2.2.2.2.1, v.2.2.2.2.2.2.2.2.1, v.2.2.2.2.2.2.2.2.2.1, v.2.2.2.2.2.2.2.2.2.2.1, v.2.2.2.2.2.2.2.2.2.2.2, rfl, h⟩
def b13 {α1 α2 α3 α4 α5 α6 α7 α8 α9 α10 α11 α12 α13 β : Type} (o : Option (α1 × α2 × α3 × α4 × α5 × α6 × α7 × α8 × α9 × α10 × α11 × α12 × α13)) (k : α1 → α2 → α3 → α4 → α5 → α6 → α7 → α8 → α9 → α10 → α11 → α12 → α13 → Option β) : Option β := o.bind (fun x => k x.1 x.2.1 x.2.2.1 x.2.2.2.1 x.2.2.2.2.1 x.2.2.2.2.2.1 x.2.2.2.2.2.2.1 x.2.2.2.2.2.2.2.1 x.2.2.2.2.2.2.2.2.1 x.2.2.2.2.2.2.2.2.2.1 x.2.2.2.2.2.2.2.2.2.2.1 x.2.2.2.2.2.2.2.2.2.2.2.1 x.2.2.2.2.2.2.2.2.2.2.2.2)
theorem b13_ex {α1 α2 α3 α4 α5 α6 α7 α8 α9 α10 α11 α12 α13 β : Type} {o : Option (α1 × α2 × α3 × α4 × α5 × α6 × α7 × α8 × α9 × α10 × α11 × α12 × α13)} {k : α1 → α2 → α3 → α4 → α5 → α6 → α7 → α8 → α9 → α10 → α11 → α12 → α13 → Option β} {y : β} (h : b13 o k = some y) : ∃ x1 x2 x3 x4 x5 x6 x7 x8 x9 x10 x11 x12 x13, o = some (x1, x2, x3, x4, x5, x6, x7, x8, x9, x10, x11, x12, x13) ∧ k x1 x2 x3 x4 x5 x6 x7 x8 x9 x10 x11 x12 x13 = some y := by
  cases o with
  | none => cases h
  | some v => exact ⟨v.1, v.2.1, v.2.2.1, v.2.2.2.1, v.2.2.2.2.1, v.2.2.2.2.2.1, v.2.2.2.2.2.2.1, v.2.2.2.2.2.2.2.1, v.2.2.2.2.2.2.2.2.1, v.2.2.2.2.2.2.2.2.2.1, v.2.2.2.2.2.2.2.2.2.2.1, v.2.2.2.2.2.2.2.2.2.2.2.1, v.2.2.2.2.2.2.2.2.2.2.2.2, rfl, h⟩
def b14 {α1 α2 α3 α4 α5 α6 α7 α8 α9 α10 α11 α12 α13 α14 β : Type} (o : Option (α1 × α2 × α3 × α4 × α5 × α6 × α7 × α8 × α9 × α10 × α11 × α12 × α13 × α14)) (k : α1 → α2 → α3 → α4 → α5 → α6 → α7 → α8 → α9 → α10 → α11 → α12 → α13 → α14 → Option β) : Option β := o.bind (fun x => k x.1 x.2.1 x.2.2.1 x.2.2.2.1 x.2.2.2.2.1 x.2.2.2.2.2.1 x.2.2.2.2.2.2.1 x.2.2.2.2.2.2.2.1 x.2.2.2.2.2.2.2.2.1 x.2.2.2.2.2.2.2.2.2.1 x.2.2.2.2.2.2.2.2.2.2.1 x.2.2.2.2.2.2.2.2.2.2.2.1 x.2.2.2.2.2.2.2.2.2.2.2.2.1 x.2.2.2.2.2.2.2.2.2.2.2.2.2)
theorem b14_ex {α1 α2 α3 α4 α5 α6 α7 α8 α9 α10 α11 α12 α13 α14 β : Type} {o : Option (α1 × α2 × α3 × α4 × α5 × α6 × α7 × α8 × α9 × α10 × α11 × α12 × α13 × α14)} {k : α1 → α2 → α3 → α4 → α5 → α6 → α7 → α8 → α9 → α10 → α11 → α12 → α13 → α14 → Option β} {y : β} (h : b14 o k = some y) : ∃ x1 x2 x3 x4 x5 x6 x7 x8 x9 x10 x11 x12 x13 x14, o = some (x1, x2, x3, x4, x5, x6, x7, x8, x9, x10, x11, x12, x13, x14) ∧ k x1 x2 x3 x4 x5 x6 x7 x8 x9 x10 x11 x12 x13 x14 = some y := by
  cases o with
  | none => cases h
  | some v => exact ⟨v.1, v.2.1, v.2.2.1, v.2.2.2.1, v.2.2.2.2.1, v.2.2.2.2.2.1, v.2.2.2.2.2.2.1, v.2.2.2.2.2.2.2.1, v.2.2.2.2.2.2.2.2.1, v.2.2.2.2.2.2.2.2.2.1, v.2.2.2.2.2.2.2.2.2.2.1, v.2.2.2.2.2.2.2.2.2.2.2.1, v.2.2.2.2.2.2.2.2.2.2.2.2.1, v.2.2.2.2.2.2.2.2.2.2.2.2.2, rfl, h⟩
def b15 {α1 α2 α3 α4 α5 α6 α7 α8 α9 α10 α11 α12 α13 α14 α15 β : Type} (o : Option (α1 × α2 × α3 × α4 × α5 × α6 × α7 × α8 × α9 × α10 × α11 × α12 × α13 × α14 × α15)) (k : α1 → α2 → α3 → α4 → α5 → α6 → α7 → α8 → α9 → α10 → α11 → α12 → α13 → α14 → α15 → Option β) : Option β := o.bind (fun x => k x.1 x.2.1 x.2.2.1 x.2.2.2.1 x.2.2.2.2.1 x.2.2.2.2.2.1 x.2.2.2.2.2.2.1 x.2.2.2.2.2.2.2.1 x.2.2.2.2.2.2.2.2.1 x.2.2.2.2.2.2.2.2.2.1 x.2.2.2.2.2.2.2.2.2.2.1 x.2.2.2.2.2.2.2.2.2.2.2.1 x.2.2.2.2.2.2.2.2.2.2.2.2.1 x.2.2.2.2.2.2.2.2.2.2.2.2.2.1 x.2.2.2.2.2.2.2.2.2.2.2.2.2.2)
theorem b15_ex {α1 α2 α3 α4 α5 α6 α7 α8 α9 α10 α11 α12 α13 α14 α15 β : Type} {o : Option (α1 × α2 × α3 × α4 × α5 × α6 × α7 × α8 × α9 × α10 × α11 × α12 × α13 × α14 × α15)} {k : α1 → α2 → α3 → α4 → α5 → α6 → α7 → α8 → α9 → α10 → α11 → α12 → α13 → α14 → α15 → Option β} {y : β} (h : b15 o k = some y) : ∃ x1 x2 x3 x4 x5 x6 x7 x8 x9 x10 x11 x12 x13 x14 x15, o = some (x1, x2, x3, x4, x5, x6, x7, x8, x9, x10, x11, x12, x13, x14, x15) ∧ k x1 x2 x3 x4 x5 x6 x7 x8 x9 x10 x11 x12 x13 x14 x15 = some y := by
  cases o with
  | none => cases h
  | some v => exact ⟨v.1, v.2.1, v.2.2.1, v.2.2.2.1, v.2.2.2.2.1, v.2.2.2.2.2.1, v.2.2.2.2.2.2.1, v.2.2.2.2.2.2.2.1, v.2.2.2.2.2.2.2.2.1, v.2.2.2.2.2.2.2.2.2.1, v.2.2.2.2.2.2.2.2.2.2.1, v.2.2.2.2.2.2.2.2.2.2.2.1, v.2.2.2.2.2.2.2.2.2.2.2.2.1, v.2.2.2.2.2.2.2.2.2.2.2.2.2.1, v.2.2.2.2.2.2.2.2.2.2.2.2.2.2, rfl, h⟩
def b16 {α1 α2 α3 α4 α5 α6 α7 α8 α9 α10 α11 α12 α13 α14 α15 α16 β : Type} (o : Option (α1 × α2 × α3 × α4 × α5 × α6 × α7 × α8 × α9 × α10 × α11 × α12 × α13 × α14 × α15 × α16)) (k : α1 → α2 → α3 → α4 → α5 → α6 → α7 → α8 → α9 → α10 → α11 → α12 → α13 → α14 → α15 → α16 → Option β) : Option β := o.bind (fun x => k x.1 x.2.1 x.2.2.1 x.2.2.2.1 x.2.2.2.2.1 x.2.2.2.2.2.1 x.2.2.2.2.2.2.1 x.2.2.2.2.2.2.2.1 x.2.2.2.2.2.2.2.2.1 x.2.2.2.2.2.2.2.2.2.1 x.2.2.2.2.2.2.2.2.2.2.1 x.2.2.2.2.2.2.2.2.2.2.2.1 x.2.2.2.2.2.2.2.2.2.2.2.2.1 x.2.2.2.2.2.2.2.2.2.2.2.2.2.1 x.2.2.2.2.2.2.2.2.2.2.2.2.2.2.1 x.2.2.2.2.2.2.2.2.2.2.2.2.2.2.2)
theorem b16_ex {α1 α2 α3 α4 α5 α6 α7 α8 α9 α10 α11 α12 α13 α14 α15 α16 β : Type} {o : Option (α1 × α2 × α3 × α4 × α5 × α6 × α7 × α8 × α9 × α10 × α11 × α12 × α13 × α14 × α15 × α16)} {k : α1 → α2 → α3 → α4 → α5 → α6 → α7 → α8 → α9 → α10 → α11 → α12 → α13 → α14 → α15 → α16 → Option β} {y : β} (h : b16 o k = some y) : ∃ x1 x2 x3 x4 x5 x6 x7 x8 x9 x10 x11 x12 x13 x14 x15 x16, o = some (x1, x2, x3, x4, x5, x6, x7, x8, x9, x10, x11, x12, x13, x14, x15, x16) ∧ k x1 x2 x3 x4 x5 x6 x7 x8 x9 x10 x11 x12 x13 x14 x15 x16 = some y := by
  cases o with
  | none => cases h
  | some v => exact ⟨v.1, v.2.1, v.2.2.1, v.2.2.2.1, v.2.2.2.2.1, v.2.2.2.2.2.1, v.2.2.2.2.2.2.1, v.2.2.2.2.2.2.2.1, v.2.2.2.2.2.2.2.2.1, v.2.2.2.2.2.2.2.2.2.1, v.2.2.2.2.2.2.2.2.2.2.1, v.2.2.2.2.2.2.2.2.2.2.2.1, v.2.2.2.2.2.2.2.2.2.2.2.2.1, v.2.2.2.2.2.2.2.2.2.2.2.2.2.1, v.2.2.2.2.2.2.2.2.2.2.2.2.2.2.1, v.2.2.2.2.2.2.2.2.2.2.2.2.2.2.2, rfl, h⟩
theorem sw_out {a : Int32} {lo hi : Int} (h : ∀ k : Int, lo ≤ k → k ≤ hi → ¬ a = Int32.ofInt k) : a.toInt < lo ∨ hi < a.toInt := by
  by_cases q : a.toInt < lo
  · exact Or.inl q
  · by_cases r : hi < a.toInt
    · exact Or.inr r
    · exact absurd (Int32.ofInt_toInt a).symm (h a.toInt (by omega) (by omega))
theorem lk_off {k : Int} : ∀ (ps : List (Int × Int)) (d : Int), (∀ q ∈ ps, q.1 ≠ k) → Op.lookupswitch.offset ps d k = d
  | [], _, _ => rfl
  | (a, o) :: r, d, h => by
    show (if a = k then o else Op.lookupswitch.offset r d k) = d
    rw [if_neg (h (a, o) List.mem_cons_self)]
    exact lk_off r d (fun q hq => h q (List.mem_cons_of_mem _ hq))
theorem lk_ne {a y : Int32} {k : Int} (hy : y.toInt = k) (h : ¬ a = y) : k ≠ a.toInt := fun e => h (Int32.toInt_inj.mp (by rw [hy]; exact e.symm))
theorem fm_map {α β : Type} {f : α → Option β} : ∀ {is : List α} {l : List β}, is.map f = l.map some → is.filterMap f = l
  | [], [], _ => rfl
  | [], _ :: _, h => by cases h
  | _ :: _, [], h => by cases h
  | i :: is, b :: l, h => by
    have h1 : f i = some b := by injection h
    have h2 : is.map f = l.map some := by injection h
    rw [List.filterMap_cons, h1, fm_map h2]
/-- a boolean, as the machine has it -/
def bo (x : Int32) : Prop := narrow .boolean (.int x) = .int x ∧ fits .boolean (.int x) = true
theorem bo_0 : bo 0 := ⟨rfl, rfl⟩
theorem bo_1 : bo 1 := ⟨rfl, rfl⟩
theorem bo_nar {x : Int32} (h : bo x) : vp_nar .boolean x = x := by
  unfold vp_nar; rw [show narrow .boolean (.int x) = .int x from h.1]
/-- the links to nest mates, as the tables have them -/
def nwL : List Cond := [.methodLinkNest RX4 9 yX2_init RX4, .fieldLinkNest RX4 16 RX2 "board" "LFogOrders$Board;" RX4, .methodLinkNest RX4 46 yX3_init RX4, .methodLinkNest RX0 53 yX4_areNeighbours RX4, .methodLinkNest RX0 37 yX4_enter RX4, .methodLinkNest RX2 76 yX4_enter RX4, .methodLinkNest RX2 89 yX4_entry RX4, .methodLinkNest RX2 115 yX4_areNeighbours RX4, .methodLinkNest RX2 125 yX4_isCentre RX4, .methodLinkNest RX0 89 yX4_isCentre RX4, .methodLinkNest RX0 60 yX4_neighbourMask RX4]
def NW (U : State) : Prop := ∀ w ∈ nwL, va_Nw w U
theorem nw_warm {s U : State} (h : NW s) (hW : s.WarmedH U.vm) : NW U := by
  intro w hw
  have h1 := h w hw
  simp only [nwL, List.mem_cons, List.not_mem_nil, or_false] at hw
  rcases hw with rfl | rfl | rfl | rfl | rfl | rfl | rfl | rfl | rfl | rfl | rfl
  all_goals first | exact va_Nw.warmM hW h1 | exact va_Nw.warmF hW h1
theorem nw_same {s U : State} (h : NW s) (e : s.vm = U.vm) : NW U := by
  intro w hw
  have h1 := h w hw
  simp only [nwL, List.mem_cons, List.not_mem_nil, or_false] at hw
  rcases hw with rfl | rfl | rfl | rfl | rfl | rfl | rfl | rfl | rfl | rfl | rfl
  all_goals exact va_Nw.same rfl e h1
abbrev TY (cI cZ cB cJ : ClassId) : List (ClassId × FieldType) := [(cI, .int), (cI, .int), (cB, .object RX0), (cI, .int)]
def KK (D : va_G) (cI cZ cB cJ : ClassId) (U : State) : Prop := va_K D vwCl (TY cI cZ cB cJ) U ∧ NW U
theorem KK.warm {D : va_G} {cI cZ cB cJ : ClassId} {s U : State} (h : KK D cI cZ cB cJ s) (hW : s.WarmedH U.vm) : KK D cI cZ cB cJ U := ⟨va_K.moved hW.alike h.1, nw_warm h.2 hW⟩
theorem KK.blind {D : va_G} {cI cZ cB cJ : ClassId} {U : State} (h : KK D cI cZ cB cJ U) (g : JFrame) (mk : MethodId) (a : Array Value) : KK D cI cZ cB cJ (U.calling g mk a) := ⟨va_K.moved (u := U) (U := U.calling g mk a) (Vm.Alike.refl U.vm) h.1, nw_same h.2 rfl⟩
def PcR (D : va_G) (cI cZ cB cJ : ClassId) (wc : va_W) (av : List Value) : Array Value → State → Prop := va_Pc av (fun U => va_P D vwCl wc U.heap ∧ KK D cI cZ cB cJ U)
def PcW (D : va_G) (cI cZ cB cJ : ClassId) (sz : Nat) (wc : va_W) (av : List Value) : Array Value → State → Prop := va_Pc av (fun U => U.heap.size = sz ∧ va_P D vwCl wc U.heap ∧ KK D cI cZ cB cJ U ∧ va_D (fun _ => True) wc)
def QWi (D : va_G) (cI cZ cB cJ : ClassId) (sz : Nat) (wc wc' : va_W) (r : Int32) : Array Value → State → Outcome → State → Prop := va_Qi (fun (r' : Int32) (_ : Unit) => r' = r ) (fun _ t => va_P D vwCl wc' t.heap ∧ va_D (va_A wc sz) wc') (va_A wc sz)
def QWl (D : va_G) (cI cZ cB cJ : ClassId) (sz : Nat) (wc wc' : va_W) (r : Int64) : Array Value → State → Outcome → State → Prop := va_Ql (fun (r' : Int64) (_ : Unit) => r' = r ) (fun _ t => va_P D vwCl wc' t.heap ∧ va_D (va_A wc sz) wc') (va_A wc sz)
def QWv (D : va_G) (cI cZ cB cJ : ClassId) (sz : Nat) (wc wc' : va_W) : Array Value → State → Outcome → State → Prop := va_Qv (fun (_ : Unit) => True) (fun _ t => va_P D vwCl wc' t.heap ∧ va_D (va_A wc sz) wc') (va_A wc sz)
theorem PcR_blind {D : va_G} {cI cZ cB cJ : ClassId} {wc : va_W} {av : List Value} : FrameBlind (PcR D cI cZ cB cJ wc av) := fun a _ g mk h => ⟨h.1, h.2.1, h.2.2.blind g mk a⟩
theorem PcW_blind {D : va_G} {cI cZ cB cJ : ClassId} {sz : Nat} {wc : va_W} {av : List Value} : FrameBlind (PcW D cI cZ cB cJ sz wc av) := fun a _ g mk h => ⟨h.1, h.2.1, h.2.2.1, h.2.2.2.1.blind g mk a, h.2.2.2.2⟩
def QWz (D : va_G) (cI cZ cB cJ : ClassId) (sz : Nat) (wc wc' : va_W) (r : Int32) : Array Value → State → Outcome → State → Prop := va_Qi (fun (r' : Int32) (_ : Unit) => r' = r ∧ bo r) (fun _ t => va_P D vwCl wc' t.heap ∧ va_D (va_A wc sz) wc') (va_A wc sz)
/-- a body that only reads -/
theorem bodyR {l : Launch} {y : MethodName} {ws ws' : List Cond} {rm : Room} {D : va_G} {cI cZ cB cJ : ClassId} {wc : va_W} {av : List Value} {lv : List (Nat × Value)} {cc : ByteArray} {maxL : Nat} {ret : Option FieldType} {Qc : Array Value → State → Outcome → State → Prop}
    (hy : plainName y.cls = true) (hw : ws = Cond.code y cc maxL ret :: ws') (hlen : (lg_sl av).length ≤ maxL) (hlv : lv_args 0 av = lv)
    (K : ∀ (p : Program) (e : Env) (s : State) (m : MethodId) (below : List Frame) (meth : Method) (c : Code), p.tables.exec = Jvm.exec → c.code = cc → meth.sig.returnType = ret → c.maxLocals = maxL → s.vm.findClass y.cls = some m.cls → (∀ w ∈ ws, w.before av.toArray s = true) → meth.locks = false → va_P D vwCl wc s.heap → KK D cI cZ cB cJ s → ∀ ls : Array Slot, lv_has ls maxL lv →
      W p l e rm s m av.toArray below meth c s.heap [] 0 0 (MQ below Qc av.toArray s 0 0 (fun _ => False)) (F0 m 0 ls [])) : Met l y ws rm (PcR D cI cZ cB cJ wc av) Qc 0 0 (fun _ => False) := by
  refine Met.ofW (cc := cc) (maxL := maxL) (ret := ret) hy hw ?_
  intro p e s m args below meth c s₁ B hml hv
  obtain ⟨rfl, hP, hK⟩ := hv
  have hl := lv_entry av (n := maxL) hlen
  rw [lg_entry_eq]
  rw [hlv] at hl
  exact K p e s m below meth c B.exec B.bytes B.returns hml (findClass_of_methodNamed B.named) (atoms_spec (ws := ws) B.pre) B.notSynchronized hP hK _ hl
/-- a body that writes -/
theorem bodyW {l : Launch} {y : MethodName} {ws ws' : List Cond} {rm : Room} {D : va_G} {cI cZ cB cJ : ClassId} {sz : Nat} {wc : va_W} {av : List Value} {lv : List (Nat × Value)} {cc : ByteArray} {maxL : Nat} {ret : Option FieldType} {Qc : Array Value → State → Outcome → State → Prop}
    (hy : plainName y.cls = true) (hw : ws = Cond.code y cc maxL ret :: ws') (hlen : (lg_sl av).length ≤ maxL) (hlv : lv_args 0 av = lv)
    (K : ∀ (p : Program) (e : Env) (s : State) (m : MethodId) (below : List Frame) (meth : Method) (c : Code), p.tables.exec = Jvm.exec → c.code = cc → meth.sig.returnType = ret → c.maxLocals = maxL → s.vm.findClass y.cls = some m.cls → (∀ w ∈ ws, w.before av.toArray s = true) → meth.locks = false → s.heap.size = sz → va_P D vwCl wc s.heap → KK D cI cZ cB cJ s → va_D (va_A wc sz) wc → (∀ q : Nat, s.heap.size ≤ q → va_A wc sz q) → va_S (va_A wc sz) s.heap s.heap [] → ∀ ls : Array Slot, lv_has ls maxL lv →
      W p l e rm s m av.toArray below meth c s.heap [] 0 0 (MQ below Qc av.toArray s 0 0 (va_A wc sz)) (F0 m 0 ls [])) : Met l y ws rm (PcW D cI cZ cB cJ sz wc av) Qc 0 0 (va_A wc sz) := by
  refine Met.ofW (cc := cc) (maxL := maxL) (ret := ret) hy hw ?_
  intro p e s m args below meth c s₁ B hml hv
  obtain ⟨rfl, hsz, hP, hK, hD⟩ := hv
  have hl := lv_entry av (n := maxL) hlen
  rw [lg_entry_eq]
  rw [hlv] at hl
  exact K p e s m below meth c B.exec B.bytes B.returns hml (findClass_of_methodNamed B.named) (atoms_spec (ws := ws) B.pre) B.notSynchronized hsz hP hK hD.self (fun q h => Or.inr (hsz ▸ h)) va_S.rf _ hl
theorem bodyRi {l : Launch} {y : MethodName} {ws ws' : List Cond} {rm : Room} {D : va_G} {cI cZ cB cJ : ClassId} {wc : va_W} {av : List Value} {lv : List (Nat × Value)} {cc : ByteArray} {maxL : Nat} {r : Int32}
    (hy : plainName y.cls = true) (hw : ws = Cond.code y cc maxL (some .int) :: ws') (hlen : (lg_sl av).length ≤ maxL) (hlv : lv_args 0 av = lv)
    (K : ∀ (p : Program) (e : Env) (s : State) (m : MethodId) (args : Array Value) (below : List Frame) (meth : Method) (c : Code) (Q : State → Prop), p.tables.exec = Jvm.exec → c.code = cc → c.maxLocals = maxL → s.vm.findClass y.cls = some m.cls → (∀ w ∈ ws, w.before args s = true) → va_P D vwCl wc s.heap → KK D cI cZ cB cJ s →
      (fin : ∀ (pc : Nat) (ls : Array Slot), decode cc pc = .ok (.ireturn, 1) → W p l e rm s m args below meth c s.heap [] 0 0 Q (F0 m pc ls [.int r])) → ∀ ls : Array Slot, lv_has ls maxL lv → W p l e rm s m args below meth c s.heap [] 0 0 Q (F0 m 0 ls [])) : Met l y ws rm (PcR D cI cZ cB cJ wc av) (vp_Si (fun r' => r' = r ∧ True)) 0 0 (fun _ => False) := by
  refine bodyR hy hw hlen hlv ?_
  intro p e s m below meth c hx hb hr hml hown hts hlocks hP hK ls hl
  exact K p e s m av.toArray below meth c _ hx hb hml hown hts hP hK (fun pc ls hd => W.iret hx hb hr (fun t ht hW => ⟨r, rfl, ⟨rfl, trivial⟩, ht⟩) (fun q hq => absurd hq List.not_mem_nil) hd hlocks) ls hl
theorem bodyRz {l : Launch} {y : MethodName} {ws ws' : List Cond} {rm : Room} {D : va_G} {cI cZ cB cJ : ClassId} {wc : va_W} {av : List Value} {lv : List (Nat × Value)} {cc : ByteArray} {maxL : Nat} {r : Int32}
    (hy : plainName y.cls = true) (hw : ws = Cond.code y cc maxL (some .boolean) :: ws') (hlen : (lg_sl av).length ≤ maxL) (hlv : lv_args 0 av = lv)
    (K : ∀ (p : Program) (e : Env) (s : State) (m : MethodId) (args : Array Value) (below : List Frame) (meth : Method) (c : Code) (Q : State → Prop), p.tables.exec = Jvm.exec → c.code = cc → c.maxLocals = maxL → s.vm.findClass y.cls = some m.cls → (∀ w ∈ ws, w.before args s = true) → va_P D vwCl wc s.heap → KK D cI cZ cB cJ s →
      (fin : ∀ (pc : Nat) (ls : Array Slot), bo r → decode cc pc = .ok (.ireturn, 1) → W p l e rm s m args below meth c s.heap [] 0 0 Q (F0 m pc ls [.int r])) → ∀ ls : Array Slot, lv_has ls maxL lv → W p l e rm s m args below meth c s.heap [] 0 0 Q (F0 m 0 ls [])) : Met l y ws rm (PcR D cI cZ cB cJ wc av) (vp_Si (fun r' => r' = r ∧ bo r)) 0 0 (fun _ => False) := by
  refine bodyR hy hw hlen hlv ?_
  intro p e s m below meth c hx hb hr hml hown hts hlocks hP hK ls hl
  exact K p e s m av.toArray below meth c _ hx hb hml hown hts hP hK (fun pc ls hbo hd => W.zret hx hb hr hbo.1 (fun t ht hW => ⟨r, rfl, ⟨rfl, hbo⟩, ht⟩) (fun q hq => absurd hq List.not_mem_nil) hd hlocks) ls hl
theorem bodyRl {l : Launch} {y : MethodName} {ws ws' : List Cond} {rm : Room} {D : va_G} {cI cZ cB cJ : ClassId} {wc : va_W} {av : List Value} {lv : List (Nat × Value)} {cc : ByteArray} {maxL : Nat} {r : Int64}
    (hy : plainName y.cls = true) (hw : ws = Cond.code y cc maxL (some .long) :: ws') (hlen : (lg_sl av).length ≤ maxL) (hlv : lv_args 0 av = lv)
    (K : ∀ (p : Program) (e : Env) (s : State) (m : MethodId) (args : Array Value) (below : List Frame) (meth : Method) (c : Code) (Q : State → Prop), p.tables.exec = Jvm.exec → c.code = cc → c.maxLocals = maxL → s.vm.findClass y.cls = some m.cls → (∀ w ∈ ws, w.before args s = true) → va_P D vwCl wc s.heap → KK D cI cZ cB cJ s →
      (fin : ∀ (pc : Nat) (ls : Array Slot), decode cc pc = .ok (.lreturn, 1) → W p l e rm s m args below meth c s.heap [] 0 0 Q (F0 m pc ls [.long r])) → ∀ ls : Array Slot, lv_has ls maxL lv → W p l e rm s m args below meth c s.heap [] 0 0 Q (F0 m 0 ls [])) : Met l y ws rm (PcR D cI cZ cB cJ wc av) (vp_Sl (fun r' => r' = r)) 0 0 (fun _ => False) := by
  refine bodyR hy hw hlen hlv ?_
  intro p e s m below meth c hx hb hr hml hown hts hlocks hP hK ls hl
  exact K p e s m av.toArray below meth c _ hx hb hml hown hts hP hK (fun pc ls hd => W.lret hx hb hr (fun t ht hW => ⟨r, rfl, rfl, ht⟩) (fun q hq => absurd hq List.not_mem_nil) hd hlocks) ls hl
theorem bodyRd {l : Launch} {y : MethodName} {ws ws' : List Cond} {rm : Room} {D : va_G} {cI cZ cB cJ : ClassId} {wc : va_W} {av : List Value} {lv : List (Nat × Value)} {cc : ByteArray} {maxL : Nat} {r : UInt64}
    (hy : plainName y.cls = true) (hw : ws = Cond.code y cc maxL (some .double) :: ws') (hlen : (lg_sl av).length ≤ maxL) (hlv : lv_args 0 av = lv)
    (K : ∀ (p : Program) (e : Env) (s : State) (m : MethodId) (args : Array Value) (below : List Frame) (meth : Method) (c : Code) (Q : State → Prop), p.tables.exec = Jvm.exec → c.code = cc → c.maxLocals = maxL → s.vm.findClass y.cls = some m.cls → (∀ w ∈ ws, w.before args s = true) → va_P D vwCl wc s.heap → KK D cI cZ cB cJ s →
      (fin : ∀ (pc : Nat) (ls : Array Slot), decode cc pc = .ok (.dreturn, 1) → W p l e rm s m args below meth c s.heap [] 0 0 Q (F0 m pc ls [.double r])) → ∀ ls : Array Slot, lv_has ls maxL lv → W p l e rm s m args below meth c s.heap [] 0 0 Q (F0 m 0 ls [])) : Met l y ws rm (PcR D cI cZ cB cJ wc av) (vp_Sd (fun r' => r' = r)) 0 0 (fun _ => False) := by
  refine bodyR hy hw hlen hlv ?_
  intro p e s m below meth c hx hb hr hml hown hts hlocks hP hK ls hl
  exact K p e s m av.toArray below meth c _ hx hb hml hown hts hP hK (fun pc ls hd => W.dret hx hb hr (fun t ht hW => ⟨r, rfl, rfl, ht⟩) (fun q hq => absurd hq List.not_mem_nil) hd hlocks) ls hl
theorem bodyWi {l : Launch} {y : MethodName} {ws ws' : List Cond} {rm : Room} {D : va_G} {cI cZ cB cJ : ClassId} {sz : Nat} {wc wc' : va_W} {av : List Value} {lv : List (Nat × Value)} {cc : ByteArray} {maxL : Nat} {r : Int32}
    (hy : plainName y.cls = true) (hw : ws = Cond.code y cc maxL (some .int) :: ws') (hlen : (lg_sl av).length ≤ maxL) (hlv : lv_args 0 av = lv)
    (K : ∀ (p : Program) (e : Env) (s : State) (m : MethodId) (args : Array Value) (below : List Frame) (meth : Method) (c : Code) (Q : State → Prop), p.tables.exec = Jvm.exec → c.code = cc → c.maxLocals = maxL → s.vm.findClass y.cls = some m.cls → (∀ w ∈ ws, w.before args s = true) → ∀ A : Nat → Prop, va_P D vwCl wc s.heap → KK D cI cZ cB cJ s → va_D A wc → (∀ q : Nat, s.heap.size ≤ q → A q) → va_S A s.heap s.heap [] →
      (fin : ∀ (pc : Nat) (ls : Array Slot) (H : Heap) (locs : List Loc), decode cc pc = .ok (.ireturn, 1) → va_P D vwCl wc' H → va_D A wc' → va_S A s.heap H locs → W p l e rm s m args below meth c H locs 0 0 Q (F0 m pc ls [.int r])) → ∀ ls : Array Slot, lv_has ls maxL lv → W p l e rm s m args below meth c s.heap [] 0 0 Q (F0 m 0 ls [])) : Met l y ws rm (PcW D cI cZ cB cJ sz wc av) (QWi D cI cZ cB cJ sz wc wc' r) 0 0 (va_A wc sz) := by
  refine bodyW hy hw hlen hlv ?_
  intro p e s m below meth c hx hb hr hml hown hts hlocks hsz hP hK hD hA hS ls hl
  exact K p e s m av.toArray below meth c _ hx hb hml hown hts _ hP hK hD hA hS (fun pc ls H locs hd hP1 hD1 hS1 => W.iret hx hb hr (fun t ht hW => ⟨⟨r, (), rfl, rfl, by rw [ht]; exact hP1, hD1⟩, hS1.F ht⟩) hS1.2.2 hd hlocks) ls hl
theorem bodyWz {l : Launch} {y : MethodName} {ws ws' : List Cond} {rm : Room} {D : va_G} {cI cZ cB cJ : ClassId} {sz : Nat} {wc wc' : va_W} {av : List Value} {lv : List (Nat × Value)} {cc : ByteArray} {maxL : Nat} {r : Int32}
    (hy : plainName y.cls = true) (hw : ws = Cond.code y cc maxL (some .boolean) :: ws') (hlen : (lg_sl av).length ≤ maxL) (hlv : lv_args 0 av = lv)
    (K : ∀ (p : Program) (e : Env) (s : State) (m : MethodId) (args : Array Value) (below : List Frame) (meth : Method) (c : Code) (Q : State → Prop), p.tables.exec = Jvm.exec → c.code = cc → c.maxLocals = maxL → s.vm.findClass y.cls = some m.cls → (∀ w ∈ ws, w.before args s = true) → ∀ A : Nat → Prop, va_P D vwCl wc s.heap → KK D cI cZ cB cJ s → va_D A wc → (∀ q : Nat, s.heap.size ≤ q → A q) → va_S A s.heap s.heap [] →
      (fin : ∀ (pc : Nat) (ls : Array Slot) (H : Heap) (locs : List Loc), bo r → decode cc pc = .ok (.ireturn, 1) → va_P D vwCl wc' H → va_D A wc' → va_S A s.heap H locs → W p l e rm s m args below meth c H locs 0 0 Q (F0 m pc ls [.int r])) → ∀ ls : Array Slot, lv_has ls maxL lv → W p l e rm s m args below meth c s.heap [] 0 0 Q (F0 m 0 ls [])) : Met l y ws rm (PcW D cI cZ cB cJ sz wc av) (QWz D cI cZ cB cJ sz wc wc' r) 0 0 (va_A wc sz) := by
  refine bodyW hy hw hlen hlv ?_
  intro p e s m below meth c hx hb hr hml hown hts hlocks hsz hP hK hD hA hS ls hl
  exact K p e s m av.toArray below meth c _ hx hb hml hown hts _ hP hK hD hA hS (fun pc ls H locs hbo hd hP1 hD1 hS1 => W.zret hx hb hr hbo.1 (fun t ht hW => ⟨⟨r, (), rfl, ⟨rfl, hbo⟩, by rw [ht]; exact hP1, hD1⟩, hS1.F ht⟩) hS1.2.2 hd hlocks) ls hl
theorem bodyWl {l : Launch} {y : MethodName} {ws ws' : List Cond} {rm : Room} {D : va_G} {cI cZ cB cJ : ClassId} {sz : Nat} {wc wc' : va_W} {av : List Value} {lv : List (Nat × Value)} {cc : ByteArray} {maxL : Nat} {r : Int64}
    (hy : plainName y.cls = true) (hw : ws = Cond.code y cc maxL (some .long) :: ws') (hlen : (lg_sl av).length ≤ maxL) (hlv : lv_args 0 av = lv)
    (K : ∀ (p : Program) (e : Env) (s : State) (m : MethodId) (args : Array Value) (below : List Frame) (meth : Method) (c : Code) (Q : State → Prop), p.tables.exec = Jvm.exec → c.code = cc → c.maxLocals = maxL → s.vm.findClass y.cls = some m.cls → (∀ w ∈ ws, w.before args s = true) → ∀ A : Nat → Prop, va_P D vwCl wc s.heap → KK D cI cZ cB cJ s → va_D A wc → (∀ q : Nat, s.heap.size ≤ q → A q) → va_S A s.heap s.heap [] →
      (fin : ∀ (pc : Nat) (ls : Array Slot) (H : Heap) (locs : List Loc), decode cc pc = .ok (.lreturn, 1) → va_P D vwCl wc' H → va_D A wc' → va_S A s.heap H locs → W p l e rm s m args below meth c H locs 0 0 Q (F0 m pc ls [.long r])) → ∀ ls : Array Slot, lv_has ls maxL lv → W p l e rm s m args below meth c s.heap [] 0 0 Q (F0 m 0 ls [])) : Met l y ws rm (PcW D cI cZ cB cJ sz wc av) (QWl D cI cZ cB cJ sz wc wc' r) 0 0 (va_A wc sz) := by
  refine bodyW hy hw hlen hlv ?_
  intro p e s m below meth c hx hb hr hml hown hts hlocks hsz hP hK hD hA hS ls hl
  exact K p e s m av.toArray below meth c _ hx hb hml hown hts _ hP hK hD hA hS (fun pc ls H locs hd hP1 hD1 hS1 => W.lret hx hb hr (fun t ht hW => ⟨⟨r, (), rfl, rfl, by rw [ht]; exact hP1, hD1⟩, hS1.F ht⟩) hS1.2.2 hd hlocks) ls hl
theorem bodyWv {l : Launch} {y : MethodName} {ws ws' : List Cond} {rm : Room} {D : va_G} {cI cZ cB cJ : ClassId} {sz : Nat} {wc wc' : va_W} {av : List Value} {lv : List (Nat × Value)} {cc : ByteArray} {maxL : Nat} 
    (hy : plainName y.cls = true) (hw : ws = Cond.code y cc maxL none :: ws') (hlen : (lg_sl av).length ≤ maxL) (hlv : lv_args 0 av = lv)
    (K : ∀ (p : Program) (e : Env) (s : State) (m : MethodId) (args : Array Value) (below : List Frame) (meth : Method) (c : Code) (Q : State → Prop), p.tables.exec = Jvm.exec → c.code = cc → c.maxLocals = maxL → s.vm.findClass y.cls = some m.cls → (∀ w ∈ ws, w.before args s = true) → ∀ A : Nat → Prop, va_P D vwCl wc s.heap → KK D cI cZ cB cJ s → va_D A wc → (∀ q : Nat, s.heap.size ≤ q → A q) → va_S A s.heap s.heap [] →
      (fin : ∀ (pc : Nat) (ls : Array Slot) (H : Heap) (locs : List Loc), decode cc pc = .ok (.return_, 1) → va_P D vwCl wc' H → va_D A wc' → va_S A s.heap H locs → W p l e rm s m args below meth c H locs 0 0 Q (F0 m pc ls [])) → ∀ ls : Array Slot, lv_has ls maxL lv → W p l e rm s m args below meth c s.heap [] 0 0 Q (F0 m 0 ls [])) : Met l y ws rm (PcW D cI cZ cB cJ sz wc av) (QWv D cI cZ cB cJ sz wc wc') 0 0 (va_A wc sz) := by
  refine bodyW hy hw hlen hlv ?_
  intro p e s m below meth c hx hb hr hml hown hts hlocks hsz hP hK hD hA hS ls hl
  exact K p e s m av.toArray below meth c _ hx hb hml hown hts _ hP hK hD hA hS (fun pc ls H locs hd hP1 hD1 hS1 => W.vret hx hb hr (fun t ht hW => ⟨⟨(), rfl, trivial, by rw [ht]; exact hP1, hD1⟩, hS1.F ht⟩) hS1.2.2 hd hlocks) ls hl
section XR
variable {p : Program} {l : Launch} {e : Env} {R : Room} {s : State} {m : MethodId} {args : Array Value} {below : List Frame} {meth : Method} {c : Code} {H : Heap} {locs : List Loc} {cells slots : Nat} {Q : State → Prop}
variable {cc : ByteArray} {nL : Nat} {Ts : List Cond} {own : String} {D : va_G} {cI cZ cB cJ : ClassId} {wsx wc wc' wr : va_W} {pc index maxL n : Nat} {ls : Array Slot} {y : MethodName} {ws : List Cond} {rm : Room} {bytes : ByteArray} {ret : Option FieldType} {C host : String} {T : u_T} {N ci b : Nat} {fs : List Value} {A : Nat → Prop} {H0 : Heap}
theorem callRVi {As rest st0 : List Value} {r : Int32} (S : CallFix p m c cc nL s args Ts own) (hK : KK D cI cZ cB cJ s) (hP : va_P D vwCl wsx H)
    (hM : Met l y ws rm (PcR D cI cZ cB cJ wc (.ref b :: As)) (vp_Si (fun r' => r' = r ∧ True)) 0 0 (fun _ => False)) (is : List Nat) (his : is.filterMap (fun i => wsx[i]?) = wc)
    (cw : CallW R s args own C index y bytes maxL ret ws rm 0 0 n) (hrec : wc[0]? = some (b, .inr (ci, fs))) (hc : vwCl[ci]? = some (C, T, N)) (hn : As.length = n) (hsz : ls.size = nL) (hst : st0 = As.reverse ++ .ref b :: rest) (hW : (rest.map fun v => v.category).sum ≤ 8)
    (hdg : decode cc pc = .ok (.invokevirtual index, 3)) (hcs : cells ≤ R.cells ∧ slots ≤ R.slots)
    (kk : W p l e R s m args below meth c H locs cells slots Q (F0 m (pc + 3) ls (.int r :: rest))) : W p l e R s m args below meth c H locs cells slots Q (F0 m pc ls st0) := by
  subst hst
  exact vp_callSi (va_Run.run (va_runV S hM cw ⟨PcR_blind, va_recv hK.1 (hP.sub is his) hc hrec, fun U hU hW => ⟨rfl, by rw [hU]; exact hP.sub is his, hK.warm hW⟩⟩ rfl hn hsz rfl (lv_room hW) hdg hcs)) (fun r' e => by obtain ⟨rfl, -⟩ := e; exact kk)
theorem callRVz {As rest st0 : List Value} {r : Int32} (S : CallFix p m c cc nL s args Ts own) (hK : KK D cI cZ cB cJ s) (hP : va_P D vwCl wsx H)
    (hM : Met l y ws rm (PcR D cI cZ cB cJ wc (.ref b :: As)) (vp_Si (fun r' => r' = r ∧ bo r)) 0 0 (fun _ => False)) (is : List Nat) (his : is.filterMap (fun i => wsx[i]?) = wc)
    (cw : CallW R s args own C index y bytes maxL ret ws rm 0 0 n) (hrec : wc[0]? = some (b, .inr (ci, fs))) (hc : vwCl[ci]? = some (C, T, N)) (hn : As.length = n) (hsz : ls.size = nL) (hst : st0 = As.reverse ++ .ref b :: rest) (hW : (rest.map fun v => v.category).sum ≤ 8)
    (hdg : decode cc pc = .ok (.invokevirtual index, 3)) (hcs : cells ≤ R.cells ∧ slots ≤ R.slots)
    (kk : bo r → W p l e R s m args below meth c H locs cells slots Q (F0 m (pc + 3) ls (.int r :: rest))) : W p l e R s m args below meth c H locs cells slots Q (F0 m pc ls st0) := by
  subst hst
  exact vp_callSi (va_Run.run (va_runV S hM cw ⟨PcR_blind, va_recv hK.1 (hP.sub is his) hc hrec, fun U hU hW => ⟨rfl, by rw [hU]; exact hP.sub is his, hK.warm hW⟩⟩ rfl hn hsz rfl (lv_room hW) hdg hcs)) (fun r' e => by obtain ⟨rfl, e⟩ := e; exact kk e)
theorem callRVl {As rest st0 : List Value} {r : Int64} (S : CallFix p m c cc nL s args Ts own) (hK : KK D cI cZ cB cJ s) (hP : va_P D vwCl wsx H)
    (hM : Met l y ws rm (PcR D cI cZ cB cJ wc (.ref b :: As)) (vp_Sl (fun r' => r' = r)) 0 0 (fun _ => False)) (is : List Nat) (his : is.filterMap (fun i => wsx[i]?) = wc)
    (cw : CallW R s args own C index y bytes maxL ret ws rm 0 0 n) (hrec : wc[0]? = some (b, .inr (ci, fs))) (hc : vwCl[ci]? = some (C, T, N)) (hn : As.length = n) (hsz : ls.size = nL) (hst : st0 = As.reverse ++ .ref b :: rest) (hW : (rest.map fun v => v.category).sum ≤ 8)
    (hdg : decode cc pc = .ok (.invokevirtual index, 3)) (hcs : cells ≤ R.cells ∧ slots ≤ R.slots)
    (kk : W p l e R s m args below meth c H locs cells slots Q (F0 m (pc + 3) ls (.long r :: rest))) : W p l e R s m args below meth c H locs cells slots Q (F0 m pc ls st0) := by
  subst hst
  exact vp_callSl (va_Run.run (va_runV S hM cw ⟨PcR_blind, va_recv hK.1 (hP.sub is his) hc hrec, fun U hU hW => ⟨rfl, by rw [hU]; exact hP.sub is his, hK.warm hW⟩⟩ rfl hn hsz rfl (lv_room hW) hdg hcs)) (fun r' e => by subst e; exact kk)
theorem callRVd {As rest st0 : List Value} {r : UInt64} (S : CallFix p m c cc nL s args Ts own) (hK : KK D cI cZ cB cJ s) (hP : va_P D vwCl wsx H)
    (hM : Met l y ws rm (PcR D cI cZ cB cJ wc (.ref b :: As)) (vp_Sd (fun r' => r' = r)) 0 0 (fun _ => False)) (is : List Nat) (his : is.filterMap (fun i => wsx[i]?) = wc)
    (cw : CallW R s args own C index y bytes maxL ret ws rm 0 0 n) (hrec : wc[0]? = some (b, .inr (ci, fs))) (hc : vwCl[ci]? = some (C, T, N)) (hn : As.length = n) (hsz : ls.size = nL) (hst : st0 = As.reverse ++ .ref b :: rest) (hW : (rest.map fun v => v.category).sum ≤ 8)
    (hdg : decode cc pc = .ok (.invokevirtual index, 3)) (hcs : cells ≤ R.cells ∧ slots ≤ R.slots)
    (kk : W p l e R s m args below meth c H locs cells slots Q (F0 m (pc + 3) ls (.double r :: rest))) : W p l e R s m args below meth c H locs cells slots Q (F0 m pc ls st0) := by
  subst hst
  exact vp_callSd (va_Run.run (va_runV S hM cw ⟨PcR_blind, va_recv hK.1 (hP.sub is his) hc hrec, fun U hU hW => ⟨rfl, by rw [hU]; exact hP.sub is his, hK.warm hW⟩⟩ rfl hn hsz rfl (lv_room hW) hdg hcs)) (fun r' e => by subst e; exact kk)
theorem callRSi {As rest st0 : List Value} {r : Int32} (S : CallFix p m c cc nL s args Ts own) (hK : KK D cI cZ cB cJ s) (hP : va_P D vwCl wsx H)
    (hM : Met l y ws rm (PcR D cI cZ cB cJ wc As) (vp_Si (fun r' => r' = r ∧ True)) 0 0 (fun _ => False)) (is : List Nat) (his : is.filterMap (fun i => wsx[i]?) = wc)
    (cw : CallB R s args own index y bytes maxL ret ws rm 0 0 n ∧ (Cond.static y).before args s = true) (hn : As.length = n) (hsz : ls.size = nL) (hst : st0 = As.reverse ++ rest) (hW : (rest.map fun v => v.category).sum ≤ 8)
    (hdg : decode cc pc = .ok (.invokestatic index, 3)) (hcs : cells ≤ R.cells ∧ slots ≤ R.slots)
    (kk : W p l e R s m args below meth c H locs cells slots Q (F0 m (pc + 3) ls (.int r :: rest))) : W p l e R s m args below meth c H locs cells slots Q (F0 m pc ls st0) := by
  subst hst
  exact vp_callSi (va_Run.run (va_runS S hM cw ⟨PcR_blind, fun U hU hW => ⟨rfl, by rw [hU]; exact hP.sub is his, hK.warm hW⟩⟩ rfl hn hsz rfl (lv_room hW) hdg hcs)) (fun r' e => by obtain ⟨rfl, -⟩ := e; exact kk)
theorem callRSz {As rest st0 : List Value} {r : Int32} (S : CallFix p m c cc nL s args Ts own) (hK : KK D cI cZ cB cJ s) (hP : va_P D vwCl wsx H)
    (hM : Met l y ws rm (PcR D cI cZ cB cJ wc As) (vp_Si (fun r' => r' = r ∧ bo r)) 0 0 (fun _ => False)) (is : List Nat) (his : is.filterMap (fun i => wsx[i]?) = wc)
    (cw : CallB R s args own index y bytes maxL ret ws rm 0 0 n ∧ (Cond.static y).before args s = true) (hn : As.length = n) (hsz : ls.size = nL) (hst : st0 = As.reverse ++ rest) (hW : (rest.map fun v => v.category).sum ≤ 8)
    (hdg : decode cc pc = .ok (.invokestatic index, 3)) (hcs : cells ≤ R.cells ∧ slots ≤ R.slots)
    (kk : bo r → W p l e R s m args below meth c H locs cells slots Q (F0 m (pc + 3) ls (.int r :: rest))) : W p l e R s m args below meth c H locs cells slots Q (F0 m pc ls st0) := by
  subst hst
  exact vp_callSi (va_Run.run (va_runS S hM cw ⟨PcR_blind, fun U hU hW => ⟨rfl, by rw [hU]; exact hP.sub is his, hK.warm hW⟩⟩ rfl hn hsz rfl (lv_room hW) hdg hcs)) (fun r' e => by obtain ⟨rfl, e⟩ := e; exact kk e)
theorem callRSl {As rest st0 : List Value} {r : Int64} (S : CallFix p m c cc nL s args Ts own) (hK : KK D cI cZ cB cJ s) (hP : va_P D vwCl wsx H)
    (hM : Met l y ws rm (PcR D cI cZ cB cJ wc As) (vp_Sl (fun r' => r' = r)) 0 0 (fun _ => False)) (is : List Nat) (his : is.filterMap (fun i => wsx[i]?) = wc)
    (cw : CallB R s args own index y bytes maxL ret ws rm 0 0 n ∧ (Cond.static y).before args s = true) (hn : As.length = n) (hsz : ls.size = nL) (hst : st0 = As.reverse ++ rest) (hW : (rest.map fun v => v.category).sum ≤ 8)
    (hdg : decode cc pc = .ok (.invokestatic index, 3)) (hcs : cells ≤ R.cells ∧ slots ≤ R.slots)
    (kk : W p l e R s m args below meth c H locs cells slots Q (F0 m (pc + 3) ls (.long r :: rest))) : W p l e R s m args below meth c H locs cells slots Q (F0 m pc ls st0) := by
  subst hst
  exact vp_callSl (va_Run.run (va_runS S hM cw ⟨PcR_blind, fun U hU hW => ⟨rfl, by rw [hU]; exact hP.sub is his, hK.warm hW⟩⟩ rfl hn hsz rfl (lv_room hW) hdg hcs)) (fun r' e => by subst e; exact kk)
theorem callRNi {As rest st0 : List Value} {r : Int32} (S : CallFix p m c cc nL s args Ts own) (hK : KK D cI cZ cB cJ s) (hP : va_P D vwCl wsx H)
    (hM : Met l y ws rm (PcR D cI cZ cB cJ wc As) (vp_Si (fun r' => r' = r ∧ True)) 0 0 (fun _ => False)) (is : List Nat) (his : is.filterMap (fun i => wsx[i]?) = wc)
    (cw : va_CN R s args own index y host bytes maxL ret ws rm 0 0 n ∧ (Cond.static y).before args s = true ∧ True) (hn : As.length = n) (hsz : ls.size = nL) (hst : st0 = As.reverse ++ rest) (hW : (rest.map fun v => v.category).sum ≤ 8)
    (hdg : decode cc pc = .ok (.invokestatic index, 3)) (hcs : cells ≤ R.cells ∧ slots ≤ R.slots)
    (kk : W p l e R s m args below meth c H locs cells slots Q (F0 m (pc + 3) ls (.int r :: rest))) : W p l e R s m args below meth c H locs cells slots Q (F0 m pc ls st0) := by
  subst hst
  exact vp_callSi (va_Run.run (va_runSN S hM cw ⟨PcR_blind, fun U hU hW => ⟨rfl, by rw [hU]; exact hP.sub is his, hK.warm hW⟩⟩ rfl hn hsz rfl (lv_room hW) hdg hcs)) (fun r' e => by obtain ⟨rfl, -⟩ := e; exact kk)
/-- a call of a method of an object that writes, with an int back -/
theorem callRNz {As rest st0 : List Value} {r : Int32} (S : CallFix p m c cc nL s args Ts own) (hK : KK D cI cZ cB cJ s) (hP : va_P D vwCl wsx H)
    (hM : Met l y ws rm (PcR D cI cZ cB cJ wc As) (vp_Si (fun r' => r' = r ∧ bo r)) 0 0 (fun _ => False)) (is : List Nat) (his : is.filterMap (fun i => wsx[i]?) = wc)
    (cw : va_CN R s args own index y host bytes maxL ret ws rm 0 0 n ∧ (Cond.static y).before args s = true ∧ True) (hn : As.length = n) (hsz : ls.size = nL) (hst : st0 = As.reverse ++ rest) (hW : (rest.map fun v => v.category).sum ≤ 8)
    (hdg : decode cc pc = .ok (.invokestatic index, 3)) (hcs : cells ≤ R.cells ∧ slots ≤ R.slots)
    (kk : bo r → W p l e R s m args below meth c H locs cells slots Q (F0 m (pc + 3) ls (.int r :: rest))) : W p l e R s m args below meth c H locs cells slots Q (F0 m pc ls st0) := by
  subst hst
  exact vp_callSi (va_Run.run (va_runSN S hM cw ⟨PcR_blind, fun U hU hW => ⟨rfl, by rw [hU]; exact hP.sub is his, hK.warm hW⟩⟩ rfl hn hsz rfl (lv_room hW) hdg hcs)) (fun r' e => by obtain ⟨rfl, e⟩ := e; exact kk e)
/-- a call of a method of an object that writes, with an int back -/
theorem callWV {As rest st0 : List Value} {r : Int32} (S : CallFix p m c cc nL s args Ts own) (hK : KK D cI cZ cB cJ s) (hP : va_P D vwCl wsx H) (hD : va_D A wsx) (hS : va_S A H0 H locs) (hA : ∀ q, H0.size ≤ q → A q)
    (hM : Met l y ws rm (PcW D cI cZ cB cJ H.size wc (.ref b :: As)) (QWi D cI cZ cB cJ H.size wc wc' r) 0 0 (va_A wc H.size)) (isC isR : List Nat) (hC : isC.map (fun i => wsx[i]?) = wc.map some) (hR : isR.map (fun i => wsx[i]?) = wr.map some) (hnC : va_nd isC = true) (hnR : va_nd isR = true) (hdis : ∀ i ∈ isR, i ∉ isC)
    (cw : CallW R s args own C index y bytes maxL ret ws rm 0 0 n) (hrec : wc[0]? = some (b, .inr (ci, fs))) (hc : vwCl[ci]? = some (C, T, N)) (hn : As.length = n) (hsz : ls.size = nL) (hst : st0 = As.reverse ++ .ref b :: rest) (hW : (rest.map fun v => v.category).sum ≤ 8)
    (hdg : decode cc pc = .ok (.invokevirtual index, 3)) (hcs : cells ≤ R.cells ∧ slots ≤ R.slots)
    (kk : ∀ (H1 : Heap) (locs1 : List Loc), va_P D vwCl (wr ++ wc') H1 → va_D A (wr ++ wc') → va_S A H0 H1 locs1 → W p l e R s m args below meth c H1 locs1 cells slots Q (F0 m (pc + 3) ls (.int r :: rest))) : W p l e R s m args below meth c H locs cells slots Q (F0 m pc ls st0) := by
  subst hst
  have hPc := hP.sub isC (fm_map hC)
  have hDc := hD.sub isC hnC hC
  have hFc := va_free (wc := wc) hD hS hA isC hC
  refine va_calli (va_runV S hM cw ⟨PcW_blind, va_recv hK.1 hPc hc hrec, fun U hU hW => ⟨rfl, by rw [hU], by rw [hU]; exact hPc, hK.warm hW, hDc.weaken (fun _ _ _ _ => trivial)⟩⟩ rfl hn hsz rfl (lv_room hW) hdg hcs) hS (fun q _ h => hFc q h) hFc (fun r' u t H1 locs1 ht hvm hw hB hz1 hk1 hS1 => ?_)
  subst hw
  obtain ⟨hP1, hD1⟩ := hB
  rw [ht] at hP1
  obtain ⟨hP2, hD2⟩ := va_join hP hD isC isR hC hR hnR hdis hk1 hFc hP1 hD1
  exact kk H1 locs1 hP2 hD2 hS1
theorem callWVz {As rest st0 : List Value} {r : Int32} (S : CallFix p m c cc nL s args Ts own) (hK : KK D cI cZ cB cJ s) (hP : va_P D vwCl wsx H) (hD : va_D A wsx) (hS : va_S A H0 H locs) (hA : ∀ q, H0.size ≤ q → A q)
    (hM : Met l y ws rm (PcW D cI cZ cB cJ H.size wc (.ref b :: As)) (QWz D cI cZ cB cJ H.size wc wc' r) 0 0 (va_A wc H.size)) (isC isR : List Nat) (hC : isC.map (fun i => wsx[i]?) = wc.map some) (hR : isR.map (fun i => wsx[i]?) = wr.map some) (hnC : va_nd isC = true) (hnR : va_nd isR = true) (hdis : ∀ i ∈ isR, i ∉ isC)
    (cw : CallW R s args own C index y bytes maxL ret ws rm 0 0 n) (hrec : wc[0]? = some (b, .inr (ci, fs))) (hc : vwCl[ci]? = some (C, T, N)) (hn : As.length = n) (hsz : ls.size = nL) (hst : st0 = As.reverse ++ .ref b :: rest) (hW : (rest.map fun v => v.category).sum ≤ 8)
    (hdg : decode cc pc = .ok (.invokevirtual index, 3)) (hcs : cells ≤ R.cells ∧ slots ≤ R.slots)
    (kk : bo r → ∀ (H1 : Heap) (locs1 : List Loc), va_P D vwCl (wr ++ wc') H1 → va_D A (wr ++ wc') → va_S A H0 H1 locs1 → W p l e R s m args below meth c H1 locs1 cells slots Q (F0 m (pc + 3) ls (.int r :: rest))) : W p l e R s m args below meth c H locs cells slots Q (F0 m pc ls st0) := by
  subst hst
  have hPc := hP.sub isC (fm_map hC)
  have hDc := hD.sub isC hnC hC
  have hFc := va_free (wc := wc) hD hS hA isC hC
  refine va_calli (va_runV S hM cw ⟨PcW_blind, va_recv hK.1 hPc hc hrec, fun U hU hW => ⟨rfl, by rw [hU], by rw [hU]; exact hPc, hK.warm hW, hDc.weaken (fun _ _ _ _ => trivial)⟩⟩ rfl hn hsz rfl (lv_room hW) hdg hcs) hS (fun q _ h => hFc q h) hFc (fun r' u t H1 locs1 ht hvm hw hB hz1 hk1 hS1 => ?_)
  obtain ⟨rfl, hz⟩ := hw
  obtain ⟨hP1, hD1⟩ := hB
  rw [ht] at hP1
  obtain ⟨hP2, hD2⟩ := va_join hP hD isC isR hC hR hnR hdis hk1 hFc hP1 hD1
  exact kk hz H1 locs1 hP2 hD2 hS1
theorem callWVl {As rest st0 : List Value} {r : Int64} (S : CallFix p m c cc nL s args Ts own) (hK : KK D cI cZ cB cJ s) (hP : va_P D vwCl wsx H) (hD : va_D A wsx) (hS : va_S A H0 H locs) (hA : ∀ q, H0.size ≤ q → A q)
    (hM : Met l y ws rm (PcW D cI cZ cB cJ H.size wc (.ref b :: As)) (QWl D cI cZ cB cJ H.size wc wc' r) 0 0 (va_A wc H.size)) (isC isR : List Nat) (hC : isC.map (fun i => wsx[i]?) = wc.map some) (hR : isR.map (fun i => wsx[i]?) = wr.map some) (hnC : va_nd isC = true) (hnR : va_nd isR = true) (hdis : ∀ i ∈ isR, i ∉ isC)
    (cw : CallW R s args own C index y bytes maxL ret ws rm 0 0 n) (hrec : wc[0]? = some (b, .inr (ci, fs))) (hc : vwCl[ci]? = some (C, T, N)) (hn : As.length = n) (hsz : ls.size = nL) (hst : st0 = As.reverse ++ .ref b :: rest) (hW : (rest.map fun v => v.category).sum ≤ 8)
    (hdg : decode cc pc = .ok (.invokevirtual index, 3)) (hcs : cells ≤ R.cells ∧ slots ≤ R.slots)
    (kk : ∀ (H1 : Heap) (locs1 : List Loc), va_P D vwCl (wr ++ wc') H1 → va_D A (wr ++ wc') → va_S A H0 H1 locs1 → W p l e R s m args below meth c H1 locs1 cells slots Q (F0 m (pc + 3) ls (.long r :: rest))) : W p l e R s m args below meth c H locs cells slots Q (F0 m pc ls st0) := by
  subst hst
  have hPc := hP.sub isC (fm_map hC)
  have hDc := hD.sub isC hnC hC
  have hFc := va_free (wc := wc) hD hS hA isC hC
  refine va_calll (va_runV S hM cw ⟨PcW_blind, va_recv hK.1 hPc hc hrec, fun U hU hW => ⟨rfl, by rw [hU], by rw [hU]; exact hPc, hK.warm hW, hDc.weaken (fun _ _ _ _ => trivial)⟩⟩ rfl hn hsz rfl (lv_room hW) hdg hcs) hS (fun q _ h => hFc q h) hFc (fun r' u t H1 locs1 ht hvm hw hB hz1 hk1 hS1 => ?_)
  subst hw
  obtain ⟨hP1, hD1⟩ := hB
  rw [ht] at hP1
  obtain ⟨hP2, hD2⟩ := va_join hP hD isC isR hC hR hnR hdis hk1 hFc hP1 hD1
  exact kk H1 locs1 hP2 hD2 hS1
theorem callWVv {As rest st0 : List Value} (S : CallFix p m c cc nL s args Ts own) (hK : KK D cI cZ cB cJ s) (hP : va_P D vwCl wsx H) (hD : va_D A wsx) (hS : va_S A H0 H locs) (hA : ∀ q, H0.size ≤ q → A q)
    (hM : Met l y ws rm (PcW D cI cZ cB cJ H.size wc (.ref b :: As)) (QWv D cI cZ cB cJ H.size wc wc') 0 0 (va_A wc H.size)) (isC isR : List Nat) (hC : isC.map (fun i => wsx[i]?) = wc.map some) (hR : isR.map (fun i => wsx[i]?) = wr.map some) (hnC : va_nd isC = true) (hnR : va_nd isR = true) (hdis : ∀ i ∈ isR, i ∉ isC)
    (cw : CallW R s args own C index y bytes maxL ret ws rm 0 0 n) (hrec : wc[0]? = some (b, .inr (ci, fs))) (hc : vwCl[ci]? = some (C, T, N)) (hn : As.length = n) (hsz : ls.size = nL) (hst : st0 = As.reverse ++ .ref b :: rest) (hW : (rest.map fun v => v.category).sum ≤ 8)
    (hdg : decode cc pc = .ok (.invokevirtual index, 3)) (hcs : cells ≤ R.cells ∧ slots ≤ R.slots)
    (kk : ∀ (H1 : Heap) (locs1 : List Loc), va_P D vwCl (wr ++ wc') H1 → va_D A (wr ++ wc') → va_S A H0 H1 locs1 → W p l e R s m args below meth c H1 locs1 cells slots Q (F0 m (pc + 3) ls rest)) : W p l e R s m args below meth c H locs cells slots Q (F0 m pc ls st0) := by
  subst hst
  have hPc := hP.sub isC (fm_map hC)
  have hDc := hD.sub isC hnC hC
  have hFc := va_free (wc := wc) hD hS hA isC hC
  refine va_callv (va_runV S hM cw ⟨PcW_blind, va_recv hK.1 hPc hc hrec, fun U hU hW => ⟨rfl, by rw [hU], by rw [hU]; exact hPc, hK.warm hW, hDc.weaken (fun _ _ _ _ => trivial)⟩⟩ rfl hn hsz rfl (lv_room hW) hdg hcs) hS (fun q _ h => hFc q h) hFc (fun u t H1 locs1 ht hvm hw hB hz1 hk1 hS1 => ?_)
  obtain ⟨hP1, hD1⟩ := hB
  rw [ht] at hP1
  obtain ⟨hP2, hD2⟩ := va_join hP hD isC isR hC hR hnR hdis hk1 hFc hP1 hD1
  exact kk H1 locs1 hP2 hD2 hS1
/-- a static method of a nest mate that writes, void (enter) -/
theorem callWNv {As rest st0 : List Value} (S : CallFix p m c cc nL s args Ts own) (hK : KK D cI cZ cB cJ s) (hP : va_P D vwCl wsx H) (hD : va_D A wsx) (hS : va_S A H0 H locs) (hA : ∀ q, H0.size ≤ q → A q)
    (hM : Met l y ws rm (PcW D cI cZ cB cJ H.size wc As) (QWv D cI cZ cB cJ H.size wc wc') 0 0 (va_A wc H.size)) (isC isR : List Nat) (hC : isC.map (fun i => wsx[i]?) = wc.map some) (hR : isR.map (fun i => wsx[i]?) = wr.map some) (hnC : va_nd isC = true) (hnR : va_nd isR = true) (hdis : ∀ i ∈ isR, i ∉ isC)
    (cw : va_CN R s args own index y host bytes maxL ret ws rm 0 0 n ∧ (Cond.static y).before args s = true ∧ True) (hn : As.length = n) (hsz : ls.size = nL) (hst : st0 = As.reverse ++ rest) (hW : (rest.map fun v => v.category).sum ≤ 8)
    (hdg : decode cc pc = .ok (.invokestatic index, 3)) (hcs : cells ≤ R.cells ∧ slots ≤ R.slots)
    (kk : ∀ (H1 : Heap) (locs1 : List Loc), va_P D vwCl (wr ++ wc') H1 → va_D A (wr ++ wc') → va_S A H0 H1 locs1 → W p l e R s m args below meth c H1 locs1 cells slots Q (F0 m (pc + 3) ls rest)) : W p l e R s m args below meth c H locs cells slots Q (F0 m pc ls st0) := by
  subst hst
  have hPc := hP.sub isC (fm_map hC)
  have hDc := hD.sub isC hnC hC
  have hFc := va_free (wc := wc) hD hS hA isC hC
  refine va_callv (va_runSN S hM cw ⟨PcW_blind, fun U hU hW => ⟨rfl, by rw [hU], by rw [hU]; exact hPc, hK.warm hW, hDc.weaken (fun _ _ _ _ => trivial)⟩⟩ rfl hn hsz rfl (lv_room hW) hdg hcs) hS (fun q _ h => hFc q h) hFc (fun u t H1 locs1 ht hvm hw hB hz1 hk1 hS1 => ?_)
  obtain ⟨hP1, hD1⟩ := hB
  rw [ht] at hP1
  obtain ⟨hP2, hD2⟩ := va_join hP hD isC isR hC hR hnR hdis hk1 hFc hP1 hD1
  exact kk H1 locs1 hP2 hD2 hS1
/-- arrays -/
theorem xiald {rest : List Value} (hx : p.tables.exec = Jvm.exec) (hb : c.code = cc) (hK : KK D cI cZ cB cJ s) (hP : va_P D vwCl wsx H) (q0 : Nat) {a n : Nat} {f : Nat → Int32} (ha : wsx[q0]? = some (a, .inl (cI, n, .inl f))) {i v : Int32} (hin : vp_in i n) (hv : f i.toNatClampNeg = v) (hdg : decode cc pc = .ok (.iaload, 1))
    (kk : W p l e R s m args below meth c H locs cells slots Q (F0 m (pc + 1) ls (.int v :: rest))) : W p l e R s m args below meth c H locs cells slots Q (F0 m pc ls (.int i :: .ref a :: rest)) := by
  subst hv; exact va_iald hx hb hK.1 hP q0 0 ha rfl hin hdg kk
theorem xiast {rest : List Value} (hx : p.tables.exec = Jvm.exec) (hb : c.code = cc) (hK : KK D cI cZ cB cJ s) (hP : va_P D vwCl wsx H) (hD : va_D A wsx) (hS : va_S A H0 H locs) (q0 : Nat) {a n : Nat} {f f' : Nat → Int32} (ha : wsx[q0]? = some (a, .inl (cI, n, .inl f))) {i x : Int32} (hin : vp_in i n) (hv : upd f i.toNatClampNeg x = f') {ws2 : va_W} (hw : wsx.set q0 (a, .inl (cI, n, .inl f')) = ws2) (hdg : decode cc pc = .ok (.iastore, 1))
    (kk : ∀ (H1 : Heap) (locs1 : List Loc), va_P D vwCl ws2 H1 → va_D A ws2 → va_S A H0 H1 locs1 → W p l e R s m args below meth c H1 locs1 cells slots Q (F0 m (pc + 1) ls rest)) : W p l e R s m args below meth c H locs cells slots Q (F0 m pc ls (.int x :: .int i :: .ref a :: rest)) := by
  subst hv; subst hw; exact va_iast hx hb hK.1 hP hD hS q0 0 ha rfl hin hdg kk
theorem xalen {rest : List Value} (hx : p.tables.exec = Jvm.exec) (hb : c.code = cc) (hK : KK D cI cZ cB cJ s) (hP : va_P D vwCl wsx H) (q0 : Nat) {a n : Nat} {f : Nat → Int32} (ha : wsx[q0]? = some (a, .inl (cI, n, .inl f))) {v : Int32} (hv : Int32.ofNat n = v) (hdg : decode cc pc = .ok (.arraylength, 1))
    (kk : W p l e R s m args below meth c H locs cells slots Q (F0 m (pc + 1) ls (.int v :: rest))) : W p l e R s m args below meth c H locs cells slots Q (F0 m pc ls (.ref a :: rest)) :=
  va_alen hx hb hK.1 hP q0 0 ha (ty := .int) rfl hv hdg kk
/-- fields -/
theorem xget {rest : List Value} (hx : p.tables.exec = Jvm.exec) (hb : c.code = cc) (hts : ∀ w ∈ Ts, w.before args s = true) (hin : ∀ w ∈ u_ws C T N, w ∈ Ts) (hown : s.vm.findClass own = some m.cls) (hK : KK D cI cZ cB cJ s) (hP : va_P D vwCl wsx H) (q0 : Nat) {a : Nat} {fs : List Value} (he : wsx[q0]? = some (a, .inr (ci, fs))) (hc : vwCl[ci]? = some (C, T, N)) (k : Nat) (hk : k < N) (hlink : Cond.fieldLink own index (T k).1 (T k).2.1 (T k).2.2.1 ∈ Ts) {v : Value} (hv : fs[k]? = some v) (hdg : decode cc pc = .ok (.getfield index, 3))
    (kk : W p l e R s m args below meth c H locs cells slots Q (F0 m (pc + 3) ls (v :: rest))) : W p l e R s m args below meth c H locs cells slots Q (F0 m pc ls (.ref a :: rest)) :=
  va_get hx hb hts hin hown hK.1 hP q0 he hc k hk (hts _ hlink) (fun _ h => h) hv hdg kk
theorem xgetN {rest : List Value} (hx : p.tables.exec = Jvm.exec) (hb : c.code = cc) (hts : ∀ w ∈ Ts, w.before args s = true) (hin : ∀ w ∈ u_ws C T N, w ∈ Ts) (hown : s.vm.findClass own = some m.cls) (hK : KK D cI cZ cB cJ s) (hP : va_P D vwCl wsx H) (q0 : Nat) {a : Nat} {fs : List Value} (he : wsx[q0]? = some (a, .inr (ci, fs))) (hc : vwCl[ci]? = some (C, T, N)) (k : Nat) (hk : k < N) (hlink : Cond.fieldLinkNest own index (T k).1 (T k).2.1 (T k).2.2.1 host ∈ nwL) {v : Value} (hv : fs[k]? = some v) (hdg : decode cc pc = .ok (.getfield index, 3))
    (kk : W p l e R s m args below meth c H locs cells slots Q (F0 m (pc + 3) ls (v :: rest))) : W p l e R s m args below meth c H locs cells slots Q (F0 m pc ls (.ref a :: rest)) :=
  va_getN hx hb hts hin hown hK.1 hP q0 he hc k hk (va_Nw.use rfl (hK.2 _ hlink)) (fun _ h => h) hv hdg kk
theorem xput {rest : List Value} (hx : p.tables.exec = Jvm.exec) (hb : c.code = cc) (hts : ∀ w ∈ Ts, w.before args s = true) (hin : ∀ w ∈ u_ws C T N, w ∈ Ts) (ty0 : Nat → FieldType) (hty : ∀ k, k < N → parseFieldDescriptor (T k).2.2.1 = some (ty0 k)) (hnm : ∀ a, a < N → ∀ b, b < N → a ≠ b → (T a).2.1 ≠ (T b).2.1) (hown : s.vm.findClass own = some m.cls) (hK : KK D cI cZ cB cJ s) (hP : va_P D vwCl wsx H) (hD : va_D A wsx) (hS : va_S A H0 H locs) (q0 : Nat) {a : Nat} {fs : List Value} (he : wsx[q0]? = some (a, .inr (ci, fs))) (hc : vwCl[ci]? = some (C, T, N)) (k : Nat) (hk : k < N) (hlink : Cond.fieldLink own index (T k).1 (T k).2.1 (T k).2.2.1 ∈ Ts) (hfin : (T k).2.2.2 = false) {ty : FieldType} {v : Value} (hd : parseFieldDescriptor (T k).2.2.1 = some ty) (hn : narrow ty v = v) (hfit : fits ty v = true) (hl : k < fs.length) {ws2 : va_W} (hw : wsx.set q0 (a, .inr (ci, fs.set k v)) = ws2) (hdg : decode cc pc = .ok (.putfield index, 3))
    (kk : ∀ (H1 : Heap) (locs1 : List Loc), va_P D vwCl ws2 H1 → va_D A ws2 → va_S A H0 H1 locs1 → W p l e R s m args below meth c H1 locs1 cells slots Q (F0 m (pc + 3) ls rest)) : W p l e R s m args below meth c H locs cells slots Q (F0 m pc ls (v :: .ref a :: rest)) := by
  subst hw
  exact va_put hx hb hts hin ty0 hty hnm hown hK.1 hP hD hS q0 he hc k hk (hts _ hlink) (fun _ h => h) hfin hd hn hfit hl hdg kk
theorem xddiv {rest : List Value} (hx : p.tables.exec = Jvm.exec) (hb : c.code = cc) {x y v : UInt64} (hne : vf_n64 (FP.ddiv x y)) (hv : FP.ddiv x y = v) (hdg : decode cc pc = .ok (.ddiv, 1))
    (kk : W p l e R s m args below meth c H locs cells slots Q (F0 m (pc + 1) ls (.double v :: rest))) : W p l e R s m args below meth c H locs cells slots Q (F0 m pc ls (.double y :: .double x :: rest)) := by
  subst hv; exact lv_ddiv hx hb hdg hne kk
theorem xdmul {rest : List Value} (hx : p.tables.exec = Jvm.exec) (hb : c.code = cc) {x y v : UInt64} (hne : vf_n64 (FP.dmul x y)) (hv : FP.dmul x y = v) (hdg : decode cc pc = .ok (.dmul, 1))
    (kk : W p l e R s m args below meth c H locs cells slots Q (F0 m (pc + 1) ls (.double v :: rest))) : W p l e R s m args below meth c H locs cells slots Q (F0 m pc ls (.double y :: .double x :: rest)) := by
  subst hv; exact lv_dmul hx hb hdg hne kk
theorem xdsub {rest : List Value} (hx : p.tables.exec = Jvm.exec) (hb : c.code = cc) {x y v : UInt64} (hne : vf_n64 (FP.dsub x y)) (hv : FP.dsub x y = v) (hdg : decode cc pc = .ok (.dsub, 1))
    (kk : W p l e R s m args below meth c H locs cells slots Q (F0 m (pc + 1) ls (.double v :: rest))) : W p l e R s m args below meth c H locs cells slots Q (F0 m pc ls (.double y :: .double x :: rest)) := by
  subst hv; exact lv_dsub hx hb hdg hne kk
theorem xcopyi {rest : List Value} (hx : p.tables.exec = Jvm.exec) (hb : c.code = cc) (hml : c.maxLocals = nL) (hsz : ls.size = nL) (hown : s.vm.findClass own = some m.cls) (hts : ∀ w ∈ Ts, w.before args s = true) (hlink : Cond.methodLink own index arraycopyName ∈ Ts) (hnat : Cond.native arraycopyName ∈ Ts) (hstat : Cond.static arraycopyName ∈ Ts) (hini : Cond.initialized "java/lang/System" ∈ Ts) (hK : KK D cI cZ cB cJ s) (hP : va_P D vwCl wsx H) (hD : va_D A wsx) (hS : va_S A H0 H locs) (q0 q1 : Nat) {a0 a n0 n1 N : Nat} {f g : Nat → Int32} (ha0 : wsx[q0]? = some (a0, .inl (cI, n0, .inl f))) (ha1 : wsx[q1]? = some (a, .inl (cI, n1, .inl g))) {n : Int32} (hn : ¬ n < 0) (hN : n.toNatClampNeg = N) (h4 : 0 + N ≤ n0) (h5 : 0 + N ≤ n1) (hframes : 1 ≤ R.frames) (hlocals : (rest.map fun v => v.category).sum + (nativeFrameWords "java/lang/System" "arraycopy" 5 + 11) ≤ R.locals) {ws2 : va_W} (hw : wsx.set q1 (a, .inl (cI, n1, .inl (va_cpy f g 0 0 N))) = ws2) (hdg : decode cc pc = .ok (.invokestatic index, 3))
    (kk : ∀ (H1 : Heap) (locs1 : List Loc), va_P D vwCl ws2 H1 → va_D A ws2 → va_S A H0 H1 locs1 → W p l e R s m args below meth c H1 locs1 cells slots Q (F0 m (pc + 3) ls rest)) : W p l e R s m args below meth c H locs cells slots Q (F0 m pc ls (.int n :: .int 0 :: .ref a :: .int 0 :: .ref a0 :: rest)) := by
  subst hw; subst hN
  exact va_copyi hx hb (hml.trans hsz.symm) hown (hts _ hlink) (hts _ hnat) (hts _ hstat) (hts _ hini) hK.1 hP hD hS q0 q1 0 0 ha0 ha1 rfl rfl rfl (by decide) (by decide) hn h4 h5 (fun _ _ => rfl) hframes hlocals hdg kk
end XR
