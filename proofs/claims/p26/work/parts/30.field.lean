section RF
variable {n : Nat} {v : Nat → Nat → Int32} {bN bC s st re dr dn sd pl fa : Nat → Int32} {a : Nat} {W : Nat → Prop}
theorem x2_retreat (h : CB n v bN bC) (ha : a < n) (hdv : drv n v a) (hdr : ∀ o, o < n → dr o = drS n v o) (hre : ∀ o, o < n → re o = wyS n v o)
    (hsd : ∀ f, f < 12 → ((∃ b, b < n ∧ sd b = nI f) ↔ ∃ b, b < n ∧ pl b = nI f)) : g_X2_retreatField dr bC bN sd re (nI a) = some (rtS n v pl a) := by
  have hn := h.1
  obtain ⟨b, b1, b2, _⟩ := drv_ix hn hdv
  rw [g_X2_retreatField, x4_entry (show a < 9 by omega), bd_some, hdr a ha, b2, x0_of1 h b1, bd_some]
  refine lpI (fun nf i => g_X2_retreatField_L1 bC (nI a) (v b 1) bN sd re nf (nI i)) 12 _ (by decide) (fun nf i hi => ?_) (fun nf => ?_)
  · have hwf : (∃ o, o < n ∧ re o = 1 ∧ v o 3 = nI i) ↔ ∃ o, o < n ∧ wyS n v o = 1 ∧ v o 3 = nI i :=
      ⟨fun ⟨o, o1, o2⟩ => ⟨o, o1, by rw [← hre o o1]; exact o2⟩, fun ⟨o, o1, o2⟩ => ⟨o, o1, by rw [hre o o1]; exact o2⟩⟩
    have hcl : (drS n v a).toNatClampNeg = b := by rw [b2, nI_clamp (by omega)]
    unfold rtQ
    rw [hcl]
    simp only [g_X2_retreatField_L1, past (M := 12) 12 rfl hi (by decide), x0_of1 h ha, bd_some, x4_nb, x2_isTaken h, x2_wasFought h, bi_c (hsd i hi), bi_c hwf, ibi, nI_1]
    by_cases e1 : nb (v a 1) (nI i) = 0
    · simp [e1]
    · by_cases e2 : nI i = v b 1
      · simp [e1, e2]
      · by_cases e3 : ∃ b, b < n ∧ pl b = nI i
        · rw [if_neg e1, if_neg e2, if_pos e3]
          exact Or.inr ⟨fun q => q.2.2.1 e3, rfl⟩
        · rw [if_neg e1, if_neg e2, if_neg e3]
          by_cases e4 : ∃ o, o < n ∧ wyS n v o = 1 ∧ v o 3 = nI i
          · rw [if_pos e4]
            exact Or.inr ⟨fun q => q.2.2.2 e4, rfl⟩
          · rw [if_neg e4]
            exact Or.inl ⟨⟨e1, e2, e3, e4⟩, rfl⟩
  · rw [g_X2_retreatField_L1, pastE (M := 12) 12 rfl (Nat.le_refl _) (by decide)]
theorem i_dec (i : Nat) : nI (i + 1) - 1 + (-1) = nI i - 1 := by
  rw [nI_pred]; rw [Int32.sub_eq_add_neg]
theorem x5_retreat (h : MB n v s) (hd : dist n v) (ha : a < n) (hdv : drv n v a) (hdr : ∀ o, o < n → dr o = drS n v o) (hf : ∀ a, a < n → fa a = bi (Fx n v a)) (hw : ∀ a, a < n → re a = wyS n v a) : g_X5_retreat s pl fa re dr (nI a) = some (rtS n v pl a) := by
  have hn := h.1
  obtain ⟨b, b1, b2, _⟩ := drv_ix hn hdv
  have hcl : (drS n v a).toNatClampNeg = b := by rw [b2, nI_clamp (by omega)]
  rw [g_X5_retreat, bd_id]
  refine lpB (fun nf i z => g_X5_retreat_L1 s (nI a) pl fa re dr nf z (nI i - 1)) 12 (rtQ n v pl a) (by decide) (fun nf i z hi => ?_) (fun nf z => ?_)
  · have e0 : ¬ nI i < 0 := nI_pos (by omega)
    have e9 : nI i + -1 = nI i - 1 := (Int32.sub_eq_add_neg _ _).symm
    unfold rtQ
    rw [hcl]
    simp only [g_X5_retreat_L1, nI_pred, if_neg e0, x5_of1 h ha, bd_some, x5_nb, x5_isTaken h hd hf hw, ibi, rdA_n (show a < 9 by omega) (show 9 < 2 ^ 31 by decide), hdr a ha, b2, x5_of1 h b1, g_X5_retreat_J1, e9]
    by_cases e1 : nb (v a 1) (nI i) = 0
    · simp [e1]
    · by_cases e3 : (∃ b, b < n ∧ pl b = nI i) ∨ ∃ o, o < n ∧ wyS n v o = 1 ∧ v o 3 = nI i
      · rw [if_neg e1, if_pos e3, if_pos trivial]
        exact Or.inr ⟨fun q => e3.elim q.2.2.1 q.2.2.2, rfl⟩
      · rw [if_neg e1, if_neg e3]
        by_cases e2 : nI i = v b 1
        · rw [if_pos e2.symm, if_pos trivial]
          exact Or.inr ⟨fun q => q.2.1 e2, rfl⟩
        · rw [if_neg (fun q => e2 q.symm), if_neg (by decide)]
          exact Or.inl ⟨⟨e1, e2, fun q => e3 (Or.inl q), fun q => e3 (Or.inr q)⟩, rfl⟩
  · rw [g_X5_retreat_L1, if_pos (by decide)]
end RF
