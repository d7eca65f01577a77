/-! ===== class and model side by side: walkers ===== -/
def ZG (g : Nat) (γ π r : Nat → Int32) : Prop := ∀ j, j < g → r (8 + 2 * j) = γ j ∧ r (8 + 2 * j + 1) = π j ∧ R99 (γ j) ∧ ∃ u, u < 21 ∧ π j = nI u
def ZY (ω γ π r : Nat → Int32) : Prop := (r 0 = ω 3 ∧ r 1 = ω 4 ∧ r 2 = ω 5 ∧ r 3 = ω 2 ∧ r 4 = ω 6 ∧ r 5 = ω 7 ∧ r 6 = ω 8) ∧ R99 (ω 3) ∧ (∃ c, c < 4 ∧ ω 4 = nI (c + 1)) ∧
  ∃ g, g ≤ 6 ∧ ω 2 = nI g ∧ (ω 5 = 0 ∨ (ω 5 = 1 ∧ g = 0)) ∧ ZG g γ π r ∧ (ω 6 = -6 ∨ ∃ s, ω 6 = nI s ∧ 1 ≤ g ∧ ∃ u, u < 21 ∧ π 0 = nI u ∧ s < u)
theorem xsub_le {a b : Nat} (h : a ≤ b) : nI b - nI a = nI (b - a) := by
  have : nI b = nI (b - a) + nI a := by rw [nI_add, show b - a + a = b by omega]
  rw [this, Int32.add_sub_cancel]
theorem xsub_gt {a b : Nat} (h : b ≤ a) : nI b - nI a = -(nI (a - b)) := by
  have : nI a = nI (a - b) + nI b := by rw [nI_add, show a - b + b = a by omega]
  rw [this, Int32.sub_eq_add_neg, Int32.neg_add, Int32.sub_eq_add_neg, Int32.add_comm (-(nI (a - b))) (-(nI b)), ← Int32.add_assoc, Int32.add_right_neg, Int32.zero_add]
theorem xst1 {p d : Nat} (hp : p < 4) (hd : d < 100) : xmax (-(nI (p + 1))) (xmin (nI (p + 1)) (nI d)) = nI (min (p + 1) d) := (show ∀ p, p < 4 → ∀ d, d < 100 → xmax (-(nI (p + 1))) (xmin (nI (p + 1)) (nI d)) = nI (min (p + 1) d) from by decide +kernel) p hp d hd
theorem xst2 {p d : Nat} (hp : p < 4) (hd : d < 100) : xmax (-(nI (p + 1))) (xmin (nI (p + 1)) (-(nI d))) = -(nI (min (p + 1) d)) := (show ∀ p, p < 4 → ∀ d, d < 100 → xmax (-(nI (p + 1))) (xmin (nI (p + 1)) (-(nI d))) = -(nI (min (p + 1) d)) from by decide +kernel) p hp d hd
theorem xst3 {m d : Nat} (hm : m < 100) (hd : d < 100) : (nI m = nI d ↔ m = d) ∧ (-(nI m) = -(nI d) ↔ m = d) := by
  have e : nI m = nI d ↔ m = d := ⟨fun z => xnIinj (by omega) (by omega) z, fun z => by rw [z]⟩
  exact ⟨e, ⟨fun z => e.mp (by rw [← Int32.neg_neg (a := nI m), z, Int32.neg_neg]), fun z => by rw [z]⟩⟩
theorem xst4 {m : Nat} (hm : m < 5) : xabs (nI m) = nI m ∧ xabs (-(nI m)) = nI m := (show ∀ m, m < 5 → xabs (nI m) = nI m ∧ xabs (-(nI m)) = nI m from by decide +kernel) m hm
/-- a step of the way -/
theorem Z_way {ω γ r : Nat → Int32} {a b p : Nat} (ha : a < 100) (hb : b < 100) (hp : p < 4) (e3 : ω 3 = nI a) (e4 : ω 4 = nI (p + 1)) (eg : γ 0 = nI b) (r0 : r 0 = ω 3) (r1 : r 1 = ω 4) (r8 : r 8 = γ 0) :
    Mto r = ω 3 + Fstep ω γ ∧ xabs (Fstep ω γ) = Mby r ∧ (Fstep ω γ = γ 0 - ω 3 ↔ Mto r = r 8) ∧ R99 (ω 3 + Fstep ω γ) := by
  unfold Mto Mby Mfar Fstep
  rw [r0, r1, r8, e3, e4, eg]
  rcases Nat.lt_or_ge b a with h | h
  · have hlt := nI_lt h (show a < 2 ^ 31 by omega)
    have hm : min (p + 1) (a - b) = if a - b < p + 1 then a - b else p + 1 := by split <;> omega
    rw [xsub_gt (by omega), xst2 hp (by omega), if_neg (Int32.not_lt.mpr (Int32.le_of_lt hlt)), if_pos hlt, xsub_le (by omega), ← Int32.sub_eq_add_neg]
    have hb2 : (if nI (a - b) < nI (p + 1) then nI (a - b) else nI (p + 1)) = nI (min (p + 1) (a - b)) := by
      rw [hm]
      by_cases c : a - b < p + 1
      · rw [if_pos c, if_pos (nI_lt c (by omega))]
      · rw [if_neg c, if_neg (xngt (by omega) (by omega))]
    rw [hb2, xsub_le (show min (p + 1) (a - b) ≤ a by omega)]
    refine ⟨rfl, (xst4 (by omega)).2, ?_, ⟨_, by omega, rfl⟩⟩
    rw [(xst3 (by omega) (by omega)).2, (xst3 (by omega) (by omega)).1]
    omega
  · have hnl : ¬ nI b < nI a := xngt h (by omega)
    have hm : min (p + 1) (b - a) = if b - a < p + 1 then b - a else p + 1 := by split <;> omega
    rw [xsub_le h, xst1 hp (by omega), if_neg hnl]
    have hf : (if nI a < nI b then nI (b - a) else nI a - nI b) = nI (b - a) := by
      rcases Nat.lt_or_eq_of_le h with q | q
      · rw [if_pos (nI_lt q (by omega))]
      · rw [← q, if_neg (Int32.lt_irrefl), Nat.sub_self]; exact Int32.sub_self _
    rw [hf]
    have hb2 : (if nI (b - a) < nI (p + 1) then nI (b - a) else nI (p + 1)) = nI (min (p + 1) (b - a)) := by
      rw [hm]
      by_cases c : b - a < p + 1
      · rw [if_pos c, if_pos (nI_lt c (by omega))]
      · rw [if_neg c, if_neg (xngt (by omega) (by omega))]
    rw [hb2, nI_add]
    refine ⟨rfl, (xst4 (by omega)).1, ?_, ⟨_, by omega, rfl⟩⟩
    rw [(xst3 (by omega) (by omega)).1, (xst3 (by omega) (by omega)).1]
    omega
theorem Mmove_at {r : Nat → Int32} : ∀ (k i : Nat) (r : Nat → Int32) (j : Nat), 8 ≤ i → xloop (fun k (r : Nat → Int32) => va_up r k (r (k + 2))) k i r j = if i ≤ j ∧ j < i + k then r (j + 2) else r j
  | 0, i, r, j, _ => by rw [if_neg (by omega)]; rfl
  | k + 1, i, r, j, hi => by
    refine (Mmove_at (r := r) k (i + 1) _ j (by omega)).trans ?_
    dsimp only
    by_cases e : j = i
    · subst e
      rw [if_neg (by omega), if_pos (by omega), va_up_at]
    · by_cases c : i + 1 ≤ j ∧ j < i + 1 + k
      · rw [if_pos c, if_pos (by omega), va_up_ne _ _ (by omega)]
      · rw [if_neg c, if_neg (by omega), va_up_ne _ _ e]
theorem Mend_at {r : Nat → Int32} {g j : Nat} : Mend r g j = if j = 2 then (if nI (g - 1) = 0 then 1 else 0) else if j = 4 then -6 else if 8 ≤ j ∧ j < 8 + 2 * (g - 1) then (va_up r 3 (nI (g - 1))) (j + 2) else if j = 3 then nI (g - 1) else r j := by
  unfold Mend Mmove
  by_cases e2 : j = 2
  · subst e2; rw [if_pos rfl, va_up_at]
  · rw [if_neg e2, va_up_ne _ _ e2]
    by_cases e4 : j = 4
    · subst e4; rw [if_pos rfl, va_up_at]
    · rw [if_neg e4, va_up_ne _ _ e4, Mmove_at (r := r) _ _ _ _ (Nat.le_refl 8)]
      by_cases c : 8 ≤ j ∧ j < 8 + 2 * (g - 1)
      · rw [if_pos c, if_pos c]
      · rw [if_neg c, if_neg c]
        by_cases e3 : j = 3
        · subst e3; rw [if_pos rfl, va_up_at]
        · rw [if_neg e3, va_up_ne _ _ e3]
theorem Fshift_at {γ : Nat → Int32} {j : Nat} (h : j < 5) : Fshift γ j = γ (j + 1) := by
  unfold Fshift va_cpy
  rw [if_pos (by omega)]
  congr 1
  omega
/-- the first goal is done -/
theorem ZY_fin {ω γ π r : Nat → Int32} {g : Nat} (hr : r 0 = ω 3 ∧ r 1 = ω 4 ∧ r 5 = ω 7 ∧ r 6 = ω 8) (h3 : R99 (ω 3)) (h4 : ∃ c, c < 4 ∧ ω 4 = nI (c + 1)) (hg : g ≤ 6) (hg1 : 1 ≤ g) (h2 : ω 2 = nI g) (hG : ZG g γ π r) : ZY (FfinW ω) (Fshift γ) (Fshift π) (Mend r g) := by
  have e2 : ω 2 - 1 = nI (g - 1) := by rw [h2]; exact xnI_pred hg1
  have w2 : FfinW ω 2 = nI (g - 1) := e2
  have w5 : FfinW ω 5 = if nI (g - 1) = 0 then 1 else 0 := by show (if ω 2 - 1 = 0 then (1 : Int32) else 0) = _; rw [e2]
  have m2 : Mend r g 2 = if nI (g - 1) = 0 then 1 else 0 := by rw [Mend_at, if_pos rfl]
  have m3 : Mend r g 3 = nI (g - 1) := by rw [Mend_at, if_neg (by decide), if_neg (by decide), if_neg (by omega), if_pos rfl]
  have m4 : Mend r g 4 = -6 := by rw [Mend_at, if_neg (by decide), if_pos rfl]
  have mk : ∀ j, j < 8 → j ≠ 2 → j ≠ 3 → j ≠ 4 → Mend r g j = r j := fun j hj h2 h3 h4 => by rw [Mend_at, if_neg h2, if_neg h4, if_neg (by omega), if_neg h3]
  refine ⟨⟨(mk 0 (by omega) (by omega) (by omega) (by omega)).trans hr.1, (mk 1 (by omega) (by omega) (by omega) (by omega)).trans hr.2.1, m2.trans w5.symm, m3.trans w2.symm, m4, (mk 5 (by omega) (by omega) (by omega) (by omega)).trans hr.2.2.1, (mk 6 (by omega) (by omega) (by omega) (by omega)).trans hr.2.2.2⟩, h3, h4, g - 1, by omega, w2, ?_, fun j hj => ?_, Or.inl rfl⟩
  · rw [w5]
    by_cases c : g = 1
    · exact Or.inr ⟨if_pos (by rw [c]; rfl), by omega⟩
    · exact Or.inl (if_neg (nI_ne0 (by omega) (by omega)))
  · have hj1 := hG (j + 1) (by omega)
    rw [Fshift_at (by omega), Fshift_at (by omega)]
    refine ⟨?_, ?_, hj1.2.2⟩
    · rw [Mend_at, if_neg (by omega), if_neg (by omega), if_pos (by omega), va_up_ne _ _ (by omega), show 8 + 2 * j + 2 = 8 + 2 * (j + 1) by omega]
      exact hj1.1
    · rw [Mend_at, if_neg (by omega), if_neg (by omega), if_pos (by omega), va_up_ne _ _ (by omega), show 8 + 2 * j + 1 + 2 = 8 + 2 * (j + 1) + 1 by omega]
      exact hj1.2.1
