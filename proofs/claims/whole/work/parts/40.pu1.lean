/-! ===== class and model side by side: lamps ===== -/
theorem xloop_sim {α β : Type} {f : Nat → α → α} {g : Nat → β → β} (R : Nat → α → β → Prop) : ∀ (k i : Nat) (a : α) (b : β), (∀ j a b, i ≤ j → j < i + k → R j a b → R (j + 1) (f j a) (g j b)) → R i a b → R (i + k) (xloop f k i a) (xloop g k i b)
  | 0, _, _, _, _, h => h
  | k + 1, i, a, b, hs, h => by
    have := xloop_sim R k (i + 1) (f i a) (g i b) (fun j a b h1 h2 h3 => hs j a b (by omega) (by omega) h3) (hs i a b (Nat.le_refl _) (by omega) h)
    rw [show i + 1 + k = i + (k + 1) by omega] at this
    exact this
def R99 (x : Int32) : Prop := ∃ a, a < 100 ∧ x = nI a
def R3 (x : Int32) : Prop := ∃ a, a < 3 ∧ x = nI a
def RWt (w k w' k' : Int32) : Prop := (w = -6 ∧ w' = 0) ∨ ((∃ a, a < 10 ∧ w = nI (a + 1)) ∧ w' = w ∧ k' = k ∧ ∃ b, b < 7 ∧ k = nI b)
def RDo (d l : Int32) : Prop := d = 0 ∨ ((d = 1 ∨ d = 2) ∧ ∃ a, a < 50 ∧ l = nI (a + 1))
def ZL (ℓ m : Nat → Int32) : Prop := (m 0 = ℓ 0 ∧ m 1 = ℓ 1 ∧ m 2 = ℓ 2 ∧ m 3 = ℓ 3 ∧ m 4 = ℓ 4 ∧ m 7 = ℓ 7 ∧ m 8 = ℓ 8 ∧ m 9 = ℓ 9 ∧ m 10 = ℓ 10) ∧ RWt (ℓ 5) (ℓ 6) (m 5) (m 6) ∧ RDo (ℓ 2) (ℓ 4) ∧ R99 (ℓ 0) ∧ R3 (ℓ 3)
def ZLf (ℓ m : Nat → Int32) : Prop := ZL ℓ m ∧ m 12 = ℓ 11 ∧ m 11 = ℓ 12 ∧ (ℓ 11 = 0 ∨ (ℓ 11 = 1 ∧ ℓ 2 = 2)) ∧ (ℓ 12 = 0 ∨ ℓ 12 = 1)
def RSt (s sg : Nat → Int32) : Prop := (sg 0 = s 0 ∧ sg 2 = s 2 ∧ sg 3 = s 3 ∧ sg 4 = s 4 ∧ sg 5 = s 5) ∧ (∃ a, a < 50 ∧ s 2 = nI (a + 1)) ∧ (∃ a, a < 51 ∧ s 3 = nI a) ∧ (∃ a, a < 10 ∧ s 4 = nI (a + 1)) ∧ (∃ a, a < 7 ∧ s 5 = nI a)
theorem RWt_iff {w k w' k' : Int32} (h : RWt w k w' k') : w = -6 ↔ w' = 0 := by
  rcases h with ⟨a, b⟩ | ⟨⟨a, ha, e⟩, e2, _⟩
  · exact ⟨fun _ => b, fun _ => a⟩
  · rw [e2, e]
    have := (show ∀ a, a < 10 → (nI (a + 1) = -6 ↔ nI (a + 1) = 0) from by decide +kernel) a ha
    exact this
theorem xfar_eq {x y : Int32} (hx : R99 x) (hy : R99 y) : Mfar x y = xabs (x - y) := by
  obtain ⟨a, ha, rfl⟩ := hx
  obtain ⟨b, hb, rfl⟩ := hy
  exact (show ∀ a, a < 100 → ∀ b, b < 100 → Mfar (nI a) (nI b) = xabs (nI a - nI b) from by decide +kernel) a ha b hb
theorem RL_wake {s sg ℓ m : Nat → Int32} (hs : RSt s sg) (h : ZLf ℓ m) : ZLf (Fwake (s 2) ℓ) (Mshine sg m) := by
  obtain ⟨⟨⟨a0, a1, a2, a3, a4, a7, a8, a9, a10⟩, hw, hd, h0⟩, f1, f2, f3, f4⟩ := h
  exact ⟨⟨⟨a0, a1, rfl, a3, hs.1.2.1, a7, a8, a9, a10⟩, hw, Or.inr ⟨Or.inr rfl, hs.2.1⟩, h0⟩, rfl, f2, Or.inr ⟨rfl, rfl⟩, f4⟩
theorem RL_heard {ℓ m : Nat → Int32} (h : ZLf ℓ m) : ZLf (va_up ℓ 9 (ℓ 9 + 1)) (va_up m 9 (m 9 + 1)) := by
  obtain ⟨⟨⟨a0, a1, a2, a3, a4, a7, a8, a9, a10⟩, hw, hd, h0⟩, f⟩ := h
  exact ⟨⟨⟨a0, a1, a2, a3, a4, a7, a8, congrArg (· + 1) a9, a10⟩, hw, hd, h0⟩, f⟩
theorem RL_coughs {ℓ m : Nat → Int32} (h : ZLf ℓ m) : ZLf (va_up ℓ 8 (ℓ 8 + 1)) (va_up m 8 (m 8 + 1)) := by
  obtain ⟨⟨⟨a0, a1, a2, a3, a4, a7, a8, a9, a10⟩, hw, hd, h0⟩, f⟩ := h
  exact ⟨⟨⟨a0, a1, a2, a3, a4, a7, congrArg (· + 1) a8, a9, a10⟩, hw, hd, h0⟩, f⟩
theorem RL_blame {ℓ m : Nat → Int32} (h : ZLf ℓ m) : ZLf (va_up ℓ 10 (ℓ 10 + 1)) (va_up m 10 (m 10 + 1)) := by
  obtain ⟨⟨⟨a0, a1, a2, a3, a4, a7, a8, a9, a10⟩, hw, hd, h0⟩, f⟩ := h
  exact ⟨⟨⟨a0, a1, a2, a3, a4, a7, a8, a9, congrArg (· + 1) a10⟩, hw, hd, h0⟩, f⟩
theorem RL_hear {rk : Int32} {s sg ℓ m : Nat → Int32} (hs : RSt s sg) (hr : ∃ b, b < 7 ∧ rk = nI b) (h : ZLf ℓ m) : ZLf (Fhear rk s ℓ) (Mhear rk sg m) := by
  have h1 := RL_wake hs (RL_heard h)
  have hw := RWt_iff h.1.2.1
  unfold Fhear Mhear
  by_cases c : rk < s 5 ∧ ℓ 5 = -6 ∧ ℓ 12 = 0
  · rw [if_pos c, if_pos ⟨by rw [hs.1.2.2.2.2]; exact c.1, hw.mp c.2.1, by rw [h.2.2.1]; exact c.2.2⟩]
    obtain ⟨⟨⟨a0, a1, a2, a3, a4, a7, a8, a9, a10⟩, _, hd, h0⟩, f⟩ := h1
    refine ⟨⟨⟨a0, a1, a2, a3, a4, a7, a8, a9, a10⟩, Or.inr ⟨hs.2.2.2.1, hs.1.2.2.2.1, rfl, ?_⟩, hd, h0⟩, f⟩
    obtain ⟨b, hb, rfl⟩ := hr
    obtain ⟨d, hd', e⟩ := hs.2.2.2.2
    have : b < d := (nI_ltI (by omega) (by omega)).mp (by rw [← e]; exact c.1)
    exact ⟨b + 1, by omega, nI_1 b⟩
  · rw [if_neg c, if_neg (fun d => c ⟨by rw [← hs.1.2.2.2.2]; exact d.1, hw.mpr d.2.1, by rw [← h.2.2.1]; exact d.2.2⟩)]
    exact h1
theorem RL_forget {ℓ m : Nat → Int32} (h : ZL ℓ m) : ZLf (Fforget ℓ) (va_up (va_up m 11 0) 12 0) := ⟨h, rfl, rfl, Or.inl rfl, Or.inl rfl⟩
theorem RL_turn {s sg ℓ m : Nat → Int32} (hs : RSt s sg) (h : ZLf ℓ m) : ZLf (va_up (va_up (va_up (va_up (va_up ℓ 2 2) 4 (s 2)) 11 1) 5 (-6)) 12 1) (Mturn sg m) := by
  obtain ⟨⟨⟨a0, a1, a2, a3, a4, a7, a8, a9, a10⟩, hw, hd, h0⟩, f1, f2, f3, f4⟩ := h
  exact ⟨⟨⟨a0, a1, rfl, a3, hs.1.2.1, a7, a8, a9, a10⟩, Or.inl ⟨rfl, rfl⟩, Or.inr ⟨Or.inr rfl, hs.2.1⟩, h0⟩, rfl, rfl, Or.inr ⟨rfl, rfl⟩, Or.inr rfl⟩
theorem RL_use {ℓ m : Nat → Int32} (h : ZLf ℓ m) : ZLf (Fuse ℓ) (Muse m) := by
  obtain ⟨⟨⟨a0, a1, a2, a3, a4, a7, a8, a9, a10⟩, hw, hd, h0⟩, f⟩ := h
  unfold Fuse Muse
  rw [a2]
  by_cases c : ℓ 2 = 2
  · rw [if_pos c, if_pos c]
    exact ⟨⟨⟨a0, a1, a2, a3, a4, congrArg (· + 4) a7, a8, a9, a10⟩, hw, hd, h0⟩, f⟩
  · rw [if_neg c, if_neg c]
    by_cases c1 : ℓ 2 = 1
    · rw [if_pos c1, if_pos c1]
      exact ⟨⟨⟨a0, a1, a2, a3, a4, congrArg (· + 1) a7, a8, a9, a10⟩, hw, hd, h0⟩, f⟩
    · rw [if_neg c1, if_neg c1, xadd0]
      exact ⟨⟨⟨a0, a1, a2, a3, a4, a7, a8, a9, a10⟩, hw, hd, h0⟩, f⟩
theorem RL_fade {s sg ℓ m : Nat → Int32} (hs : RSt s sg) (h : ZLf ℓ m) : ZLf (Ffade (s 3) ℓ) (Mfade sg m) := by
  obtain ⟨⟨⟨a0, a1, a2, a3, a4, a7, a8, a9, a10⟩, hw, hd, h0⟩, f1, f2, f3, f4⟩ := h
  have base : ZLf ℓ m := ⟨⟨⟨a0, a1, a2, a3, a4, a7, a8, a9, a10⟩, hw, hd, h0⟩, f1, f2, f3, f4⟩
  unfold Ffade Mfade
  rw [a2, a4, f1, hs.1.2.2.1]
  by_cases c0 : ℓ 2 = 0
  · rw [if_pos c0, if_pos c0]; exact base
  · rw [if_neg c0, if_neg c0]
    obtain ⟨h12, a, ha, e4⟩ := hd.resolve_left c0
    by_cases c1 : ℓ 11 = 0
    · have n1 : ¬ ¬ ℓ 11 = 0 := fun z => z c1
      have n2 : ¬ (ℓ 2 = 2 ∧ ℓ 11 = 1) := fun z => absurd (z.2.symm.trans c1) (by decide)
      rw [if_neg n1, if_neg n2, e4]
      by_cases ca : a = 0
      · subst ca
        have p0 : ¬ 0 < nI (0 + 1) - 1 := by decide
        have q0 : nI (0 + 1) + (-1) = 0 := by decide
        rw [if_neg p0, if_pos q0]
        by_cases c2 : ℓ 2 = 2 ∧ 0 < s 3
        · rw [if_pos c2, if_pos c2]
          refine ⟨⟨⟨a0, a1, rfl, a3, rfl, a7, a8, a9, a10⟩, hw, Or.inr ⟨Or.inl rfl, ?_⟩, h0⟩, f1, f2, Or.inl c1, f4⟩
          obtain ⟨b, hb, e⟩ := hs.2.2.1
          have h0b : (0 : Nat) < b := (nI_ltI (a := 0) (by decide) (by omega)).mp (by rw [← e]; exact c2.2)
          exact ⟨b - 1, by omega, by show s 3 = _; rw [e, show b - 1 + 1 = b by omega]⟩
        · rw [if_neg c2, if_neg c2]
          exact ⟨⟨⟨a0, a1, rfl, a3, (show (0 : Int32) = nI (0 + 1) - 1 from by decide), a7, a8, a9, a10⟩, hw, Or.inl rfl, h0⟩, f1, f2, Or.inl c1, f4⟩
      · have hp : 0 < nI (a + 1) - 1 := by rw [xdn1]; exact nI_lt (a := 0) (by omega) (by omega)
        have hq : nI (a + 1) + (-1) = nI (a + 1) - 1 := (Int32.sub_eq_add_neg _ _).symm
        rw [if_pos hp, hq, if_neg (by rw [xdn1]; exact nI_ne0 (by omega) (by omega))]
        exact ⟨⟨⟨a0, a1, a2, a3, rfl, a7, a8, a9, a10⟩, hw, Or.inr ⟨h12, a - 1, by omega, by show nI (a + 1) - 1 = _; rw [xdn1, show a - 1 + 1 = a by omega]⟩, h0⟩, f1, f2, f3, f4⟩
    · rw [if_pos c1]
      have c11 := f3.resolve_left c1
      rw [if_pos ⟨c11.2, c11.1⟩]; exact base
