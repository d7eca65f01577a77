theorem vu2 {f g : Nat → Int32} {a b i j : Nat} {x y : Int32} (h : f i = g j) (hi : i ≠ a) (hj : j ≠ b) : va_up f a x i = va_up g b y j := by rw [va_up_ne _ _ hi, va_up_ne _ _ hj]; exact h
theorem vu1 {P : Int32 → Prop} {f : Nat → Int32} {a i : Nat} {x : Int32} (h : P (f i)) (hi : i ≠ a) : P (va_up f a x i) := by rw [va_up_ne _ _ hi]; exact h
theorem z0nI : (0 : Int32) = nI 0 := by decide
theorem Z_go2 {ω γ π r : Nat → Int32} {g s u' : Nat} (hb : r 0 = ω 3 ∧ r 1 = ω 4 ∧ r 2 = ω 5 ∧ r 3 = ω 2 ∧ r 4 = ω 6 ∧ r 5 = ω 7 ∧ r 6 = ω 8) (h3 : R99 (ω 3)) (h4 : ∃ c, c < 4 ∧ ω 4 = nI (c + 1)) (hg : g ≤ 6) (e2 : ω 2 = nI g) (e5 : ω 5 = 0) (hG : ZG g γ π r) (hg1 : 1 ≤ g) (e6 : ω 6 = nI s) (hu' : u' < 21) (eu' : π 0 = nI u') (hsu : s < u') (r9 : r 9 = π 0) :
    ZY (if ¬ ω 6 = -6 then (if π 0 ≤ ω 6 + 1 then FfinW (va_up ω 6 (ω 6 + 1)) else va_up ω 6 (ω 6 + 1)) else if Fstep ω γ = γ 0 - ω 3 then FarrW (Fgone ω γ) π else Fgone ω γ)
      (if ¬ ω 6 = -6 then (if π 0 ≤ ω 6 + 1 then Fshift γ else γ) else if Fstep ω γ = γ 0 - ω 3 then FarrP π γ else γ)
      (if ¬ ω 6 = -6 then (if π 0 ≤ ω 6 + 1 then Fshift π else π) else if Fstep ω γ = γ 0 - ω 3 then FarrP π π else π)
      (if r 4 < 0 then Mwalk r g else if r 4 + 1 = r 9 then Mend (va_up r 4 (r 4 + 1)) g else va_up r 4 (r 4 + 1)) := by
  obtain ⟨b0, b1, b2, b3, b4, b5, b6⟩ := hb
  obtain ⟨c, hc, e4⟩ := h4
  have n6 : ¬ ω 6 = -6 := by rw [e6]; exact (show ∀ s, s < 21 → ¬ nI s = -6 from by decide +kernel) s (by omega)
  have n4 : ¬ r 4 < 0 := by rw [b4, e6]; exact Int32.not_lt.mpr (xnle (b := 0) (by omega) (Nat.zero_le _))
  rw [if_pos n6, if_pos n6, if_pos n6, if_neg n4, b4, show r 9 = π 0 from r9, e6, eu', nI_1]
  have hG' : ZG g γ π (va_up r 4 (nI (s + 1))) := fun j hj => by
    obtain ⟨p1, p2, p3⟩ := hG j hj
    exact ⟨(va_up_ne _ _ (by omega)).trans p1, (va_up_ne _ _ (by omega)).trans p2, p3⟩
  by_cases cu : u' = s + 1
  · subst cu
    rw [if_pos (Int32.le_refl _), if_pos (Int32.le_refl _), if_pos (Int32.le_refl _), if_pos rfl]
    exact ZY_fin (ω := va_up ω 6 (nI (s + 1))) ⟨b0, b1, b5, b6⟩ h3 ⟨c, hc, e4⟩ hg hg1 e2 hG'
  · have nle : ¬ nI u' ≤ nI (s + 1) := nI_ge (by omega) (by omega)
    rw [if_neg nle, if_neg nle, if_neg nle, if_neg (fun z => cu (xnIinj (by omega) (by omega) z).symm)]
    exact ⟨⟨b0, b1, b2, b3, rfl, b5, b6⟩, h3, ⟨c, hc, e4⟩, g, hg, e2, Or.inl e5, hG', Or.inr ⟨s + 1, rfl, by omega, u', hu', eu', by omega⟩⟩
theorem Z_go {ω γ π r : Nat → Int32} (h : ZY ω γ π r) : ZY (FgoW ω γ π) (FgoP ω γ π γ) (FgoP ω γ π π) (Mgo r (r 3).toNatClampNeg) := by
  obtain ⟨⟨b0, b1, b2, b3, b4, b5, b6⟩, h3, ⟨c, hc, e4⟩, g, hg, e2, h5, hG, h6⟩ := h
  have base : ZY ω γ π r := ⟨⟨b0, b1, b2, b3, b4, b5, b6⟩, h3, ⟨c, hc, e4⟩, g, hg, e2, h5, hG, h6⟩
  have eg : (r 3).toNatClampNeg = g := by rw [b3, e2]; exact nI_clamp (by omega)
  rw [eg]
  unfold FgoW FgoP Mgo
  by_cases g0 : g = 0
  · have z2 : ω 2 = 0 := by rw [e2, g0]; exact z0nI.symm
    rw [if_pos z2, if_pos z2, if_pos z2]
    by_cases c1 : Mstr r = 0
    · rw [if_pos c1]; exact base
    · rw [if_neg c1, if_pos (show nI g = 0 by rw [g0]; exact z0nI.symm)]; exact base
  · have n2 : ¬ ω 2 = 0 := by rw [e2]; exact nI_ne0 (by omega) (by omega)
    have e5 : ω 5 = 0 := h5.resolve_right (fun z => g0 z.2)
    have ng : ¬ nI g = 0 := nI_ne0 (by omega) (by omega)
    have ns : ¬ Mstr r = 0 := fun z => Mstr_0.mp z (by rw [b2]; exact e5)
    rw [if_neg n2, if_neg n2, if_neg n2, if_neg ns, if_neg ng]
    obtain ⟨r8, r9, hgam, u, hu, eu⟩ := hG 0 (by omega)
    rcases h6 with e6 | ⟨s, e6, _, u', hu', eu', hsu⟩
    · have nn : ¬ ¬ ω 6 = -6 := fun z => z e6
      rw [if_neg nn, if_neg nn, if_neg nn, if_pos (show r 4 < 0 by rw [b4, e6]; decide)]
      obtain ⟨a, ha, ea⟩ := h3
      obtain ⟨b, hb, eb⟩ := hgam
      obtain ⟨w1, w2, w3, w4⟩ := Z_way ha hb hc ea e4 eb b0 b1 r8
      have f3 : Fgone ω γ 3 = ω 3 + Fstep ω γ := by unfold Fgone; rw [va_up_ne _ _ (by decide), va_up_at]
      have f8 : Fgone ω γ 8 = ω 8 + xabs (Fstep ω γ) := by unfold Fgone; rw [va_up_at]
      have fo : ∀ w, w ≠ 3 → w ≠ 8 → Fgone ω γ w = ω w := fun w h1 h2 => by unfold Fgone; rw [va_up_ne _ _ h2, va_up_ne _ _ h1]
      have p0 : Mwent r 0 = Mto r := by unfold Mwent; rw [va_up_ne _ _ (by decide), va_up_at]
      have p6 : Mwent r 6 = r 6 + Mby r := by unfold Mwent; rw [va_up_at]
      have po : ∀ w, w ≠ 0 → w ≠ 6 → Mwent r w = r w := fun w h1 h2 => by unfold Mwent; rw [va_up_ne _ _ h2, va_up_ne _ _ h1]
      have hr : Mwent r 0 = Fgone ω γ 3 ∧ Mwent r 1 = Fgone ω γ 4 ∧ Mwent r 5 = Fgone ω γ 7 ∧ Mwent r 6 = Fgone ω γ 8 := ⟨by rw [p0, f3, w1], by rw [po _ (by decide) (by decide), fo _ (by decide) (by decide), b1], by rw [po _ (by decide) (by decide), fo _ (by decide) (by decide), b5], by rw [p6, f8, b6, w2]⟩
      have w4' : R99 (Fgone ω γ 3) := by rw [f3]; exact w4
      have e4' : ∃ c, c < 4 ∧ Fgone ω γ 4 = nI (c + 1) := ⟨c, hc, by rw [fo _ (by decide) (by decide)]; exact e4⟩
      have e2' : Fgone ω γ 2 = nI g := by rw [fo _ (by decide) (by decide)]; exact e2
      have e5' : Fgone ω γ 5 = 0 := by rw [fo _ (by decide) (by decide)]; exact e5
      have e6' : Fgone ω γ 6 = -6 := by rw [fo _ (by decide) (by decide)]; exact e6
      have hG' : ZG g γ π (Mwent r) := fun j hj => by
        obtain ⟨p1, p2, p3⟩ := hG j hj
        refine ⟨?_, ?_, p3⟩
        · unfold Mwent; rw [va_up_ne _ _ (by omega), va_up_ne _ _ (by omega)]; exact p1
        · unfold Mwent; rw [va_up_ne _ _ (by omega), va_up_ne _ _ (by omega)]; exact p2
      have m : Mwent r 2 = Fgone ω γ 5 ∧ Mwent r 3 = Fgone ω γ 2 ∧ Mwent r 4 = Fgone ω γ 6 := ⟨by rw [po _ (by decide) (by decide), fo _ (by decide) (by decide), b2], by rw [po _ (by decide) (by decide), fo _ (by decide) (by decide), b3], by rw [po _ (by decide) (by decide), fo _ (by decide) (by decide), b4]⟩
      unfold Mwalk
      by_cases c3 : Fstep ω γ = γ 0 - ω 3
      · rw [if_pos c3, if_pos c3, if_pos c3, if_pos (w3.mp c3)]
        unfold FarrW FarrP
        rw [show r 9 = π 0 from r9]
        by_cases c4 : 0 < π 0
        · rw [if_pos c4, if_pos c4, if_pos c4, if_pos c4]
          have hu0 : (0 : Nat) < u := (nI_ltI (a := 0) (by omega) (by omega)).mp (by rw [← eu]; exact c4)
          refine ⟨⟨vu2 hr.1 (by decide) (by decide), vu2 hr.2.1 (by decide) (by decide), vu2 m.1 (by decide) (by decide), vu2 m.2.1 (by decide) (by decide), va_up_at.trans va_up_at.symm, vu2 hr.2.2.1 (by decide) (by decide), vu2 hr.2.2.2 (by decide) (by decide)⟩, vu1 (P := R99) w4' (by decide), vu1 (P := fun z => ∃ c, c < 4 ∧ z = nI (c + 1)) e4' (by decide), g, hg, vu1 (P := fun z => z = nI g) e2' (by decide), Or.inl (vu1 (P := fun z => z = 0) e5' (by decide)), fun j hj => ?_, Or.inr ⟨0, va_up_at.trans z0nI, by omega, u, hu, eu, hu0⟩⟩
          obtain ⟨p1, p2, p3⟩ := hG' j hj
          exact ⟨(va_up_ne _ _ (by omega)).trans p1, (va_up_ne _ _ (by omega)).trans p2, p3⟩
        · rw [if_neg c4, if_neg c4, if_neg c4, if_neg c4]
          exact ZY_fin (ω := Fgone ω γ) hr w4' e4' hg (by omega) e2' hG'
      · rw [if_neg c3, if_neg c3, if_neg c3, if_neg (fun z => c3 (w3.mpr z))]
        exact ⟨⟨hr.1, hr.2.1, m.1, m.2.1, m.2.2, hr.2.2.1, hr.2.2.2⟩, w4', e4', g, hg, e2', Or.inl e5', hG', Or.inl e6'⟩
    · exact Z_go2 ⟨b0, b1, b2, b3, b4, b5, b6⟩ h3 ⟨c, hc, e4⟩ hg e2 e5 hG (by omega) e6 hu' eu' hsu r9
def ZYs (nw : Nat) (Y P Q V : Nat → Nat → Int32) : Prop := ∀ w, w < nw → ZY (Y w) (P w) (Q w) (V w)
theorem ZYs.p {nw : Nat} {Y P Q V : Nat → Nat → Int32} (h : ZYs nw Y P Q V) : ZYp nw Y V := fun w hw => by
  obtain ⟨⟨b0, b1, b2, b3, b4, b5, b6⟩, h3, _, g, hg, e2, h5, _⟩ := h w hw
  exact ⟨b0, b2, h3, h5.imp_right (fun z => z.1)⟩
theorem MGos_at {nw w : Nat} {V : Nat → Nat → Int32} (h : w < nw) : MGos nw V w = Mgo (V w) (V w 3).toNatClampNeg := by
  unfold MGos
  rw [xloop_row (g := fun _ r => Mgo r (r 3).toNatClampNeg), if_pos (by omega)]
theorem Z_move {nw : Nat} {Y P Q V : Nat → Nat → Int32} (h : ZYs nw Y P Q V) : ZYs nw (FMove nw Y P Q).1 (FMove nw Y P Q).2.1 (FMove nw Y P Q).2.2 (MGos nw V) := by
  have key := xloop_sim (fun i (q : (Nat → Nat → Int32) × (Nat → Nat → Int32) × (Nat → Nat → Int32)) (V' : Nat → Nat → Int32) => ZYs nw q.1 q.2.1 q.2.2 V') nw 0 (Y, P, Q) V
    (f := fun i (q : (Nat → Nat → Int32) × (Nat → Nat → Int32) × (Nat → Nat → Int32)) => (va_up q.1 i (FgoW (q.1 i) (q.2.1 i) (q.2.2 i)), va_up q.2.1 i (FgoP (q.1 i) (q.2.1 i) (q.2.2 i) (q.2.1 i)), va_up q.2.2 i (FgoP (q.1 i) (q.2.1 i) (q.2.2 i) (q.2.2 i))))
    (g := fun w (V : Nat → Nat → Int32) => va_up V w (Mgo (V w) (V w 3).toNatClampNeg))
    (fun i q V' _ hi hq w hw => by
      dsimp only
      by_cases e : w = i
      · subst e
        rw [va_up_at, va_up_at, va_up_at, va_up_at]
        exact Z_go (hq w hw)
      · rw [va_up_ne _ _ e, va_up_ne _ _ e, va_up_ne _ _ e, va_up_ne _ _ e]
        exact hq w hw) h
  exact key
