theorem Z_house {σ : xS} {sg : Nat → Int32} {M U V : Nat → Nat → Int32} {x : Int32} (hk : Sok σ) (z : ZS σ sg M U V) :
    r_addHouse x σ = Mhouse x (cH σ) (-2) (-4) (nI (cH σ + 1) - 1) ∧
    ZS (s_addHouse x σ) (Mhouse x (cH σ) sg sg (va_up sg 8 (nI (cH σ + 1)))) M (Mhouse x (cH σ) U U (va_up U (cH σ) (va_up (U (cH σ)) 0 x))) V := by
  have hn : cH σ ≤ 8 := hk.1.2.2.2.1
  unfold r_addHouse s_addHouse FhouseR FhouseF OHouse Mhouse
  by_cases c1 : Fin3 x 0 99 = 0
  · simp only [if_pos c1]; exact ⟨trivial, z⟩
  · simp only [if_neg c1]
    by_cases c3 : nI (cH σ) = 8
    · have n8 : ¬ nI (cH σ) < 8 := fun q => (xlt16 (k := 8) hn (by decide)).mp q c3
      simp only [if_pos c3, if_neg n8]; exact ⟨trivial, z⟩
    · have h8 : nI (cH σ) < 8 := (xlt16 (k := 8) hn (by decide)).mpr c3
      simp only [if_neg c3, if_pos h8]
      refine ⟨xdn1.symm, ?_⟩
      have hlt : cH σ < 8 := Nat.lt_of_le_of_ne hn (xnIne 8 rfl c3)
      obtain ⟨hs, ⟨t6, t7, t8, t9⟩, hl, hO, hY, uM, uU, uV⟩ := z
      have e5 : (va_up (σ 0 0) 5 (nI (cH σ) + 1) 5).toNatClampNeg = cH σ + 1 := by rw [va_up_at, nI_1, nI_clamp (by omega)]
      have hm := uU (cH σ) (Nat.le_refl _) hlt
      refine ⟨hs, ⟨t6, t7, (show va_up sg 8 (nI (cH σ + 1)) 8 = va_up (σ 0 0) 5 (nI (cH σ) + 1) 5 from by rw [va_up_at, va_up_at, nI_1]), t9⟩, hl, fun j hj => ?_, hY, uM, fun i h1 h2 k hk => ?_, uV⟩
      · show (va_up U (cH σ) (va_up (U (cH σ)) 0 x)) j 0 = (va_up (σ 3) (cH σ) (va_up (va_up (σ 3 (cH σ)) 0 x) 1 0)) j 0 ∧ (va_up U (cH σ) (va_up (U (cH σ)) 0 x)) j 1 = (va_up (σ 3) (cH σ) (va_up (va_up (σ 3 (cH σ)) 0 x) 1 0)) j 1 ∧ R99 ((va_up (σ 3) (cH σ) (va_up (va_up (σ 3 (cH σ)) 0 x) 1 0)) j 0)
        by_cases e : j = cH σ
        · subst e
          rw [show (va_up U (cH σ) (va_up (U (cH σ)) 0 x)) (cH σ) = va_up (U (cH σ)) 0 x from va_up_at, show (va_up (σ 3) (cH σ) (va_up (va_up (σ 3 (cH σ)) 0 x) 1 0)) (cH σ) = va_up (va_up (σ 3 (cH σ)) 0 x) 1 0 from va_up_at]
          exact ⟨rfl, hm 1 (by decide), xR99 c1⟩
        · rw [va_up_ne _ _ e, va_up_ne _ _ e]
          have hj' : j < cH σ + 1 := by rw [← e5]; exact hj
          exact hO j (by show j < cH σ; omega)
      · have h1' : cH σ + 1 ≤ i := by rw [← e5]; exact h1
        rw [va_up_ne _ _ (by omega)]
        exact uU i (by show cH σ ≤ i; omega) h2 k hk
theorem x14 {y : Int32} (h : ¬ Fin3 y 1 4 = 0) : ∃ c, c < 4 ∧ y = nI (c + 1) := by
  have h1 := xfin1 4 rfl (by decide) h
  have h0 : y.toNatClampNeg ≠ 0 := fun e => h (by rw [h1.2, e]; decide)
  exact ⟨y.toNatClampNeg - 1, by omega, by rw [show y.toNatClampNeg - 1 + 1 = y.toNatClampNeg by omega]; exact h1.2⟩
theorem ZY_new {x y : Int32} {ω γ π r : Nat → Int32} (hx : R99 x) (hy : ∃ c, c < 4 ∧ y = nI (c + 1)) (hm : ∀ k, k < 22 → r k = 0) : ZY (FplaceW x y ω) γ π (va_up (va_up (va_up r 0 x) 1 y) 4 (-6)) :=
  ⟨⟨rfl, rfl, hm 2 (by decide), hm 3 (by decide), rfl, hm 5 (by decide), hm 6 (by decide)⟩, hx, hy, 0, by decide, z0nI, Or.inl rfl, fun j hj => absurd hj (Nat.not_lt_zero j), Or.inl rfl⟩
theorem Z_walker {σ : xS} {sg : Nat → Int32} {M U V : Nat → Nat → Int32} {x y : Int32} (hk : Sok σ) (z : ZS σ sg M U V) :
    r_addWalker x y σ = Mwr x y (cW σ) ∧ ZS (s_addWalker x y σ) (Msw x y (cW σ) sg) M U (MwkY x y (cW σ) V) := by
  have hn : cW σ ≤ 8 := hk.1.2.2.2.2.2
  unfold r_addWalker s_addWalker Fwalker Mwr Msw MwkY Mwk
  by_cases c1 : Fin3 x 0 99 = 0
  · simp only [if_pos c1]; exact ⟨trivial, z⟩
  · simp only [if_neg c1]
    by_cases c2 : Fin3 y 1 4 = 0
    · simp only [if_pos c2]; exact ⟨trivial, z⟩
    · simp only [if_neg c2]
      by_cases c3 : nI (cW σ) = 8
      · have n8 : ¬ nI (cW σ) < 8 := fun q => (xlt16 (k := 8) hn (by decide)).mp q c3
        simp only [if_pos c3, if_neg n8]; exact ⟨trivial, z⟩
      · have h8 : nI (cW σ) < 8 := (xlt16 (k := 8) hn (by decide)).mpr c3
        simp only [if_neg c3, if_pos h8]
        refine ⟨xdn1.symm, ?_⟩
        have hlt : cW σ < 8 := Nat.lt_of_le_of_ne hn (xnIne 8 rfl c3)
        obtain ⟨hs, ⟨t6, t7, t8, t9⟩, hl, hO, hY, uM, uU, uV⟩ := z
        have e6 : (va_up (σ 0 0) 6 (nI (cW σ) + 1) 6).toNatClampNeg = cW σ + 1 := by rw [va_up_at, nI_1, nI_clamp (by omega)]
        have hm := uV (cW σ) (Nat.le_refl _) hlt
        refine ⟨hs, ⟨t6, t7, t8, (show va_up sg 9 (nI (cW σ + 1)) 9 = va_up (σ 0 0) 6 (nI (cW σ) + 1) 6 from by rw [va_up_at, va_up_at, nI_1])⟩, hl, hO, fun j hj => ?_, uM, uU, fun i h1 h2 k hk => ?_⟩
        · show ZY ((va_up (σ 4) (cW σ) (FplaceW x y (σ 4 (cW σ)))) j) (σ 5 j) (σ 6 j) ((va_up V (cW σ) (va_up (va_up (va_up (V (cW σ)) 0 x) 1 y) 4 (-6))) j)
          by_cases e : j = cW σ
          · subst e
            rw [va_up_at, va_up_at]
            exact ZY_new (xR99 c1) (x14 c2) hm
          · rw [va_up_ne _ _ e, va_up_ne _ _ e]
            have hj' : j < cW σ + 1 := by rw [← e6]; exact hj
            exact hY j (by show j < cW σ; omega)
        · have h1' : cW σ + 1 ≤ i := by rw [← e6]; exact h1
          rw [va_up_ne _ _ (by omega)]
          exact uV i (by show cW σ ≤ i; omega) h2 k hk
theorem ZY_add {ω γ π r : Nat → Int32} {a b : Int32} {g : Nat} (h : ZY ω γ π r) (hg : ω 2 = nI g) (hg5 : g < 6) (h5 : ω 5 = 0) (ha : R99 a) (hb : ∃ u, u < 21 ∧ b = nI u) : ZY (va_up ω 2 (ω 2 + 1)) (va_up γ g a) (va_up π g b) (Maddg a b g r) := by
  obtain ⟨⟨b0, b1, b2, b3, b4, b5, b6⟩, h3, h4, g', hg', e2, _, hG, h6⟩ := h
  have eg : g' = g := xnIinj (by omega) (by omega) (e2.symm.trans hg)
  subst eg
  have mk : ∀ j, j < 8 → j ≠ 3 → Maddg a b g' r j = r j := fun j hj h3 => by unfold Maddg; rw [va_up_ne _ _ h3, va_up_ne _ _ (by omega), va_up_ne _ _ (by omega)]
  have m3 : Maddg a b g' r 3 = nI (g' + 1) := by unfold Maddg; rw [va_up_at]
  have m8 : ∀ j, 8 ≤ j → Maddg a b g' r j = if j = 8 + 2 * g' + 1 then b else if j = 8 + 2 * g' then a else r j := fun j hj => by
    unfold Maddg
    rw [va_up_ne _ _ (by omega)]
    by_cases c : j = 8 + 2 * g' + 1
    · rw [if_pos c, c, va_up_at]
    · rw [if_neg c, va_up_ne _ _ c]
      by_cases d : j = 8 + 2 * g'
      · rw [if_pos d, d, va_up_at]
      · rw [if_neg d, va_up_ne _ _ d]
  have w2 : va_up ω 2 (ω 2 + 1) 2 = nI (g' + 1) := by rw [va_up_at, e2, nI_1]
  have wo : ∀ k, k ≠ 2 → va_up ω 2 (ω 2 + 1) k = ω k := fun k hk => va_up_ne _ _ hk
  refine ⟨⟨?_, ?_, ?_, ?_, ?_, ?_, ?_⟩, ?_, ?_, g' + 1, by omega, w2, ?_, fun j hj => ?_, ?_⟩
  · rw [mk 0 (by omega) (by omega), wo _ (by decide)]; exact b0
  · rw [mk 1 (by omega) (by omega), wo _ (by decide)]; exact b1
  · rw [mk 2 (by omega) (by omega), wo _ (by decide)]; exact b2
  · rw [m3, w2]
  · rw [mk 4 (by omega) (by omega), wo _ (by decide)]; exact b4
  · rw [mk 5 (by omega) (by omega), wo _ (by decide)]; exact b5
  · rw [mk 6 (by omega) (by omega), wo _ (by decide)]; exact b6
  · rw [wo _ (by decide)]; exact h3
  · rw [wo _ (by decide)]; exact h4
  · rw [wo _ (by decide)]; exact Or.inl h5
  · rw [m8 _ (by omega), m8 _ (by omega)]
    by_cases e : j = g'
    · subst e
      rw [if_neg (by omega), if_pos rfl, if_pos rfl, va_up_at, va_up_at]
      exact ⟨rfl, rfl, ha, hb⟩
    · rw [if_neg (by omega), if_neg (by omega), if_neg (by omega), if_neg (by omega), va_up_ne _ _ e, va_up_ne _ _ e]
      exact hG j (by omega)
  · rw [wo _ (by decide)]
    rcases h6 with q | ⟨s, q1, q2, u, q3, q4, q5⟩
    · exact Or.inl q
    · exact Or.inr ⟨s, q1, by omega, u, q3, by rw [va_up_ne _ _ (by omega)]; exact q4, q5⟩
theorem x020 {b : Int32} (h : ¬ Fin3 b 0 20 = 0) : ∃ u, u < 21 ∧ b = nI u := ⟨b.toNatClampNeg, (xfin 20 rfl (by decide) h).1, (xfin 20 rfl (by decide) h).2⟩
/-- one walker is changed -/
theorem ZC.walk1 {f s : Nat → Int32} {L O Y P Q : Nat → Nat → Int32} {sg : Nat → Int32} {M U V : Nat → Nat → Int32} {i : Nat} {ω γ π r : Nat → Int32} (z : ZC f s L O Y P Q sg M U V) (hi : i < (f 6).toNatClampNeg) (h : ZY ω γ π r) : ZC f s L O (va_up Y i ω) (va_up P i γ) (va_up Q i π) sg M U (va_up V i r) := by
  refine ⟨z.1, z.2.1, z.2.2.1, z.2.2.2.1, fun j hj => ?_, z.2.2.2.2.2.1, z.2.2.2.2.2.2.1, fun j h1 h2 k hk => ?_⟩
  · by_cases e : j = i
    · subst e
      rw [va_up_at, va_up_at, va_up_at, va_up_at]; exact h
    · rw [va_up_ne _ _ e, va_up_ne _ _ e, va_up_ne _ _ e, va_up_ne _ _ e]; exact z.2.2.2.2.1 j hj
  · rw [va_up_ne _ _ (by omega)]; exact z.2.2.2.2.2.2.2 j h1 h2 k hk
theorem Z_goal {σ : xS} {sg : Nat → Int32} {M U V : Nat → Nat → Int32} {x a b : Int32} (hk : Sok σ) (z : ZS σ sg M U V) :
    r_giveGoal x a b σ = MglR (sg 9) x a b V ∧ ZS (s_giveGoal x a b σ) sg M U (MglY (sg 9) x a b V) := by
  have hn : cW σ ≤ 8 := hk.1.2.2.2.2.2
  have hi := Fhas_iff (x := x) (show cW σ ≤ 16 by omega) (ZS.n4 hk z).2.2
  unfold r_giveGoal s_giveGoal Fgoal MglR MglY Mgl
  by_cases c : Fhas (cW σ) x = 0
  · simp only [if_pos c, if_pos (hi.mp c)]; exact ⟨trivial, z⟩
  · have c' : ¬ Fin3 x 0 (sg 9 - 1) = 0 := fun q => c (hi.mpr q)
    simp only [if_neg c, if_neg c']
    have hx := xhas (x := x) (n := cW σ) (by omega) c
    by_cases d : Fin3 a 0 99 = 0
    · simp only [if_pos d]; exact ⟨trivial, z⟩
    · simp only [if_neg d]
      by_cases e : Fin3 b 0 20 = 0
      · simp only [if_pos e]; exact ⟨trivial, z⟩
      · simp only [if_neg e]
        have hz := z.2.2.2.2.1 _ hx.1
        obtain ⟨i, hi'⟩ : ∃ i, i = x.toNatClampNeg := ⟨_, rfl⟩
        rw [← hi'] at hz hx ⊢
        obtain ⟨⟨b0, b1, b2, b3, b4, b5, b6⟩, h3, h4, g, hg, e2, h5, hG, h6⟩ := id hz
        have eg : (V i 3).toNatClampNeg = g := by rw [b3, e2]; exact nI_clamp (by omega)
        have eg2 : ((σ 4) i 2).toNatClampNeg = g := by rw [e2]; exact nI_clamp (by omega)
        rw [eg]
        unfold FaddR FaddW FaddP
        rw [e2]
        try simp only [eg2]
        try simp only [nI_clamp (show g < 2 ^ 31 by omega)]
        by_cases c6 : nI g = 6
        · have g6 : g = 6 := xnIeq 6 rfl (by decide) (by omega) c6
          have l6 : 6 ≤ nI g := by rw [c6]; exact Int32.le_refl _
          simp only [if_pos c6, if_pos l6]
          refine ⟨trivial, ?_⟩
          rw [xus, xus, xus]
          exact z
        · have g6 : g ≠ 6 := xnIne 6 rfl c6
          have l6 : ¬ (6 : Int32) ≤ nI g := fun q => by
            have := (show ∀ g, g < 6 → ¬ (6 : Int32) ≤ nI g from by decide +kernel) g (by omega)
            exact this q
          simp only [if_neg c6, if_neg l6]
          by_cases c7 : (σ 4) i 5 = 0
          · have n7 : ¬ ¬ (σ 4) i 5 = 0 := fun q => q c7
            have s7 : ¬ Mstr (V i) = 0 := fun q => Mstr_0.mp q (by rw [b2]; exact c7)
            simp only [if_neg n7, if_neg s7]
            refine ⟨nI_1 g, ?_⟩
            exact ZC.walk1 z hx.1 (by have := ZY_add hz e2 (by omega) c7 (xR99 d) (x020 e); rw [e2] at this; exact this)
          · have s7 : Mstr (V i) = 0 := Mstr_0.mpr (by rw [b2]; exact c7)
            simp only [if_pos s7, if_pos (show ¬ (σ 4) i 5 = 0 from c7)]
            refine ⟨trivial, ?_⟩
            rw [xus, xus, xus]
            exact z
def ZB (B : Nat) (σ : xS) : Prop := ∃ τ, τ ≤ B ∧ σ 0 0 7 = nI τ
theorem xf12 {x : Int32} {i : Nat} (hx : x = nI i) (hi : i < 6) : xf1 i = Mlow x ∧ xf2 i = Mhigh x := by
  subst hx
  exact (show ∀ i, i < 6 → xf1 i = Mlow (nI i) ∧ xf2 i = Mhigh (nI i) from by decide +kernel) i hi
def Slo (k : Nat) : Nat := if k = 1 then 1 else if k = 2 then 1 else if k = 4 then 1 else 0
def Shi (k : Nat) : Nat := if k = 0 then 20 else if k = 1 then 60 else if k = 4 then 10 else if k = 5 then 6 else 50
def Sb (k : Nat) (x : Int32) : Prop := ∃ a, Slo k ≤ a ∧ a ≤ Shi k ∧ x = nI a
theorem xlim0 {v hi : Int32} (k : Nat) (hk : hi = nI k) (hk2 : k < 2 ^ 31) (h : ¬ Fin3 v 0 hi = 0) : ∃ a, 0 ≤ a ∧ a ≤ k ∧ v = nI a := ⟨v.toNatClampNeg, Nat.zero_le _, by have := (xfin k hk hk2 h).1; omega, (xfin k hk hk2 h).2⟩
theorem xlim1 {v hi : Int32} (k : Nat) (hk : hi = nI k) (hk2 : k < 2 ^ 31) (h : ¬ Fin3 v 1 hi = 0) : ∃ a, 1 ≤ a ∧ a ≤ k ∧ v = nI a := by
  have h1 := xfin1 k hk hk2 h
  refine ⟨v.toNatClampNeg, ?_, h1.1, h1.2⟩
  rcases Nat.eq_zero_or_pos v.toNatClampNeg with e | e
  · exact absurd (by rw [h1.2, e]; unfold Fin3; rw [if_pos (by decide)]) h
  · exact e
theorem Sb_of {i : Nat} {x v : Int32} (hx : x = nI i) (hi : i < 6) (h : ¬ Fin3 v (Mlow x) (Mhigh x) = 0) : Sb i v := by
  subst hx
  have : i = 0 ∨ i = 1 ∨ i = 2 ∨ i = 3 ∨ i = 4 ∨ i = 5 := by omega
  rcases this with rfl | rfl | rfl | rfl | rfl | rfl
  · exact xlim0 20 rfl (by decide) h
  · exact xlim1 60 rfl (by decide) h
  · exact xlim1 50 rfl (by decide) h
  · exact xlim0 50 rfl (by decide) h
  · exact xlim1 10 rfl (by decide) h
  · exact xlim0 6 rfl (by decide) h
theorem Sb.p1 {k m : Nat} {x : Int32} (h : Sb k x) (hl : Slo k = 1) (hm : Shi k = m) : ∃ a, a < m ∧ x = nI (a + 1) := by
  obtain ⟨a, h1, h2, e⟩ := h
  exact ⟨a - 1, by omega, by rw [show a - 1 + 1 = a by omega]; exact e⟩
theorem Sb.p0 {k m : Nat} {x : Int32} (h : Sb k x) (hm : Shi k = m) : ∃ a, a < m + 1 ∧ x = nI a := by
  obtain ⟨a, h1, h2, e⟩ := h
  exact ⟨a, by omega, e⟩
def ZSet (s sg : Nat → Int32) : Prop := (sg 1 = s 1 ∧ RSt s sg ∧ (∃ a, a < 21 ∧ s 0 = nI a) ∧ ∃ a, a < 60 ∧ s 1 = nI (a + 1))
theorem ZSet_iff {s sg : Nat → Int32} : ZSet s sg ↔ (∀ k, k < 6 → sg k = s k) ∧ ∀ k, k < 6 → Sb k (s k) := by
  constructor
  · rintro ⟨g1, ⟨⟨q0, q2, q3, q4, q5⟩, ⟨a2, r2, e2⟩, ⟨a3, r3, e3⟩, ⟨a4, r4, e4⟩, a5, r5, e5⟩, ⟨a0, r0, e0⟩, a1, r1, e1⟩
    refine ⟨fun k hk => ?_, fun k hk => ?_⟩
    · have : k = 0 ∨ k = 1 ∨ k = 2 ∨ k = 3 ∨ k = 4 ∨ k = 5 := by omega
      rcases this with rfl | rfl | rfl | rfl | rfl | rfl
      · exact q0
      · exact g1
      · exact q2
      · exact q3
      · exact q4
      · exact q5
    · have : k = 0 ∨ k = 1 ∨ k = 2 ∨ k = 3 ∨ k = 4 ∨ k = 5 := by omega
      rcases this with rfl | rfl | rfl | rfl | rfl | rfl
      · exact ⟨a0, Nat.zero_le _, by show a0 ≤ 20; omega, e0⟩
      · exact ⟨a1 + 1, by show 1 ≤ a1 + 1; omega, by show a1 + 1 ≤ 60; omega, e1⟩
      · exact ⟨a2 + 1, by show 1 ≤ a2 + 1; omega, by show a2 + 1 ≤ 50; omega, e2⟩
      · exact ⟨a3, Nat.zero_le _, by show a3 ≤ 50; omega, e3⟩
      · exact ⟨a4 + 1, by show 1 ≤ a4 + 1; omega, by show a4 + 1 ≤ 10; omega, e4⟩
      · exact ⟨a5, Nat.zero_le _, by show a5 ≤ 6; omega, e5⟩
  · rintro ⟨h, b⟩
    exact ⟨h 1 (by decide), ⟨⟨h 0 (by decide), h 2 (by decide), h 3 (by decide), h 4 (by decide), h 5 (by decide)⟩, (b 2 (by decide)).p1 rfl rfl, (b 3 (by decide)).p0 rfl, (b 4 (by decide)).p1 rfl rfl, (b 5 (by decide)).p0 rfl⟩, (b 0 (by decide)).p0 rfl, (b 1 (by decide)).p1 rfl rfl⟩
theorem Sb.nn {k : Nat} {x : Int32} (h : Sb k x) : ¬ x < 0 := by
  obtain ⟨a, h1, h2, e⟩ := h
  rw [e]
  exact xnn0 (by unfold Shi at h2; have : (if k = 0 then 20 else if k = 1 then 60 else if k = 4 then 10 else if k = 5 then 6 else 50) ≤ 60 := by split <;> (try split) <;> (try split) <;> (try split) <;> omega
                 omega)
theorem Z_set {σ : xS} {sg : Nat → Int32} {M U V : Nat → Nat → Int32} {x v : Int32} (z : ZS σ sg M U V) :
    r_changeSetting x v σ = Mset x v (-2) (sg x.toNatClampNeg) ∧ ZS (s_changeSetting x v σ) (Mset x v sg (va_up sg x.toNatClampNeg v)) M U V ∧ (¬ Fin3 x 0 5 = 0 → ¬ sg x.toNatClampNeg < 0) := by
  have hz := ZSet_iff.mp z.1
  unfold r_changeSetting s_changeSetting FsetR FsetS Mset
  by_cases c : Fin3 x 0 5 = 0
  · simp only [if_pos c]; exact ⟨trivial, z, fun q => absurd c q⟩
  · simp only [if_neg c]
    have hx := xfin 5 rfl (by decide) c
    obtain ⟨e1, e2⟩ := xf12 hx.2 (by omega)
    have nn : ¬ sg x.toNatClampNeg < 0 := by rw [hz.1 _ (by omega)]; exact (hz.2 _ (by omega)).nn
    rw [e1, e2]
    by_cases d : Fin3 v (Mlow x) (Mhigh x) = 0
    · simp only [if_pos d]; exact ⟨trivial, z, fun _ => nn⟩
    · simp only [if_neg d]
      refine ⟨(hz.1 _ (by omega)).symm, ?_, fun _ => nn⟩
      have hb := Sb_of hx.2 (by omega) d
      have hset : ZSet (va_up (σ 1 0) x.toNatClampNeg v) (va_up sg x.toNatClampNeg v) := ZSet_iff.mpr ⟨fun k hk => by
        by_cases e : k = x.toNatClampNeg
        · rw [e, va_up_at, va_up_at]
        · rw [va_up_ne _ _ e, va_up_ne _ _ e]; exact hz.1 k hk, fun k hk => by
        by_cases e : k = x.toNatClampNeg
        · rw [e, va_up_at]; exact hb
        · rw [va_up_ne _ _ e]; exact hz.2 k hk⟩
      obtain ⟨_, ⟨t6, t7, t8, t9⟩, rest⟩ := z
      exact ⟨hset, ⟨(va_up_ne _ _ (by omega)).trans t6, (va_up_ne _ _ (by omega)).trans t7, (va_up_ne _ _ (by omega)).trans t8, (va_up_ne _ _ (by omega)).trans t9⟩, rest⟩
