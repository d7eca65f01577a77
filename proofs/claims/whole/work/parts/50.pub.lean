def ZLc (ℓ m : Nat → Int32) : Prop := ZL ℓ m ∧ m 11 = ℓ 12 ∧ (ℓ 12 = 0 ∨ ℓ 12 = 1)
theorem ZLc_coughs {ℓ m : Nat → Int32} (h : ZLc ℓ m) : ZLc (va_up ℓ 8 (ℓ 8 + 1)) (va_up m 8 (m 8 + 1)) := by
  obtain ⟨⟨⟨a0, a1, a2, a3, a4, a7, a8, a9, a10⟩, hw, hd, h0⟩, f⟩ := h
  exact ⟨⟨⟨a0, a1, a2, a3, a4, a7, congrArg (· + 1) a8, a9, a10⟩, hw, hd, h0⟩, f⟩
theorem ZLc_hear {rk : Int32} {s sg ℓ m : Nat → Int32} (hs : RSt s sg) (hr : ∃ b, b < 7 ∧ rk = nI b) (h : ZLc ℓ m) : ZLc (Fhear rk s ℓ) (Mhear rk sg m) := by
  obtain ⟨⟨⟨a0, a1, a2, a3, a4, a7, a8, a9, a10⟩, hw, hd, h0⟩, f2, f4⟩ := h
  have hw2 := RWt_iff hw
  have h9 := congrArg (· + 1) a9
  unfold Fhear Mhear
  by_cases c : rk < s 5 ∧ ℓ 5 = -6 ∧ ℓ 12 = 0
  · rw [if_pos c, if_pos ⟨by rw [hs.1.2.2.2.2]; exact c.1, hw2.mp c.2.1, by rw [f2]; exact c.2.2⟩]
    refine ⟨⟨⟨a0, a1, rfl, a3, hs.1.2.1, a7, a8, h9, a10⟩, Or.inr ⟨hs.2.2.2.1, hs.1.2.2.2.1, rfl, ?_⟩, Or.inr ⟨Or.inr rfl, hs.2.1⟩, h0⟩, f2, f4⟩
    obtain ⟨b, hb, rfl⟩ := hr
    obtain ⟨d, hd', e⟩ := hs.2.2.2.2
    have : b < d := (nI_ltI (by omega) (by omega)).mp (by rw [← e]; exact c.1)
    exact ⟨b + 1, by omega, nI_1 b⟩
  · rw [if_neg c, if_neg (fun d => c ⟨by rw [← hs.1.2.2.2.2]; exact d.1, hw2.mpr d.2.1, by rw [← f2]; exact d.2.2⟩)]
    exact ⟨⟨⟨a0, a1, rfl, a3, hs.1.2.1, a7, a8, h9, a10⟩, hw, Or.inr ⟨Or.inr rfl, hs.2.1⟩, h0⟩, f2, f4⟩
theorem Z_spreadc {n a : Nat} {rk : Int32} {st s sg : Nat → Int32} {L M : Nat → Nat → Int32} (hs : RSt s sg) (hn : n ≤ 16) (hr : ∃ b, b < 7 ∧ rk = nI b) (ha : a < n) (hH : ZH n st s sg) (h : ZLs n ZLc st L M) :
    ZLs n ZLc st (Fspread n s a rk L).1 (Mspread n sg a rk M).1 ∧ (Fspread n s a rk L).2 = (Mspread n sg a rk M).2 := by
  have h0 : ZLs n ZLc st (va_up L a (va_up (L a) 8 (L a 8 + 1))) (va_up M a (va_up (M a) 8 (M a 8 + 1))) := h.up (fun hi => ⟨ZLc_coughs (h a hi).1, (va_up_ne _ _ (by decide)).trans (h a hi).2⟩)
  refine xloop_sim (fun _ (q : (Nat → Nat → Int32) × Int32) (q' : (Nat → Nat → Int32) × Int32) => ZLs n ZLc st q.1 q'.1 ∧ q.2 = q'.2) n 0 _ _ (fun i q q' _ hi hq => ?_) ⟨h0, rfl⟩
  have hi : i < n := by omega
  have e := Z_hears (fun _ _ z => z.1) hn hi ha hH hq.1
  rw [e]
  by_cases c : Mhears sg q'.1 i a = 0
  · rw [if_pos c, if_pos c]; exact hq
  · rw [if_neg c, if_neg c]
    exact ⟨hq.1.up (fun hi => ⟨ZLc_hear hs hr (hq.1 i hi).1, Fhear_0.trans (hq.1 i hi).2⟩), by show q.2 + 1 = q'.2 + 1; rw [hq.2]⟩
theorem Z_cough {σ : xS} {sg : Nat → Int32} {M U V : Nat → Nat → Int32} {x : Int32} (hk : Sok σ) (z : ZS σ sg M U V) :
    r_coughByOrder x σ = Mcg (sg 7) x M (-1) (-5) (Mspread (cN σ) sg x.toNatClampNeg 0 (Mcl1 (cN σ) M)).2 ∧ ZS (s_coughByOrder x σ) sg (Mcg (sg 7) x M M M (Mspread (cN σ) sg x.toNatClampNeg 0 (Mcl1 (cN σ) M)).1) U V := by
  have hn : cN σ ≤ 16 := hk.1.2.1
  have hi := Fhas_iff (x := x) hn (ZS.n4 hk z).1
  unfold r_coughByOrder s_coughByOrder FcoughR LCough Mcg
  by_cases c : Fhas (cN σ) x = 0
  · rw [if_pos c, if_pos c, if_pos (hi.mp c), if_pos (hi.mp c)]
    exact ⟨rfl, z⟩
  · rw [if_neg c, if_neg c, if_neg (fun q => c (hi.mpr q)), if_neg (fun q => c (hi.mpr q))]
    have hx := xhas (x := x) (n := cN σ) (by omega) c
    have e3 := ZL_3 (z.2.2.1 _ hx.1).1
    rw [e3]
    by_cases d : (σ 2) x.toNatClampNeg 3 = 2
    · rw [if_pos d, if_pos d, if_pos d, if_pos d]; exact ⟨rfl, z⟩
    · rw [if_neg d, if_neg d, if_neg d, if_neg d]
      have h1 : ZLs (cN σ) ZLc (fun i => σ 2 i 0) (LForget (cN σ) (σ 2)) (Mcl1 (cN σ) M) := ZLs_map (F := Fforget) (G := fun m => va_up m 11 0) (fun ℓ m hr => ⟨⟨hr, rfl, Or.inl rfl⟩, rfl⟩) z.2.2.1
      have h2 := Z_spreadc z.1.2.1 hn ⟨0, by omega, rfl⟩ hx.1 (ZH_eq z.2.2.1.st9 z.1.1) h1
      refine ⟨h2.2, ZC.lamps z (h2.1.weak (fun _ _ q => q.1)) (fun i hi => ?_)⟩
      exact (Mspread_far hx.1 hi).trans (row_far (F := fun m => va_up m 11 0) hi)
theorem Z_at {x : Int32} {L M : Nat → Nat → Int32} : ∀ (k i : Nat), i + k ≤ 16 → (∀ j, i ≤ j → j < i + k → M j 0 = L j 0) → (MlampAt x M k i < 0 ↔ xfind (fun i => if L i 0 = x then 1 else 0) k i = 0)
  | 0, i, _, _ => ⟨fun _ => rfl, fun _ => by show (-6 : Int32) < 0; decide⟩
  | k + 1, i, hk, h => by
    have ih := Z_at (x := x) k (i + 1) (by omega) (fun j a b => h j (by omega) (by omega))
    have e := h i (Nat.le_refl _) (by omega)
    show (if M i 0 = x then nI i else MlampAt x M k (i + 1)) < 0 ↔ (if (if L i 0 = x then (1 : Int32) else 0) = 0 then xfind (fun i => if L i 0 = x then 1 else 0) k (i + 1) else 1) = 0
    rw [e]
    by_cases c : L i 0 = x
    · rw [if_pos c, if_pos c, if_neg (by decide)]
      exact ⟨fun q => absurd q (xnn0 (by omega)), fun q => absurd q (by decide)⟩
    · rw [if_neg c, if_neg c, if_pos rfl]
      exact ih
theorem xR99 {x : Int32} (h : ¬ Fin3 x 0 99 = 0) : R99 x := ⟨x.toNatClampNeg, (xfin 99 rfl (by decide) h).1, (xfin 99 rfl (by decide) h).2⟩
theorem xlt16 {n k : Nat} (hn : n ≤ k) (hk : k < 2 ^ 31) : nI n < nI k ↔ ¬ nI n = nI k := by
  constructor
  · intro h e
    rw [e] at h
    exact absurd h Int32.lt_irrefl
  · intro h
    exact nI_lt (Nat.lt_of_le_of_ne hn (fun e => h (by rw [e]))) hk
theorem Z_lamp {σ : xS} {sg : Nat → Int32} {M U V : Nat → Nat → Int32} {x y : Int32} (hk : Sok σ) (z : ZS σ sg M U V) :
    r_addLamp x y σ = Mlamp x y (cN σ) M (-2) (-4) (nI (cN σ + 1) - 1) (-5) ∧
    ZS (s_addLamp x y σ) (Mlamp x y (cN σ) M sg sg (va_up sg 7 (nI (cN σ + 1))) sg) (Mlamp x y (cN σ) M M M (va_up M (cN σ) (va_up (va_up (M (cN σ)) 0 x) 1 y)) M) U V := by
  have hn : cN σ ≤ 16 := hk.1.2.1
  unfold r_addLamp s_addLamp Flamp Mlamp
  by_cases c1 : Fin3 x 0 99 = 0
  · simp only [if_pos c1]; exact ⟨trivial, z⟩
  · simp only [if_neg c1]
    by_cases c2 : Fin3 y 1 30 = 0
    · simp only [if_pos c2]; exact ⟨trivial, z⟩
    · simp only [if_neg c2]
      by_cases c3 : nI (cN σ) = 16
      · have n16 : ¬ nI (cN σ) < 16 := fun q => (xlt16 (k := 16) hn (by decide)).mp q c3
        simp only [if_pos c3, if_neg n16]; exact ⟨trivial, z⟩
      · have hat := Z_at (x := x) (L := σ 2) (M := M) (cN σ) 0 (by omega) (fun j _ hj => ZL_0 (z.2.2.1 j (by show j < cN σ; omega)).1)
        have h16 : nI (cN σ) < 16 := (xlt16 (k := 16) hn (by decide)).mpr c3
        simp only [if_neg c3, if_pos h16]
        by_cases c4 : MlampAt x M (cN σ) 0 < 0
        · have c5 : Fat (cN σ) x (σ 2) = 0 := hat.mp c4
          simp only [if_pos c4, if_pos c5]
          refine ⟨xdn1.symm, ?_⟩
          have hlt : cN σ < 16 := Nat.lt_of_le_of_ne hn (xnIne 16 rfl c3)
          obtain ⟨hs, ⟨t6, t7, t8, t9⟩, hl, hO, hY, uM, uU, uV⟩ := z
          have e4 : (va_up (σ 0 0) 4 (nI (cN σ) + 1) 4).toNatClampNeg = cN σ + 1 := by rw [va_up_at, nI_1, nI_clamp (by omega)]
          have hm := uM (cN σ) (Nat.le_refl _) hlt
          refine ⟨hs, ⟨t6, (show va_up sg 7 (nI (cN σ + 1)) 7 = va_up (σ 0 0) 4 (nI (cN σ) + 1) 4 from by rw [va_up_at, va_up_at, nI_1]), t8, t9⟩, fun j hj => ⟨?_, rfl⟩, hO, hY, fun i h1 h2 k hk => ?_, uU, uV⟩
          · show ZL ((va_up (σ 2) (cN σ) (Fplace x y (σ 2 (cN σ)))) j) ((va_up M (cN σ) (va_up (va_up (M (cN σ)) 0 x) 1 y)) j)
            by_cases e : j = cN σ
            · subst e
              rw [va_up_at, va_up_at]
              exact ⟨⟨rfl, rfl, hm 2 (by decide), hm 3 (by decide), hm 4 (by decide), hm 7 (by decide), hm 8 (by decide), hm 9 (by decide), hm 10 (by decide)⟩, Or.inl ⟨rfl, hm 5 (by decide)⟩, Or.inl rfl, xR99 c1, (⟨0, by decide, z0nI⟩ : R3 0)⟩
            · rw [va_up_ne _ _ e, va_up_ne _ _ e]
              have hj' : j < cN σ + 1 := by rw [← e4]; exact hj
              exact (hl j (by show j < cN σ; omega)).1
          · have h1' : cN σ + 1 ≤ i := by rw [← e4]; exact h1
            rw [va_up_ne _ _ (by omega)]
            exact uM i (by show cN σ ≤ i; omega) h2 k hk
        · have c5 : ¬ Fat (cN σ) x (σ 2) = 0 := fun q => c4 (hat.mpr q)
          simp only [if_neg c4, if_neg c5]; exact ⟨trivial, z⟩
