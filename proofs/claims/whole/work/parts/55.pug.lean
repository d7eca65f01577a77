/-! ===== class and model side by side: the best reach ===== -/
theorem xfind_0 {g : Nat → Int32} : ∀ (k i : Nat), xfind g k i = 0 → ∀ j, i ≤ j → j < i + k → g j = 0
  | 0, _, _, j, h1, h2 => by omega
  | k + 1, i, h, j, h1, h2 => by
    unfold xfind at h
    by_cases c : g i = 0
    · rw [if_pos c] at h
      by_cases e : j = i
      · rw [e]; exact c
      · exact xfind_0 k (i + 1) h j (by omega) (by omega)
    · rw [if_neg c] at h
      exact absurd h (by decide)
theorem xd0 : ∀ a, a < 100 → ∀ b, b < 100 → xabs (nI a - nI b) = nI (if a ≤ b then b - a else a - b) := by decide +kernel
theorem xd {x y : Int32} (hx : R99 x) (hy : R99 y) : ∃ d, d < 100 ∧ xabs (x - y) = nI d ∧ xabs (y - x) = nI d := by
  obtain ⟨a, ha, rfl⟩ := hx
  obtain ⟨b, hb, rfl⟩ := hy
  refine ⟨if a ≤ b then b - a else a - b, by split <;> omega, xd0 a ha b hb, ?_⟩
  rw [xd0 b hb a ha]
  congr 1
  split <;> split <;> omega
theorem xnle_iff {a b : Nat} (ha : a < 2 ^ 31) (hb : b < 2 ^ 31) : nI a ≤ nI b ↔ a ≤ b := by
  constructor
  · intro h
    rcases Nat.lt_or_ge b a with q | q
    · exact absurd (nI_lt q ha) (Int32.not_lt.mpr h)
    · exact q
  · exact fun h => xnle hb h
theorem Z_reach1 {T : xS} {sg : Nat → Int32} {M U V : Nat → Nat → Int32} {i : Nat} (z : ZS T sg M U V) (hi : 1 ≤ i) (hi60 : i ≤ 60) : ZS (s_changeSetting 1 (nI i) T) (va_up sg 1 (nI i)) M U V := by
  have h := (Z_set (x := 1) (v := nI i) z).2.1
  have e1 : ¬ Fin3 1 0 5 = 0 := by decide
  have e2 : ¬ Fin3 (nI i) (Mlow 1) (Mhigh 1) = 0 := (show ∀ i, i < 61 → 1 ≤ i → ¬ Fin3 (nI i) (Mlow 1) (Mhigh 1) = 0 from by decide +kernel) i (by omega) hi
  unfold Mset at h
  rw [if_neg e1, if_neg e2, show (1 : Int32).toNatClampNeg = 1 from by decide] at h
  exact h
theorem Z_reach {a σ : xS} {sg g h : Nat → Int32} {M U V : Nat → Nat → Int32} {x : Int32} {i : Nat} (hk : Sok a) (hσ : Sok σ) (z : ZS a sg M U V) (hx : ¬ Fin3 x 1 200 = 0) (hi : 1 ≤ i) (hi60 : i ≤ 60) (w : Int32) :
    r_total w (xreach i x a σ) - r_total w a = Mbrought (cN a) (cH a) (cW a) x.toNatClampNeg w (va_up sg 1 (nI i), M, U, V, g, h) := by
  have hb := cN_become (σ := σ) hk
  have hT := Sok_become hk hσ
  have zT := Z_reach1 (ZS.become (σ := σ) hk z) hi hi60
  have key := Z_pass1 (g := g) (h := h) (x := x) (Sok_changeSetting (x := 1) (v := nI i) hT) zT hx hb.1 hb.2.1 hb.2.2 w
  rw [show xreach i x a σ = s_letPass x (s_changeSetting 1 (nI i) (s_become a σ)) from rfl, key, Z_tot z w]
  rfl
theorem r_pass {x : Int32} {τ : xS} (hx : ¬ Fin3 x 1 200 = 0) : s_letPass x τ 2 = (Fticks (cN τ) (cH τ) (cW τ) (τ 1 0) x.toNatClampNeg (τ 0 0, τ 2, τ 3, τ 4, τ 5, τ 6)).2.1 ∧
    s_letPass x τ 3 = (Fticks (cN τ) (cH τ) (cW τ) (τ 1 0) x.toNatClampNeg (τ 0 0, τ 2, τ 3, τ 4, τ 5, τ 6)).2.2.1 ∧ s_letPass x τ 4 = (Fticks (cN τ) (cH τ) (cW τ) (τ 1 0) x.toNatClampNeg (τ 0 0, τ 2, τ 3, τ 4, τ 5, τ 6)).2.2.2.1 := by
  have e : Fpass (cN τ) (cH τ) (cW τ) (τ 1 0) x (τ 0 0, τ 2, τ 3, τ 4, τ 5, τ 6) = Fticks (cN τ) (cH τ) (cW τ) (τ 1 0) x.toNatClampNeg (τ 0 0, τ 2, τ 3, τ 4, τ 5, τ 6) := by unfold Fpass; exact if_neg hx
  refine ⟨?_, ?_, ?_⟩
  · show (Fpass (cN τ) (cH τ) (cW τ) (τ 1 0) x (τ 0 0, τ 2, τ 3, τ 4, τ 5, τ 6)).2.1 = _
    rw [e]
  · show (Fpass (cN τ) (cH τ) (cW τ) (τ 1 0) x (τ 0 0, τ 2, τ 3, τ 4, τ 5, τ 6)).2.2.1 = _
    rw [e]
  · show (Fpass (cN τ) (cH τ) (cW τ) (τ 1 0) x (τ 0 0, τ 2, τ 3, τ 4, τ 5, τ 6)).2.2.2.1 = _
    rw [e]
/-- no two lamps are as far apart as i + 1: who hears whom is the same at i -/
theorem Z_apart {a τ : xS} {sg : Nat → Int32} {M U V : Nat → Nat → Int32} {i : Nat} (z : ZS a sg M U V) (zt : ZS τ (va_up sg 1 (nI i)) M U V) (hn : cN τ = cN a) (hi60 : i + 1 ≤ 60) (hap : r_hasLampsApart (nI (i + 1)) a = 0) : ZH (cN τ) (fun j => τ 2 j 0) (τ 1 0) (va_up sg 1 (nI (i + 1))) := by
  refine ⟨zt.2.2.1.st9, fun j k hj hk hjk => ?_⟩
  have ej : τ 2 j 0 = a 2 j 0 := (ZL_0 (zt.2.2.1 j hj).1).symm.trans (ZL_0 (z.2.2.1 j (by show j < cN a; rw [← hn]; exact hj)).1)
  have ek : τ 2 k 0 = a 2 k 0 := (ZL_0 (zt.2.2.1 k hk).1).symm.trans (ZL_0 (z.2.2.1 k (by show k < cN a; rw [← hn]; exact hk)).1)
  have hj9 : R99 (τ 2 j 0) := zt.2.2.1.st9 j hj
  have hk9 : R99 (τ 2 k 0) := zt.2.2.1.st9 k hk
  have es : τ 1 0 1 = nI i := zt.1.1.symm.trans va_up_at
  obtain ⟨d, hd, e1, e2⟩ := xd hj9 hk9
  have hne : d ≠ i + 1 := by
    rintro rfl
    have h0 : Fapart (cN a) (nI (i + 1)) (a 2) = 0 := hap
    have hh : ∀ p, p < cN a → ∀ q, q < p → ¬ Fdist (a 2 p) (a 2 q 0) = nI (i + 1) := fun p hp q hq c => by
      have h1 := xfind_0 _ _ h0 p (Nat.zero_le _) (by omega)
      have h2 := xfind_0 _ _ h1 q (Nat.zero_le _) (by omega)
      rw [if_pos c] at h2
      exact absurd h2 (by decide)
    rcases Nat.lt_or_ge k j with q | q
    · exact hh j (by rw [← hn]; exact hj) k q (by unfold Fdist; rw [← ej, ← ek]; exact e1)
    · exact hh k (by rw [← hn]; exact hk) j (by omega) (by unfold Fdist; rw [← ej, ← ek]; exact e2)
  show xabs (τ 2 j 0 - τ 2 k 0) ≤ τ 1 0 1 ↔ Mfar (τ 2 j 0) (τ 2 k 0) ≤ va_up sg 1 (nI (i + 1)) 1
  rw [xfar_eq hj9 hk9, e1, es, va_up_at, xnle_iff (by omega) (by omega), xnle_iff (by omega) (by omega)]
  omega
theorem Z_skip {a : xS} {sg g h : Nat → Int32} {M U V : Nat → Nat → Int32} {x : Int32} {i : Nat} (hk : Sok a) (z : ZS a sg M U V) (hx : ¬ Fin3 x 1 200 = 0) (hi : 1 ≤ i) (hi60 : i + 1 ≤ 60) (hap : r_hasLampsApart (nI (i + 1)) a = 0) (w : Int32) :
    r_total w (xreach i x a a) - r_total w a = Mbrought (cN a) (cH a) (cW a) x.toNatClampNeg w (va_up sg 1 (nI (i + 1)), M, U, V, g, h) := by
  have hb := cN_become (σ := a) hk
  have hT := Sok_become hk hk
  have zt := Z_reach1 (ZS.become (σ := a) hk z) hi (by omega)
  have hkt : Sok (s_changeSetting 1 (nI i) (s_become a a)) := Sok_changeSetting hT
  have hnt : cN (s_changeSetting 1 (nI i) (s_become a a)) = cN a := hb.1
  have hht : cH (s_changeSetting 1 (nI i) (s_become a a)) = cH a := hb.2.1
  have hwt : cW (s_changeSetting 1 (nI i) (s_become a a)) = cW a := hb.2.2
  have hH := Z_apart z zt hnt hi60 hap
  have q := ZC.q (g := g) (h := h) zt
  have zz := zt.1.2.1
  have hs : RSt (s_changeSetting 1 (nI i) (s_become a a) 1 0) (va_up sg 1 (nI (i + 1))) :=
    ⟨⟨(va_up_ne _ _ (by decide)).trans ((va_up_ne _ _ (by decide)).symm.trans zz.1.1), (va_up_ne _ _ (by decide)).trans ((va_up_ne _ _ (by decide)).symm.trans zz.1.2.1), (va_up_ne _ _ (by decide)).trans ((va_up_ne _ _ (by decide)).symm.trans zz.1.2.2.1),
      (va_up_ne _ _ (by decide)).trans ((va_up_ne _ _ (by decide)).symm.trans zz.1.2.2.2.1), (va_up_ne _ _ (by decide)).trans ((va_up_ne _ _ (by decide)).symm.trans zz.1.2.2.2.2)⟩, zz.2⟩
  have e6 : va_up sg 1 (nI (i + 1)) 6 = va_up sg 1 (nI i) 6 := (va_up_ne _ _ (by decide)).trans (va_up_ne _ _ (by decide)).symm
  have key := (Z_ticks (n := cN (s_changeSetting 1 (nI i) (s_become a a))) (nh := cH (s_changeSetting 1 (nI i) (s_become a a))) (nw := cW (s_changeSetting 1 (nI i) (s_become a a))) (k := x.toNatClampNeg) (q' := (va_up sg 1 (nI (i + 1)), M, U, V, g, h)) hkt.hn16 hs hH ⟨q.1, q.2.1, q.2.2.1, e6.trans q.2.2.2⟩).1
  have rp := r_pass (τ := s_changeSetting 1 (nI i) (s_become a a)) hx
  have ht : r_total w (xreach i x a a) = Ftotal (cN (s_changeSetting 1 (nI i) (s_become a a))) (cH (s_changeSetting 1 (nI i) (s_become a a))) (cW (s_changeSetting 1 (nI i) (s_become a a))) (s_letPass x (s_changeSetting 1 (nI i) (s_become a a)) 2) (s_letPass x (s_changeSetting 1 (nI i) (s_become a a)) 3) (s_letPass x (s_changeSetting 1 (nI i) (s_become a a)) 4) w := by
    show Ftotal (cN (s_letPass x (s_changeSetting 1 (nI i) (s_become a a)))) (cH (s_letPass x (s_changeSetting 1 (nI i) (s_become a a)))) (cW (s_letPass x (s_changeSetting 1 (nI i) (s_become a a)))) _ _ _ w = _
    rw [cN_pass.1, cN_pass.2.1, cN_pass.2.2]
    rfl
  rw [ht, rp.1, rp.2.1, rp.2.2, Z_total w key.1 key.2.1 key.2.2.1, Z_tot z w, hnt, hht, hwt]
  rfl
def ZBi (x : Int32) (a : xS) (sg : Nat → Int32) (i : Nat) (q : xS × Int32 × Int32 × Int32) (y : xM7) : Prop :=
  Sok q.1 ∧ (∀ v, va_up y.1 1 v = va_up sg 1 v) ∧ q.2 = y.2.2.2.2 ∧ (i = 1 → y.2.2.2.2.1 = -6) ∧
  (1 < i → ¬ y.2.2.2.2.1 < 0 ∧ (y.2.2.2.2.2.1 < r_total 0 (xreach (i - 1) x a a) - r_total 0 a ∨ (y.2.2.2.2.2.1 = r_total 0 (xreach (i - 1) x a a) - r_total 0 a ∧ y.2.2.2.2.2.2 ≤ r_total 1 (xreach (i - 1) x a a) - r_total 1 a)))
theorem Z_best1 {a : xS} {sg : Nat → Int32} {M U V : Nat → Nat → Int32} {x : Int32} {i : Nat} {q : xS × Int32 × Int32 × Int32} {y : xM7} (hk : Sok a) (z : ZS a sg M U V) (hx : ¬ Fin3 x 1 200 = 0) (hi : 1 ≤ i) (hi60 : i ≤ 60) (hq : ZBi x a sg i q y) :
    ZBi x a sg (i + 1) (Fbest x a i q) (Mbest1 (cN a) (cH a) (cW a) x.toNatClampNeg M U V i y) := by
  obtain ⟨h1, h2, h3, h4, h5⟩ := hq
  have hup : ∀ v, va_up (va_up y.1 1 (nI i)) 1 v = va_up sg 1 v := fun v => by rw [xuu]; exact h2 v
  by_cases sk : ¬ nI i ≤ nI 1 ∧ r_hasLampsApart (nI i) a = 0
  · have h1i : 1 < i := by
      rcases Nat.lt_or_ge 1 i with c | c
      · exact c
      · exact absurd (xnle (by omega) c) sk.1
    obtain ⟨j, rfl⟩ : ∃ j, i = j + 1 := ⟨i - 1, by omega⟩
    obtain ⟨p1, p2⟩ := h5 h1i
    rw [show j + 1 - 1 = j by omega] at p2
    have eD : Mbrought (cN a) (cH a) (cW a) x.toNatClampNeg 0 (Mb1 M U V (j + 1) y) = r_total 0 (xreach j x a a) - r_total 0 a := by
      unfold Mb1
      rw [h2]
      exact (Z_skip hk z hx (by omega) hi60 sk.2 0).symm
    have eN : Mbrought (cN a) (cH a) (cW a) x.toNatClampNeg 1 (Mb2 (cN a) (cH a) (cW a) x.toNatClampNeg M U V (Mb1 M U V (j + 1) y)) = r_total 1 (xreach j x a a) - r_total 1 a := by
      unfold Mb2 Mb1
      dsimp only
      rw [h2]
      exact (Z_skip hk z hx (by omega) hi60 sk.2 1).symm
    have eR0 : r_total 0 (xreach (j + 1) x a a) - r_total 0 a = r_total 0 (xreach j x a a) - r_total 0 a := (Z_reach (g := y.1) (h := y.1) hk hk z hx hi hi60 0).trans (Z_skip (g := y.1) (h := y.1) hk z hx (by omega) hi60 sk.2 0).symm
    have eR1 : r_total 1 (xreach (j + 1) x a a) - r_total 1 a = r_total 1 (xreach j x a a) - r_total 1 a := (Z_reach (g := y.1) (h := y.1) hk hk z hx hi hi60 1).trans (Z_skip (g := y.1) (h := y.1) hk z hx (by omega) hi60 sk.2 1).symm
    have hneg : ¬ (y.2.2.2.2.1 < 0 ∨ Mbrought (cN a) (cH a) (cW a) x.toNatClampNeg 0 (Mb1 M U V (j + 1) y) < y.2.2.2.2.2.1 ∨ (Mbrought (cN a) (cH a) (cW a) x.toNatClampNeg 0 (Mb1 M U V (j + 1) y) = y.2.2.2.2.2.1 ∧ Mbu (cN a) (cH a) (cW a) x.toNatClampNeg M U V (j + 1) y < y.2.2.2.2.2.2)) := by
      rw [eD]
      rintro (c | c | ⟨c, d⟩)
      · exact p1 c
      · rcases p2 with q | ⟨q, _⟩
        · exact absurd c (xasym q)
        · rw [q] at c; exact absurd c Int32.lt_irrefl
      · rcases p2 with q | ⟨_, q⟩
        · rw [c] at q; exact absurd q Int32.lt_irrefl
        · unfold Mbu at d
          rw [if_pos (Or.inr (by rw [eD, c]; exact Int32.le_refl _)), eN] at d
          exact absurd d (Int32.not_lt.mpr q)
    unfold Fbest Mbest1
    rw [if_pos sk, if_neg hneg]
    refine ⟨h1, hup, h3, fun c => by omega, fun _ => ⟨p1, ?_⟩⟩
    rw [show j + 1 + 1 - 1 = j + 1 by omega, eR0, eR1]
    exact p2
  · have eD : Mbrought (cN a) (cH a) (cW a) x.toNatClampNeg 0 (Mb1 M U V i y) = r_total 0 (xreach i x a a) - r_total 0 a := by
      unfold Mb1
      rw [h2]
      exact (Z_reach hk hk z hx hi hi60 0).symm
    have eN : Mbrought (cN a) (cH a) (cW a) x.toNatClampNeg 1 (Mb2 (cN a) (cH a) (cW a) x.toNatClampNeg M U V (Mb1 M U V i y)) = r_total 1 (xreach i x a a) - r_total 1 a := by
      unfold Mb2 Mb1
      dsimp only
      rw [h2]
      exact (Z_reach hk hk z hx hi hi60 1).symm
    have eR0 : r_total 0 (xreach i x a q.1) - r_total 0 a = r_total 0 (xreach i x a a) - r_total 0 a := (Z_reach (g := y.1) (h := y.1) hk h1 z hx hi hi60 0).trans (Z_reach (g := y.1) (h := y.1) hk hk z hx hi hi60 0).symm
    have eR1 : r_total 1 (xreach i x a q.1) - r_total 1 a = r_total 1 (xreach i x a a) - r_total 1 a := (Z_reach (g := y.1) (h := y.1) hk h1 z hx hi hi60 1).trans (Z_reach (g := y.1) (h := y.1) hk hk z hx hi hi60 1).symm
    have hS : Sok (xreach i x a q.1) := Sok_letPass (Sok_changeSetting (Sok_become hk h1))
    have e6 : y.2.2.2.2.1 = -6 ↔ y.2.2.2.2.1 < 0 := by
      constructor
      · intro c; rw [c]; decide
      · intro c
        by_cases d : i = 1
        · exact h4 d
        · exact absurd c (h5 (by omega)).1
    have hbu : (y.2.2.2.2.1 < 0 ∨ r_total 0 (xreach i x a a) - r_total 0 a ≤ y.2.2.2.2.2.1) → Mbu (cN a) (cH a) (cW a) x.toNatClampNeg M U V i y = r_total 1 (xreach i x a a) - r_total 1 a := fun c => by
      unfold Mbu
      rw [eD, if_pos c, eN]
    unfold Fbest Mbest1
    rw [if_neg sk, eD, eR0, eR1, h3]
    generalize hDD : r_total 0 (xreach i x a a) - r_total 0 a = DD at *
    generalize hNN : r_total 1 (xreach i x a a) - r_total 1 a = NN at *
    by_cases c : y.2.2.2.2.1 = -6 ∨ DD < y.2.2.2.2.2.1 ∨ (DD = y.2.2.2.2.2.1 ∧ NN < y.2.2.2.2.2.2)
    · have hb := hbu (by
        rcases c with c | c | ⟨c, _⟩
        · exact Or.inl (e6.mp c)
        · exact Or.inr (Int32.le_of_lt c)
        · exact Or.inr (by rw [c]; exact Int32.le_refl _))
      rw [if_pos c, hb, if_pos (by rcases c with c | c | c; exact Or.inl (e6.mp c); exact Or.inr (Or.inl c); exact Or.inr (Or.inr c))]
      refine ⟨hS, hup, rfl, fun c => by omega, fun _ => ⟨xnn0 (by omega), Or.inr ⟨?_, ?_⟩⟩⟩
      · rw [show i + 1 - 1 = i by omega]; exact hDD.symm
      · rw [show i + 1 - 1 = i by omega, hNN]; exact Int32.le_refl _
    · have hn : ¬ (y.2.2.2.2.1 < 0 ∨ DD < y.2.2.2.2.2.1 ∨ (DD = y.2.2.2.2.2.1 ∧ Mbu (cN a) (cH a) (cW a) x.toNatClampNeg M U V i y < y.2.2.2.2.2.2)) := by
        rintro (d | d | ⟨d, e⟩)
        · exact c (Or.inl (e6.mpr d))
        · exact c (Or.inr (Or.inl d))
        · rw [hbu (Or.inr (by rw [d]; exact Int32.le_refl _))] at e
          exact c (Or.inr (Or.inr ⟨d, e⟩))
      rw [if_neg c, if_neg hn]
      refine ⟨hS, hup, rfl, fun c => by omega, fun _ => ⟨fun d => c (Or.inl (e6.mpr d)), ?_⟩⟩
      rw [show i + 1 - 1 = i by omega, hDD, hNN]
      by_cases d : y.2.2.2.2.2.1 = DD
      · refine Or.inr ⟨d, Int32.not_lt.mp (fun e => c (Or.inr (Or.inr ⟨d.symm, e⟩)))⟩
      · refine Or.inl ?_
        have hle : y.2.2.2.2.2.1 ≤ DD := Int32.not_lt.mp (fun e => c (Or.inr (Or.inl e)))
        rcases Int32.lt_or_eq_of_le hle with q | q
        · exact q
        · exact absurd q d
theorem Z_best {a σ : xS} {sg pe g h : Nat → Int32} {M U V : Nat → Nat → Int32} {x : Int32} (hk : Sok a) (hσ : Sok σ) (z : ZS a sg M U V) : (sBest x a σ).2.1 = Mtk x (-2) (Mbest (cN a) (cH a) (cW a) x.toNatClampNeg M U V sg pe g h).2.2.2.2.1 := by
  unfold sBest Mtk
  by_cases c : Fin3 x 1 200 = 0
  · rw [if_pos c, if_pos c]
  · rw [if_neg c, if_neg c]
    unfold Mbest
    have key := xloop_sim (ZBi x a sg) 60 1 (σ, -6, 0, 0) (sg, pe, g, h, -6, 0, 0) (fun j q y h1 h2 hq => Z_best1 hk z c h1 (by omega) hq) ⟨hσ, fun _ => rfl, rfl, fun _ => rfl, fun c => by omega⟩
    rw [key.2.2.1]
