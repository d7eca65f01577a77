/-! ===== class and model side by side: forecasts ===== -/
theorem Z_home : ∀ (k i : Nat) (q : (Nat → Int32) × (Nat → Int32) × (Nat → Int32)) (r : Nat → Int32), ZY q.1 q.2.1 q.2.2 r → (Fhome k i q).2 = Mhome k i r
  | 0, _, _, _, _ => rfl
  | k + 1, i, q, r, h => by
    have b2 : r 2 = q.1 5 := h.1.2.2.1
    unfold Fhome Mhome
    by_cases c : q.1 5 = 0
    · rw [if_pos c, if_neg (fun z => Mstr_0.mp z (by rw [b2]; exact c))]
      exact Z_home k (i + 1) _ _ (Z_go h)
    · rw [if_neg c, if_pos (Mstr_0.mpr (by rw [b2]; exact c))]
theorem FcopyW_at {a ω : Nat → Int32} : ∀ k, 2 ≤ k → k < 9 → FcopyW a ω k = a k := by
  intro k h1 h2
  have : k = 2 ∨ k = 3 ∨ k = 4 ∨ k = 5 ∨ k = 6 ∨ k = 7 ∨ k = 8 := by omega
  rcases this with rfl | rfl | rfl | rfl | rfl | rfl | rfl <;> simp [FcopyW, va_up]
theorem Fcpy6_at {a b : Nat → Int32} : ∀ k, k < 6 → Fcpy6 a b k = a k := by
  intro k hk
  unfold Fcpy6 va_cpy
  rw [if_pos (by omega)]
  congr 1
  omega
theorem Z_homeIn {a σ : xS} {sg : Nat → Int32} {M U V : Nat → Nat → Int32} {x : Int32} (hk : Sok a) (z : ZS a sg M U V) : (sHome x a σ).2 = Mof (sg 9) x (-1) (Mhome 501 0 (V x.toNatClampNeg)) := by
  have hn : cW a ≤ 8 := hk.1.2.2.2.2.2
  have hi := Fhas_iff (x := x) (show cW a ≤ 16 by omega) (ZS.n4 hk z).2.2
  unfold sHome Mof r_hasWalker
  by_cases c : Fhas (cW a) x = 0
  · rw [if_pos c, if_pos (hi.mp c)]
  · rw [if_neg c, if_neg (fun q => c (hi.mpr q))]
    exact Z_home 501 0 _ _ ((z.2.2.2.2.1 _ (xhas (x := x) (n := cW a) (by omega) c).1).cong FcopyW_at Fcpy6_at Fcpy6_at (fun _ _ => rfl))
theorem cN_become {a σ : xS} (hk : Sok a) : cN (s_become a σ) = cN a ∧ cH (s_become a σ) = cH a ∧ cW (s_become a σ) = cW a := by
  have h1 : cN a ≤ 16 := hk.1.2.1
  have h2 : cH a ≤ 8 := hk.1.2.2.2.1
  have h3 : cW a ≤ 8 := hk.1.2.2.2.2.2
  have e : s_become a σ 0 0 = FheadC (cN a) (cH a) (cW a) (a 0 0 7) (σ 0 0) := rfl
  refine ⟨?_, ?_, ?_⟩
  · have e4 : s_become a σ 0 0 4 = nI (cN a) := by rw [e]; exact FheadC_4
    exact (congrArg Int32.toNatClampNeg e4).trans (nI_clamp (by omega))
  · have e4 : s_become a σ 0 0 5 = nI (cH a) := by rw [e]; exact FheadC_5
    exact (congrArg Int32.toNatClampNeg e4).trans (nI_clamp (by omega))
  · have e4 : s_become a σ 0 0 6 = nI (cW a) := by rw [e]; exact FheadC_6
    exact (congrArg Int32.toNatClampNeg e4).trans (nI_clamp (by omega))
theorem letPass_f {x : Int32} {σ : xS} {w : Nat} (hw : w ≠ 7) : s_letPass x σ 0 0 w = σ 0 0 w := by
  show (Fpass (cN σ) (cH σ) (cW σ) (σ 1 0) x (σ 0 0, σ 2, σ 3, σ 4, σ 5, σ 6)).1 w = σ 0 0 w
  unfold Fpass
  split
  · rfl
  · exact xloop_inv (fun q : xS6 => q.1 w = σ 0 0 w) (fun _ q hq => (va_up_ne _ _ hw).trans hq) _ 0 _ rfl
theorem cN_pass {x : Int32} {σ : xS} : cN (s_letPass x σ) = cN σ ∧ cH (s_letPass x σ) = cH σ ∧ cW (s_letPass x σ) = cW σ :=
  ⟨congrArg Int32.toNatClampNeg (letPass_f (by decide)), congrArg Int32.toNatClampNeg (letPass_f (by decide)), congrArg Int32.toNatClampNeg (letPass_f (by decide))⟩
theorem Z_tot {σ : xS} {sg : Nat → Int32} {M U V : Nat → Nat → Int32} (z : ZS σ sg M U V) (w : Int32) : r_total w σ = Mcounted (cN σ) (cH σ) (cW σ) w M U V := Z_total w z.2.2.1 z.2.2.2.1 z.2.2.2.2.1
theorem Z_pass1 {σ : xS} {sg g h : Nat → Int32} {M U V : Nat → Nat → Int32} {x : Int32} {n nh nw : Nat} (hk : Sok σ) (z : ZS σ sg M U V) (hx : ¬ Fin3 x 1 200 = 0) (hn : cN σ = n) (hh : cH σ = nh) (hw : cW σ = nw) (w : Int32) :
    r_total w (s_letPass x σ) = Mcounted n nh nw w (Mticks n nh nw x.toNatClampNeg (sg, M, U, V, g, h)).2.1 (Mticks n nh nw x.toNatClampNeg (sg, M, U, V, g, h)).2.2.1 (Mticks n nh nw x.toNatClampNeg (sg, M, U, V, g, h)).2.2.2.1 := by
  have key := (Z_letPass (g := g) (h := h) (x := x) hk z).2
  unfold Mtk at key
  rw [if_neg hx, if_neg hx, if_neg hx, if_neg hx] at key
  have e := Z_tot key w
  rw [cN_pass.1, cN_pass.2.1, cN_pass.2.2] at e
  rw [e, hn, hh, hw]
theorem Z_try {a σ : xS} {sg g h : Nat → Int32} {M U V : Nat → Nat → Int32} {x : Int32} (hk : Sok a) (hσ : Sok σ) (z : ZS a sg M U V) (hx : ¬ Fin3 x 1 200 = 0) (w : Int32) :
    r_total w (sTry x a σ) - r_total w a = Mbrought (cN a) (cH a) (cW a) x.toNatClampNeg w (sg, M, U, V, g, h) := by
  have hb := cN_become (σ := σ) hk
  unfold sTry Mbrought
  rw [Z_pass1 (g := g) (h := h) (Sok_become hk hσ) (ZS.become (σ := σ) hk z) hx hb.1 hb.2.1 hb.2.2 w, Z_tot z w]
theorem Z_brings {a σ : xS} {sg g h : Nat → Int32} {M U V : Nat → Nat → Int32} {x w : Int32} (hk : Sok a) (hσ : Sok σ) (z : ZS a sg M U V) :
    (if Fin3 x 1 200 = 0 then -2 else if Fin3 w 0 3 = 0 then -2 else r_total w (sTry x a σ) - r_total w a) = Mbr x w (-2) (Mbrought (cN a) (cH a) (cW a) x.toNatClampNeg w (sg, M, U, V, g, h)) := by
  unfold Mbr
  by_cases c : Fin3 x 1 200 = 0
  · rw [if_pos c, if_pos c]
  · rw [if_neg c, if_neg c, Z_try (g := g) (h := h) hk hσ z c w]
theorem Z_wo {a σ : xS} {sg g h : Nat → Int32} {M U V : Nat → Nat → Int32} {i : Nat} (hk : Sok a) (hσ : Sok σ) (z : ZS a sg M U V) (hi : i < cN a) :
    r_total 0 (xwithout i a σ) - r_total 0 a = Msum (cW a) 5 (Mwo (cN a) (cH a) (cW a) i (sg, M, U, V, g, h)).2.2.2.1 - Msum (cW a) 5 V := by
  have hn : cN a ≤ 16 := hk.1.2.1
  have hb := cN_become (σ := σ) hk
  have hT := Sok_become hk hσ
  have zT := (Z_mend (x := nI i) (h := 2) hT (ZS.become (σ := σ) hk z)).2
  have e7 : sg 7 = nI (cN a) := (ZS.n4 hk z).1
  have e1 : ¬ Fin3 (nI i) 0 (sg 7 - 1) = 0 := by rw [e7, Fin3_nI hi hn]; decide
  have e2 : ¬ Fin3 2 0 2 = 0 := by decide
  unfold Mmd at zT
  rw [if_neg e1, if_neg e2, nI_clamp (by omega)] at zT
  have ht : ¬ Fin3 100 1 200 = 0 := by decide
  have key := Z_pass1 (g := g) (h := h) (x := 100) (Sok_mendLamp hT) zT ht hb.1 hb.2.1 hb.2.2 0
  have k0 : r_total 0 a = Msum (cW a) 5 V := Z_tot z 0
  have hm : ∀ A B C, Mcounted (cN a) (cH a) (cW a) 0 A B C = Msum (cW a) 5 C := fun _ _ _ => if_pos rfl
  rw [show xwithout i a σ = s_letPass 100 (s_mendLamp (nI i) 2 (s_become a σ)) from rfl, key, k0, hm, show (100 : Int32).toNatClampNeg = 100 from by decide]
  unfold Mwo
  with_reducible rfl
theorem Sok_try {x : Int32} {a σ : xS} (hk : Sok a) (hσ : Sok σ) : Sok (sTry x a σ) := Sok_letPass (Sok_become hk hσ)
theorem Z_needless {a σ : xS} {sg pe g h : Nat → Int32} {M U V : Nat → Nat → Int32} (hk : Sok a) (hσ : Sok σ) (z : ZS a sg M U V) : (sNeed a σ).2 = (Mneed (cN a) (cH a) (cW a) sg M U V pe g h).2.2.2 := by
  have ht : ¬ Fin3 100 1 200 = 0 := by decide
  have hd : r_total 0 (sTry 100 a σ) - r_total 0 a = Mbrought (cN a) (cH a) (cW a) 100 0 (sg, M, U, V, g, h) := Z_try hk hσ z ht 0
  unfold sNeed Mneed
  rw [hd]
  refine (xloop_sim (fun _ (q : xS × Int32) (y : (Nat → Int32) × (Nat → Int32) × (Nat → Int32) × Int32) => Sok q.1 ∧ q.2 = y.2.2.2) (cN a) 0 _ _ (fun i q y _ hi hq => ?_) ⟨Sok_try hk hσ, rfl⟩).2
  have e := Z_wo (g := y.2.1) (h := y.2.2.1) hk hq.1 z (show i < cN a by omega)
  refine ⟨Sok_letPass (Sok_mendLamp (Sok_become hk hq.1)), ?_⟩
  unfold Fneed Mneed1
  dsimp only
  rw [e, hq.2]
  split
  · rfl
  · exact xor_0.symm
