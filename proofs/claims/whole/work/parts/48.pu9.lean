/-! ===== class and model side by side: what a street's numbers are read from ===== -/
theorem ZL.cong {ℓ m ℓ' m' : Nat → Int32} (h : ZL ℓ m) (e : ∀ k, k < 11 → ℓ' k = ℓ k) (g : ∀ k, k < 13 → m' k = m k) : ZL ℓ' m' := by
  obtain ⟨⟨a0, a1, a2, a3, a4, a7, a8, a9, a10⟩, hw, hd, h0⟩ := h
  refine ⟨⟨?_, ?_, ?_, ?_, ?_, ?_, ?_, ?_, ?_⟩, ?_, ?_, ?_⟩
  · rw [g 0 (by decide), e 0 (by decide)]; exact a0
  · rw [g 1 (by decide), e 1 (by decide)]; exact a1
  · rw [g 2 (by decide), e 2 (by decide)]; exact a2
  · rw [g 3 (by decide), e 3 (by decide)]; exact a3
  · rw [g 4 (by decide), e 4 (by decide)]; exact a4
  · rw [g 7 (by decide), e 7 (by decide)]; exact a7
  · rw [g 8 (by decide), e 8 (by decide)]; exact a8
  · rw [g 9 (by decide), e 9 (by decide)]; exact a9
  · rw [g 10 (by decide), e 10 (by decide)]; exact a10
  · rw [e 5 (by decide), e 6 (by decide), g 5 (by decide), g 6 (by decide)]; exact hw
  · rw [e 2 (by decide), e 4 (by decide)]; exact hd
  · rw [e 0 (by decide), e 3 (by decide)]; exact h0
theorem ZY.cong {ω γ π r ω' γ' π' r' : Nat → Int32} (h : ZY ω γ π r) (e : ∀ k, 2 ≤ k → k < 9 → ω' k = ω k) (eg : ∀ k, k < 6 → γ' k = γ k) (ep : ∀ k, k < 6 → π' k = π k) (er : ∀ k, k < 22 → r' k = r k) : ZY ω' γ' π' r' := by
  obtain ⟨⟨b0, b1, b2, b3, b4, b5, b6⟩, h3, h4, g, hg, e2, h5, hG, h6⟩ := h
  refine ⟨⟨?_, ?_, ?_, ?_, ?_, ?_, ?_⟩, ?_, ?_, g, hg, ?_, ?_, fun j hj => ?_, ?_⟩
  · rw [er 0 (by decide), e 3 (by decide) (by decide)]; exact b0
  · rw [er 1 (by decide), e 4 (by decide) (by decide)]; exact b1
  · rw [er 2 (by decide), e 5 (by decide) (by decide)]; exact b2
  · rw [er 3 (by decide), e 2 (by decide) (by decide)]; exact b3
  · rw [er 4 (by decide), e 6 (by decide) (by decide)]; exact b4
  · rw [er 5 (by decide), e 7 (by decide) (by decide)]; exact b5
  · rw [er 6 (by decide), e 8 (by decide) (by decide)]; exact b6
  · rw [e 3 (by decide) (by decide)]; exact h3
  · rw [e 4 (by decide) (by decide)]; exact h4
  · rw [e 2 (by decide) (by decide)]; exact e2
  · rw [e 5 (by decide) (by decide)]; exact h5
  · rw [er _ (by omega), er _ (by omega), eg j (by omega), ep j (by omega)]; exact hG j hj
  · rw [e 6 (by decide) (by decide), ep 0 (by decide)]; exact h6
theorem ZC.cong {f s f' s' : Nat → Int32} {L O Y P Q L' O' Y' P' Q' : Nat → Nat → Int32} {sg sg' : Nat → Int32} {M U V M' U' V' : Nat → Nat → Int32} (z : ZC f s L O Y P Q sg M U V)
    (hf : SokF f) (ef : ∀ k, 4 ≤ k → k < 8 → f' k = f k) (es : ∀ k, k < 6 → s' k = s k)
    (eL : ∀ i, i < (f 4).toNatClampNeg → ∀ k, k < 11 → L' i k = L i k) (eO : ∀ i, i < (f 5).toNatClampNeg → ∀ k, k < 2 → O' i k = O i k)
    (eY : ∀ i, i < (f 6).toNatClampNeg → ∀ k, 2 ≤ k → k < 9 → Y' i k = Y i k) (eP : ∀ i, i < (f 6).toNatClampNeg → ∀ k, k < 6 → P' i k = P i k) (eQ : ∀ i, i < (f 6).toNatClampNeg → ∀ k, k < 6 → Q' i k = Q i k)
    (eg : ∀ k, k < 10 → sg' k = sg k) (eM : ∀ i, i < 16 → ∀ k, k < 13 → M' i k = M i k) (eU : ∀ i, i < 8 → ∀ k, k < 3 → U' i k = U i k) (eV : ∀ i, i < 8 → ∀ k, k < 22 → V' i k = V i k) : ZC f' s' L' O' Y' P' Q' sg' M' U' V' := by
  obtain ⟨⟨g1, ⟨⟨q0, q2, q3, q4, q5⟩, r2, r3, r4, r5⟩, b0, b1⟩, ⟨t6, t7, t8, t9⟩, hl, hO, hY, uM, uU, uV⟩ := z
  have e4 := ef 4 (by decide) (by decide)
  have e5 := ef 5 (by decide) (by decide)
  have e6 := ef 6 (by decide) (by decide)
  have e7 := ef 7 (by decide) (by decide)
  unfold ZC
  rw [e4, e5, e6, e7]
  refine ⟨⟨?_, ⟨⟨?_, ?_, ?_, ?_, ?_⟩, ?_, ?_, ?_, ?_⟩, ?_, ?_⟩, ⟨?_, ?_, ?_, ?_⟩, fun j hj => ⟨?_, ?_⟩, fun j hj => ⟨?_, ?_, ?_⟩, fun j hj => ?_, fun i h1 h2 k hk => ?_, fun i h1 h2 k hk => ?_, fun i h1 h2 k hk => ?_⟩
  · rw [eg 1 (by decide), es 1 (by decide)]; exact g1
  · rw [eg 0 (by decide), es 0 (by decide)]; exact q0
  · rw [eg 2 (by decide), es 2 (by decide)]; exact q2
  · rw [eg 3 (by decide), es 3 (by decide)]; exact q3
  · rw [eg 4 (by decide), es 4 (by decide)]; exact q4
  · rw [eg 5 (by decide), es 5 (by decide)]; exact q5
  · rw [es 2 (by decide)]; exact r2
  · rw [es 3 (by decide)]; exact r3
  · rw [es 4 (by decide)]; exact r4
  · rw [es 5 (by decide)]; exact r5
  · rw [es 0 (by decide)]; exact b0
  · rw [es 1 (by decide)]; exact b1
  · rw [eg 6 (by decide)]; exact t6
  · rw [eg 7 (by decide)]; exact t7
  · rw [eg 8 (by decide)]; exact t8
  · rw [eg 9 (by decide)]; exact t9
  · exact (hl j hj).1.cong (eL j hj) (eM j (by have := hf.2.1; omega))
  · rfl
  · rw [eU j (by have := hf.2.2.2.1; omega) 0 (by decide), eO j hj 0 (by decide)]; exact (hO j hj).1
  · rw [eU j (by have := hf.2.2.2.1; omega) 1 (by decide), eO j hj 1 (by decide)]; exact (hO j hj).2.1
  · rw [eO j hj 0 (by decide)]; exact (hO j hj).2.2
  · exact (hY j hj).cong (eY j hj) (eP j hj) (eQ j hj) (eV j (by have := hf.2.2.2.2.2; omega))
  · rw [eM i h2 k hk]; exact uM i h1 h2 k hk
  · rw [eU i h2 k hk]; exact uU i h1 h2 k hk
  · rw [eV i h2 k hk]; exact uV i h1 h2 k hk
def ZR (σ : xS) (r : Nat → Int32) : Prop := ZS σ (vS r) (vL r) (vO r) (vY r)
theorem ZR.of {σ : xS} {sg r : Nat → Int32} {M U V : Nat → Nat → Int32} (hk : Sok σ) (h : ZS σ sg M U V) (e : ∀ k, k < 440 → r k = xat sg M U V k) : ZR σ r := by
  refine ZC.cong h hk.1 (fun _ _ _ => rfl) (fun _ _ => rfl) (fun _ _ _ _ => rfl) (fun _ _ _ _ => rfl) (fun _ _ _ _ _ => rfl) (fun _ _ _ _ => rfl) (fun _ _ _ _ => rfl) (fun k hk => ?_) (fun i hi k hk => ?_) (fun i hi k hk => ?_) (fun i hi k hk => ?_)
  · unfold vS; rw [e k (by omega), xat_s hk]
  · unfold vL; rw [e _ (by omega), xat_L hi hk]
  · unfold vO; rw [e _ (by omega), xat_O hi hk]
  · unfold vY; rw [e _ (by omega), xat_Y hk]
theorem ZR.cong {σ : xS} {r r' : Nat → Int32} (hk : Sok σ) (h : ZR σ r) (e : ∀ k, k < 440 → r' k = r k) : ZR σ r' := ZR.of hk h (fun k hk => by rw [xat_v]; exact e k hk)
theorem ZS.become {a σ : xS} {sg : Nat → Int32} {M U V : Nat → Nat → Int32} (hk : Sok a) (h : ZS a sg M U V) : ZS (s_become a σ) sg M U V := by
  have h4 := hk.1
  refine ZC.cong h h4 (fun k h1 h2 => ?_) (fun k hk => ?_) (fun i hi k hk => ?_) (fun i hi k hk => ?_) (fun i hi k h1 h2 => ?_) (fun i hi k hk => ?_) (fun i hi k hk => ?_) (fun _ _ => rfl) (fun _ _ _ _ => rfl) (fun _ _ _ _ => rfl) (fun _ _ _ _ => rfl)
  · show FheadC (cN a) (cH a) (cW a) (a 0 0 7) (σ 0 0) k = a 0 0 k
    have hk4 : k = 4 ∨ k = 5 ∨ k = 6 ∨ k = 7 := by omega
    rcases hk4 with rfl | rfl | rfl | rfl
    · exact FheadC_4.trans h4.1.symm
    · exact FheadC_5.trans h4.2.2.1.symm
    · exact FheadC_6.trans h4.2.2.2.2.1.symm
    · exact va_up_at
  · show Fcpy6 (a 1 0) (σ 1 0) k = a 1 0 k
    unfold Fcpy6 va_cpy
    rw [if_pos (by omega)]
    congr 1
    omega
  · show LCopy (cN a) (a 2) (σ 2) i k = a 2 i k
    unfold LCopy
    rw [xloop_row (g := fun i ℓ => Fcopy (a 2 i) ℓ), if_pos ⟨Nat.zero_le _, by rw [Nat.zero_add]; exact hi⟩]
    have : k = 0 ∨ k = 1 ∨ k = 2 ∨ k = 3 ∨ k = 4 ∨ k = 5 ∨ k = 6 ∨ k = 7 ∨ k = 8 ∨ k = 9 ∨ k = 10 := by omega
    rcases this with rfl | rfl | rfl | rfl | rfl | rfl | rfl | rfl | rfl | rfl | rfl <;> simp [Fcopy, va_up]
  · show OCopy (cH a) (a 3) (σ 3) i k = a 3 i k
    unfold OCopy
    rw [xloop_row (g := fun i ℓ => va_up (va_up ℓ 0 (a 3 i 0)) 1 (a 3 i 1)), if_pos ⟨Nat.zero_le _, by rw [Nat.zero_add]; exact hi⟩]
    have : k = 0 ∨ k = 1 := by omega
    rcases this with rfl | rfl <;> simp [va_up]
  · show YCopy (cW a) (a 4) (σ 4) i k = a 4 i k
    unfold YCopy
    rw [xloop_row (g := fun i ℓ => FcopyW (a 4 i) ℓ), if_pos ⟨Nat.zero_le _, by rw [Nat.zero_add]; exact hi⟩]
    have : k = 2 ∨ k = 3 ∨ k = 4 ∨ k = 5 ∨ k = 6 ∨ k = 7 ∨ k = 8 := by omega
    rcases this with rfl | rfl | rfl | rfl | rfl | rfl | rfl <;> simp [FcopyW, va_up]
  · show PCopy (cW a) (a 5) (σ 5) i k = a 5 i k
    unfold PCopy
    rw [xloop_row (g := fun i ℓ => Fcpy6 (a 5 i) ℓ), if_pos ⟨Nat.zero_le _, by rw [Nat.zero_add]; exact hi⟩]
    unfold Fcpy6 va_cpy
    rw [if_pos (by omega)]
    congr 1
    omega
  · show PCopy (cW a) (a 6) (σ 6) i k = a 6 i k
    unfold PCopy
    rw [xloop_row (g := fun i ℓ => Fcpy6 (a 6 i) ℓ), if_pos ⟨Nat.zero_le _, by rw [Nat.zero_add]; exact hi⟩]
    unfold Fcpy6 va_cpy
    rw [if_pos (by omega)]
    congr 1
    omega
