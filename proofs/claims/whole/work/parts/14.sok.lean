/-! ===== counts stay in their bounds ===== -/
theorem xloop_row {ρ : Type} {g : Nat → ρ → ρ} : ∀ (k i : Nat) (M : Nat → ρ) (j : Nat), xloop (fun i (M : Nat → ρ) => va_up M i (g i (M i))) k i M j = if i ≤ j ∧ j < i + k then g j (M j) else M j
  | 0, i, M, j => by
    rw [if_neg (by omega)]; rfl
  | k + 1, i, M, j => by
    show xloop (fun i (M : Nat → ρ) => va_up M i (g i (M i))) k (i + 1) (va_up M i (g i (M i))) j = _
    rw [xloop_row k (i + 1)]
    by_cases h : j = i
    · subst h
      rw [if_neg (by omega), if_pos (by omega), va_up_at]
    · rw [va_up_ne _ _ h]
      by_cases h2 : i + 1 ≤ j ∧ j < i + 1 + k
      · rw [if_pos h2, if_pos (by omega)]
      · rw [if_neg h2, if_neg (by omega)]
theorem xloop_inv {α : Type} {g : Nat → α → α} (I : α → Prop) (hg : ∀ i a, I a → I (g i a)) : ∀ (k i : Nat) (a : α), I a → I (xloop g k i a)
  | 0, _, _, h => h
  | k + 1, i, a, h => xloop_inv I hg k (i + 1) (g i a) (hg i a h)
theorem FMove_at : ∀ (k i : Nat) (Y P Q : Nat → Nat → Int32) (j : Nat), (xloop (fun i (q : (Nat → Nat → Int32) × (Nat → Nat → Int32) × (Nat → Nat → Int32)) => (va_up q.1 i (FgoW (q.1 i) (q.2.1 i) (q.2.2 i)), va_up q.2.1 i (FgoP (q.1 i) (q.2.1 i) (q.2.2 i) (q.2.1 i)), va_up q.2.2 i (FgoP (q.1 i) (q.2.1 i) (q.2.2 i) (q.2.2 i)))) k i (Y, P, Q)).1 j = (if i ≤ j ∧ j < i + k then FgoW (Y j) (P j) (Q j) else Y j) ∧ (xloop (fun i (q : (Nat → Nat → Int32) × (Nat → Nat → Int32) × (Nat → Nat → Int32)) => (va_up q.1 i (FgoW (q.1 i) (q.2.1 i) (q.2.2 i)), va_up q.2.1 i (FgoP (q.1 i) (q.2.1 i) (q.2.2 i) (q.2.1 i)), va_up q.2.2 i (FgoP (q.1 i) (q.2.1 i) (q.2.2 i) (q.2.2 i)))) k i (Y, P, Q)).2.1 j = (if i ≤ j ∧ j < i + k then FgoP (Y j) (P j) (Q j) (P j) else P j) ∧ (xloop (fun i (q : (Nat → Nat → Int32) × (Nat → Nat → Int32) × (Nat → Nat → Int32)) => (va_up q.1 i (FgoW (q.1 i) (q.2.1 i) (q.2.2 i)), va_up q.2.1 i (FgoP (q.1 i) (q.2.1 i) (q.2.2 i) (q.2.1 i)), va_up q.2.2 i (FgoP (q.1 i) (q.2.1 i) (q.2.2 i) (q.2.2 i)))) k i (Y, P, Q)).2.2 j = (if i ≤ j ∧ j < i + k then FgoP (Y j) (P j) (Q j) (Q j) else Q j)
  | 0, i, Y, P, Q, j => by
    rw [if_neg (by omega), if_neg (by omega), if_neg (by omega)]
    exact ⟨rfl, rfl, rfl⟩
  | k + 1, i, Y, P, Q, j => by
    have h := FMove_at k (i + 1) (va_up Y i (FgoW (Y i) (P i) (Q i))) (va_up P i (FgoP (Y i) (P i) (Q i) (P i))) (va_up Q i (FgoP (Y i) (P i) (Q i) (Q i))) j
    have e : ∀ {A B : Nat → Int32}, j ≠ i → (if i + 1 ≤ j ∧ j < i + 1 + k then A else B) = if i ≤ j ∧ j < i + (k + 1) then A else B := by
      intro A B hj
      by_cases h2 : i + 1 ≤ j ∧ j < i + 1 + k
      · rw [if_pos h2, if_pos (by omega)]
      · rw [if_neg h2, if_neg (by omega)]
    by_cases hj : j = i
    · subst hj
      rw [if_neg (by omega), if_neg (by omega), if_neg (by omega), va_up_at, va_up_at, va_up_at] at h
      rw [if_pos (by omega), if_pos (by omega), if_pos (by omega)]
      exact h
    · rw [va_up_ne _ _ hj, va_up_ne _ _ hj, va_up_ne _ _ hj, e hj, e hj, e hj] at h
      exact h
theorem WokR.of {ω ω' : Nat → Int32} (h : WokR ω) (h2 : ω' 2 = ω 2) (h5 : ω' 5 = ω 5) : WokR ω' := by
  unfold WokR at h ⊢
  rw [h2, h5]; exact h
theorem xdec1 {x : Int32} (h : x = nI x.toNatClampNeg) (h6 : x.toNatClampNeg ≤ 6) (h0 : ¬ x = 0) : (x - 1).toNatClampNeg ≤ 6 ∧ x - 1 = nI (x - 1).toNatClampNeg ∧ (x - 1).toNatClampNeg + 1 = x.toNatClampNeg := by
  generalize x.toNatClampNeg = g at h h6
  have hg : 0 < g := by
    rcases Nat.eq_zero_or_pos g with e | e
    · subst e; exact absurd h h0
    · exact e
  obtain ⟨k, rfl⟩ : ∃ k, g = k + 1 := ⟨g - 1, by omega⟩
  have e : x - 1 = nI k := by rw [h]; exact nI_pred k
  rw [e, nI_clamp (by omega)]
  exact ⟨by omega, rfl, rfl⟩
theorem WokR_fin {ω : Nat → Int32} (h : WokR ω) (h0 : ¬ ω 2 = 0) : WokR (FfinW ω) := by
  obtain ⟨a1, a2, -⟩ := xdec1 h.2.1 h.1 h0
  refine ⟨a1, a2, ?_⟩
  show (if ω 2 - 1 = 0 then (1 : Int32) else 0) = 0 ∨ (if ω 2 - 1 = 0 then (1 : Int32) else 0) = 1
  split
  · exact Or.inr rfl
  · exact Or.inl rfl
theorem WokR_go {ω γ π : Nat → Int32} (h : WokR ω) : WokR (FgoW ω γ π) := by
  unfold FgoW
  split
  · exact h
  · rename_i h0
    split
    · split
      · exact WokR_fin (h.of (ω' := va_up ω 6 (ω 6 + 1)) rfl rfl) h0
      · exact h.of rfl rfl
    · split
      · unfold FarrW
        split
        · exact h.of rfl rfl
        · exact WokR_fin (h.of (ω' := Fgone ω γ) rfl rfl) h0
      · exact h.of rfl rfl
theorem Fdark_Y {n : Nat} : ∀ (k i : Nat) (q : (Nat → Nat → Int32) × (Nat → Nat → Int32)) (j w : Nat), w ≠ 7 → (xloop (fun w (q : (Nat → Nat → Int32) × (Nat → Nat → Int32)) => if q.2 w 5 = 0 then (if Flit n (q.2 w 3) q.1 = 0 then (LBlame n (q.2 w 3) q.1, va_up q.2 w (va_up (q.2 w) 7 (q.2 w 7 + 1))) else q) else q) k i q).2 j w = q.2 j w
  | 0, _, _, _, _, _ => rfl
  | k + 1, i, q, j, w, hw => by
    rw [show ∀ (g : Nat → (Nat → Nat → Int32) × (Nat → Nat → Int32) → (Nat → Nat → Int32) × (Nat → Nat → Int32)), xloop g (k + 1) i q = xloop g k (i + 1) (g i q) from fun _ => rfl]
    rw [Fdark_Y k (i + 1) _ j w hw]
    split
    · split
      · show va_up q.2 i (va_up (q.2 i) 7 (q.2 i 7 + 1)) j w = q.2 j w
        by_cases hj : j = i
        · subst hj
          rw [va_up_at, va_up_ne _ _ hw]
        · rw [va_up_ne _ _ hj]
      · rfl
    · rfl
def SokQ (q : xS6) : Prop := SokF q.1 ∧ ∀ j, j < 8 → WokR (q.2.2.2.1 j)
theorem SokF.of {f f' : Nat → Int32} (h : SokF f) (h4 : f' 4 = f 4) (h5 : f' 5 = f 5) (h6 : f' 6 = f 6) : SokF f' := by
  unfold SokF at h ⊢
  rw [h4, h5, h6]; exact h
theorem SokQ_tick {n nh nw : Nat} {sg : Nat → Int32} {q : xS6} (h : SokQ q) : SokQ (Ftick n nh nw sg q) := by
  refine ⟨h.1.of rfl rfl rfl, fun j hj => ?_⟩
  show WokR ((Fdark n nw _ (FMove nw q.2.2.2.1 q.2.2.2.2.1 q.2.2.2.2.2).1).2 j)
  have h1 : WokR ((FMove nw q.2.2.2.1 q.2.2.2.2.1 q.2.2.2.2.2).1 j) := by
    unfold FMove
    rw [(FMove_at nw 0 q.2.2.2.1 q.2.2.2.2.1 q.2.2.2.2.2 j).1]
    split
    · exact WokR_go (h.2 j hj)
    · exact h.2 j hj
  refine h1.of ?_ ?_
  · unfold Fdark; exact Fdark_Y nw 0 _ j 2 (by decide)
  · unfold Fdark; exact Fdark_Y nw 0 _ j 5 (by decide)
theorem SokQ_ticks {n nh nw k : Nat} {sg : Nat → Int32} {q : xS6} (h : SokQ q) : SokQ (Fticks n nh nw sg k q) := xloop_inv SokQ (fun _ _ h => SokQ_tick h) k 0 q h
theorem Sok_letPass {x : Int32} {σ : xS} (h : Sok σ) : Sok (s_letPass x σ) := by
  have h1 : SokQ ((σ 0 0), (σ 2), (σ 3), (σ 4), (σ 5), (σ 6)) := h
  have h2 : SokQ (Fpass (cN σ) (cH σ) (cW σ) (σ 1 0) x ((σ 0 0), (σ 2), (σ 3), (σ 4), (σ 5), (σ 6))) := by
    unfold Fpass
    split
    · exact h1
    · exact SokQ_ticks h1
  exact h2
theorem Sok_changeSetting {x v : Int32} {σ : xS} (h : Sok σ) : Sok (s_changeSetting x v σ) := h
theorem Sok_mendLamp {x v : Int32} {σ : xS} (h : Sok σ) : Sok (s_mendLamp x v σ) := h
theorem Sok_coughByOrder {x : Int32} {σ : xS} (h : Sok σ) : Sok (s_coughByOrder x σ) := h
theorem xinc_ok {k : Nat} {x : Int32} {N : Nat} (hk : N < 2 ^ 30) (hx : x = nI k) (h : k < N) : x + 1 = nI (x + 1).toNatClampNeg ∧ (x + 1).toNatClampNeg ≤ N := by
  have e : x + 1 = nI (k + 1) := by rw [hx]; exact nI_1 k
  rw [e, nI_clamp (by omega)]
  exact ⟨rfl, h⟩
theorem Sok_addHouse {x : Int32} {σ : xS} (h : Sok σ) : Sok (s_addHouse x σ) := by
  refine ⟨?_, h.2⟩
  show SokF (FhouseF x (cH σ) (σ 0 0))
  unfold FhouseF
  split
  · exact h.1
  · split
    · rename_i h1
      have hlt : cH σ < 8 := xge8 8 rfl (by decide) (by have := h.hh8; omega) h1
      have := xinc_ok (k := cH σ) (x := nI (cH σ)) (N := 8) (by decide) rfl hlt
      exact ⟨h.1.1, h.1.2.1, this.1, this.2, h.1.2.2.2.2.1, h.1.2.2.2.2.2⟩
    · exact h.1
theorem Sok_addLamp {x y : Int32} {σ : xS} (h : Sok σ) : Sok (s_addLamp x y σ) := by
  refine ⟨?_, h.2⟩
  show SokF (Flamp x y (cN σ) (σ 2) (σ 0 0) (σ 0 0) (σ 0 0) (va_up (σ 0 0) 4 (nI (cN σ) + 1)))
  unfold Flamp
  split
  · exact h.1
  · split
    · exact h.1
    · split
      · rename_i h1
        split
        · have hlt : cN σ < 16 := xge8 16 rfl (by decide) (by have := h.hn16; omega) h1
          have := xinc_ok (k := cN σ) (x := nI (cN σ)) (N := 16) (by decide) rfl hlt
          exact ⟨this.1, this.2, h.1.2.2⟩
        · exact h.1
      · exact h.1
theorem Sok_addWalker {x y : Int32} {σ : xS} (h : Sok σ) : Sok (s_addWalker x y σ) := by
  constructor
  · show SokF (Fwalker x y (cW σ) (σ 0 0) (σ 0 0) (va_up (σ 0 0) 6 (nI (cW σ) + 1)))
    unfold Fwalker
    split
    · exact h.1
    · split
      · exact h.1
      · split
        · rename_i h1
          have hlt : cW σ < 8 := xge8 8 rfl (by decide) (by have := h.hw8; omega) h1
          have := xinc_ok (k := cW σ) (x := nI (cW σ)) (N := 8) (by decide) rfl hlt
          exact ⟨h.1.1, h.1.2.1, h.1.2.2.1, h.1.2.2.2.1, this.1, this.2⟩
        · exact h.1
  · intro j hj
    show WokR (Fwalker x y (cW σ) (σ 4) (σ 4) (va_up (σ 4) (cW σ) (FplaceW x y ((σ 4) (cW σ)))) j)
    unfold Fwalker
    split
    · exact h.2 j hj
    · split
      · exact h.2 j hj
      · split
        · by_cases e : j = cW σ
          · subst e
            rw [va_up_at]
            exact ⟨(by decide : (0 : Int32).toNatClampNeg ≤ 6), (by decide : (0 : Int32) = nI (0 : Int32).toNatClampNeg), Or.inl rfl⟩
          · rw [va_up_ne _ _ e]; exact h.2 j hj
        · exact h.2 j hj
theorem WokR_add {ω : Nat → Int32} (h : WokR ω) : WokR (FaddW ω) := by
  unfold FaddW
  split
  · exact h
  · split
    · exact h
    · rename_i h1 h2
      have hlt : (ω 2).toNatClampNeg < 6 := by
        have h3 := Int32.not_le.mp h1
        rw [h.2.1] at h3
        exact xge8 6 rfl (by decide) (by have := h.1; omega) h3
      have := xinc_ok (k := (ω 2).toNatClampNeg) (x := ω 2) (N := 6) (by decide) h.2.1 hlt
      exact ⟨this.2, this.1, h.2.2⟩
theorem Sok_giveGoal {x a b : Int32} {σ : xS} (h : Sok σ) : Sok (s_giveGoal x a b σ) := by
  refine ⟨h.1, fun j hj => ?_⟩
  show WokR (Fgoal (cW σ) x a b (σ 4) (σ 4) (va_up (σ 4) x.toNatClampNeg (FaddW ((σ 4) x.toNatClampNeg))) j)
  unfold Fgoal
  split
  · exact h.2 j hj
  · split
    · exact h.2 j hj
    · split
      · exact h.2 j hj
      · by_cases e : j = x.toNatClampNeg
        · rw [e, va_up_at]
          exact WokR_add (h.2 _ (e ▸ hj))
        · rw [va_up_ne _ _ e]; exact h.2 j hj
theorem SokF_mk {f : Nat → Int32} {n nh nw : Nat} (h4 : f 4 = nI n) (hn : n ≤ 16) (h5 : f 5 = nI nh) (hh : nh ≤ 8) (h6 : f 6 = nI nw) (hw : nw ≤ 8) : SokF f := by
  unfold SokF
  rw [h4, h5, h6, nI_clamp (by omega), nI_clamp (by omega), nI_clamp (by omega)]
  exact ⟨rfl, hn, rfl, hh, rfl, hw⟩
theorem FheadC_4 {n nh nw : Nat} {t : Int32} {f : Nat → Int32} : FheadC n nh nw t f 4 = nI n := by simp [FheadC, va_up]
theorem FheadC_5 {n nh nw : Nat} {t : Int32} {f : Nat → Int32} : FheadC n nh nw t f 5 = nI nh := by simp [FheadC, va_up]
theorem FheadC_6 {n nh nw : Nat} {t : Int32} {f : Nat → Int32} : FheadC n nh nw t f 6 = nI nw := by simp [FheadC, va_up]
theorem Sok_become {a σ : xS} (ha : Sok a) (h : Sok σ) : Sok (s_become a σ) := by
  refine ⟨?_, fun j hj => ?_⟩
  · exact SokF_mk (f := FheadC (cN a) (cH a) (cW a) (a 0 0 7) (σ 0 0)) FheadC_4 ha.hn16 FheadC_5 ha.hh8 FheadC_6 ha.hw8
  · have e : s_become a σ 4 j = YCopy (cW a) (a 4) (σ 4) j := rfl
    rw [e]
    unfold YCopy
    rw [xloop_row (g := fun i ω => FcopyW (a 4 i) ω)]
    split
    · exact (ha.2 j hj).of (by simp [FcopyW, va_up]) (by simp [FcopyW, va_up])
    · exact h.2 j hj
