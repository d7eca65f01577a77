/-! ===== class and model side by side: what changes a street ===== -/
theorem Fin3_nI {i n : Nat} (h : i < n) (hn : n ≤ 16) : Fin3 (nI i) 0 (nI n - 1) = 1 := by
  unfold Fin3
  rw [if_neg (xnn0 (by omega)), xnI_pred (by omega), if_neg (xngt (by omega) (by omega))]
theorem Fhas_nI {i n : Nat} (h : i < n) (hn : n ≤ 16) : Fhas n (nI i) = 1 := by
  unfold Fhas
  rw [if_pos (Int32.not_lt.mp (xnn0 (by omega))), if_pos (nI_lt h (by omega))]
theorem Fhas_iff {n : Nat} {x s : Int32} (hn : n ≤ 16) (hs : s = nI n) : Fhas n x = 0 ↔ Fin3 x 0 (s - 1) = 0 := by
  subst hs
  constructor
  · intro h
    rcases Fin3_01 x 0 (nI n - 1) with e | e
    · exact e
    · have hx := xin (s := nI n) (n := n) rfl hn (show ¬ Fin3 x 0 (nI n - 1) = 0 by rw [e]; decide)
      rw [hx.2, Fhas_nI hx.1 hn] at h
      exact absurd h (by decide)
  · intro h
    by_cases c : Fhas n x = 0
    · exact c
    · have hx := xhas (x := x) (n := n) (by omega) c
      rw [hx.2, Fin3_nI hx.1 hn] at h
      exact absurd h (by decide)
theorem ZC.ticks {f s : Nat → Int32} {L O Y P Q : Nat → Nat → Int32} {sg g h : Nat → Int32} {M U V : Nat → Nat → Int32} {n nh nw : Nat} (k : Nat) (z : ZC f s L O Y P Q sg M U V) (hf : SokF f) (hn : n = (f 4).toNatClampNeg) (hh : nh = (f 5).toNatClampNeg) (hw : nw = (f 6).toNatClampNeg) :
    ZC (Fticks n nh nw s k (f, L, O, Y, P, Q)).1 s (Fticks n nh nw s k (f, L, O, Y, P, Q)).2.1 (Fticks n nh nw s k (f, L, O, Y, P, Q)).2.2.1 (Fticks n nh nw s k (f, L, O, Y, P, Q)).2.2.2.1 (Fticks n nh nw s k (f, L, O, Y, P, Q)).2.2.2.2.1 (Fticks n nh nw s k (f, L, O, Y, P, Q)).2.2.2.2.2
      (Mticks n nh nw k (sg, M, U, V, g, h)).1 (Mticks n nh nw k (sg, M, U, V, g, h)).2.1 (Mticks n nh nw k (sg, M, U, V, g, h)).2.2.1 (Mticks n nh nw k (sg, M, U, V, g, h)).2.2.2.1 := by
  subst hn hh hw
  have hs : RSt s sg := z.1.2.1
  have hH : ZH (f 4).toNatClampNeg (fun i => L i 0) s sg := ZH_eq z.2.2.1.st9 z.1.1
  obtain ⟨⟨q1, q2, q3, q4⟩, t2, t3, t4⟩ := Z_ticks (k := k) (q' := (sg, M, U, V, g, h)) hf.2.1 hs hH (z.q (g := g) (h := h))
  obtain ⟨⟨g1, _, b0, b1⟩, ⟨_, t7, t8, t9⟩, _, _, _, uM, uU, uV⟩ := z
  have e4 := t4 4 (by decide)
  have e5 := t4 5 (by decide)
  have e6 := t4 6 (by decide)
  unfold ZC
  rw [e4, e5, e6]
  exact ⟨⟨(t2 1 (by decide)).trans g1, hs.cong t2, b0, b1⟩, ⟨q4, (t2 7 (by decide)).trans t7, (t2 8 (by decide)).trans t8, (t2 9 (by decide)).trans t9⟩, fun j hj => ⟨(q1 j hj).1, rfl⟩, q2, q3,
    fun i h1 h2 k hk => by rw [t3.1 i h1]; exact uM i h1 h2 k hk, fun i h1 h2 k hk => by rw [t3.2.1 i h1]; exact uU i h1 h2 k hk, fun i h1 h2 k hk => by rw [t3.2.2 i h1]; exact uV i h1 h2 k hk⟩
theorem ZS.n4 {σ : xS} {sg : Nat → Int32} {M U V : Nat → Nat → Int32} (hk : Sok σ) (z : ZS σ sg M U V) : sg 7 = nI (cN σ) ∧ sg 8 = nI (cH σ) ∧ sg 9 = nI (cW σ) := ⟨z.2.1.2.1.trans hk.1.1, z.2.1.2.2.1.trans hk.1.2.2.1, z.2.1.2.2.2.trans hk.1.2.2.2.2.1⟩
theorem Z_letPass {σ : xS} {sg g h : Nat → Int32} {M U V : Nat → Nat → Int32} {x : Int32} (hk : Sok σ) (z : ZS σ sg M U V) :
    r_letPass x σ = Mtk x (-2) ((Mticks (cN σ) (cH σ) (cW σ) x.toNatClampNeg (sg, M, U, V, g, h)).1 6) ∧
    ZS (s_letPass x σ) (Mtk x sg (Mticks (cN σ) (cH σ) (cW σ) x.toNatClampNeg (sg, M, U, V, g, h)).1) (Mtk x M (Mticks (cN σ) (cH σ) (cW σ) x.toNatClampNeg (sg, M, U, V, g, h)).2.1) (Mtk x U (Mticks (cN σ) (cH σ) (cW σ) x.toNatClampNeg (sg, M, U, V, g, h)).2.2.1) (Mtk x V (Mticks (cN σ) (cH σ) (cW σ) x.toNatClampNeg (sg, M, U, V, g, h)).2.2.2.1) := by
  have key := ZC.ticks (g := g) (h := h) (n := cN σ) (nh := cH σ) (nw := cW σ) x.toNatClampNeg z hk.1 rfl rfl rfl
  unfold r_letPass s_letPass FpassR Fpass Mtk
  by_cases c : Fin3 x 1 200 = 0
  · simp only [if_pos c]
    exact ⟨trivial, z⟩
  · simp only [if_neg c]
    exact ⟨key.2.1.1.symm, key⟩
theorem ZL_mend {h : Int32} {ℓ m : Nat → Int32} (hh : R3 h) (z : ZL ℓ m) : ZL (Fbecomes h ℓ) (Mmend h m) := by
  obtain ⟨⟨a0, a1, a2, a3, a4, a7, a8, a9, a10⟩, hw, hd, h0⟩ := z
  unfold Fbecomes Mmend
  by_cases c : h = 2
  · rw [if_pos c, if_pos c]
    exact ⟨⟨a0, a1, rfl, rfl, rfl, a7, a8, a9, a10⟩, Or.inl ⟨rfl, rfl⟩, Or.inl rfl, h0.1, hh⟩
  · rw [if_neg c, if_neg c]
    exact ⟨⟨a0, a1, a2, rfl, a4, a7, a8, a9, a10⟩, hw, hd, h0.1, hh⟩
theorem Fbecomes_0 {h : Int32} {ℓ : Nat → Int32} : Fbecomes h ℓ 0 = ℓ 0 := by unfold Fbecomes; split <;> rfl
/-- lamps alone are changed -/
theorem ZC.lamps {f s : Nat → Int32} {L O Y P Q L' : Nat → Nat → Int32} {sg : Nat → Int32} {M U V M' : Nat → Nat → Int32} (z : ZC f s L O Y P Q sg M U V) (hl : ZLs (f 4).toNatClampNeg ZL (fun i => L i 0) L' M') (hf : ∀ i, (f 4).toNatClampNeg ≤ i → M' i = M i) : ZC f s L' O Y P Q sg M' U V :=
  ⟨z.1, z.2.1, fun j hj => ⟨(hl j hj).1, rfl⟩, z.2.2.2.1, z.2.2.2.2.1, fun i h1 h2 k hk => by rw [hf i h1]; exact z.2.2.2.2.2.1 i h1 h2 k hk, z.2.2.2.2.2.2⟩
theorem Z_mend {σ : xS} {sg : Nat → Int32} {M U V : Nat → Nat → Int32} {x h : Int32} (hk : Sok σ) (z : ZS σ sg M U V) :
    r_mendLamp x h σ = Mmd (sg 7) x h (-1) (-2) (M x.toNatClampNeg 3) ∧ ZS (s_mendLamp x h σ) sg (Mmd (sg 7) x h M M (va_up M x.toNatClampNeg (Mmend h (M x.toNatClampNeg)))) U V := by
  have hn := hk.1.2.1
  have hi := Fhas_iff (x := x) hn (ZS.n4 hk z).1
  unfold r_mendLamp s_mendLamp FmendR LMend Mmd
  by_cases c : Fhas (cN σ) x = 0
  · rw [if_pos c, if_pos c, if_pos (hi.mp c), if_pos (hi.mp c)]
    exact ⟨rfl, z⟩
  · rw [if_neg c, if_neg c, if_neg (fun q => c (hi.mpr q)), if_neg (fun q => c (hi.mpr q))]
    have hx := xhas (x := x) (n := cN σ) (show cN σ < 2 ^ 31 by have : cN σ ≤ 16 := hn; omega) c
    by_cases d : Fin3 h 0 2 = 0
    · rw [if_pos d, if_pos d, if_pos d, if_pos d]; exact ⟨rfl, z⟩
    · rw [if_neg d, if_neg d, if_neg d, if_neg d]
      refine ⟨(ZL_3 (z.2.2.1 _ hx.1).1).symm, ?_⟩
      exact ZC.lamps z (z.2.2.1.up (fun hj => ⟨ZL_mend ⟨h.toNatClampNeg, (xfin 2 rfl (by decide) d).1, (xfin 2 rfl (by decide) d).2⟩ (z.2.2.1 _ hj).1, Fbecomes_0.trans (z.2.2.1 _ hj).2⟩)) (fun i hi => va_up_ne _ _ (by have h1 : x.toNatClampNeg < (σ 0 0 4).toNatClampNeg := hx.1; have h2 : (σ 0 0 4).toNatClampNeg ≤ i := hi; omega))
