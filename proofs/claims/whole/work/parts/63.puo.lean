/-! ===== class and model side by side: each call ===== -/
section ZCALLS
variable {B : Nat} {S : Nat → xS} {sv hs pf sn f sg : Nat → Int32} {L O Y : Nat → Nat → Int32} {pb pc pd pp : Nat → Int32} {qf qm : Nat}
theorem I_set {x v : Int32} (h : ZI B S sv hs pf sn f sg L O Y pb pc pd pp) (hqf : f 2 = nI qf) (hqf6 : qf < 6) (hqm : f 3 = nI qm) (hqm6 : qm ≤ 6) :
    r_changeSetting x v (S 0) = Mset x v (-2) (sg x.toNatClampNeg) ∧ ZI B (va_up (Sdraft S hs) 0 (s_changeSetting x v (S 0))) sv (Fkeep (r_changeSetting x v (S 0)) hs) pf sn (Mset x v f (MkF qf qm f)) (Mset x v sg (va_up sg x.toNatClampNeg v)) L O Y (Mset x v pb (MkB qf qm (xat sg L O Y) pb)) pc pd pp := by
  obtain ⟨e, z, nn⟩ := Z_set (x := x) (v := v) h.2.2.1.1
  refine ⟨e, h.change (Nat.le_refl _) (Sok_changeSetting (h.1 0 (by omega))) z (h.2.2.1.2.of rfl) hqf hqf6 hqm hqm6 ?_⟩
  rw [e]
  unfold Mset
  by_cases c : Fin3 x 0 5 = 0
  · simp only [if_pos c]; exact Or.inl ⟨by decide, trivial, trivial⟩
  · simp only [if_neg c]
    by_cases d : Fin3 v (Mlow x) (Mhigh x) = 0
    · simp only [if_pos d]; exact Or.inl ⟨by decide, trivial, trivial⟩
    · simp only [if_neg d]; exact Or.inr ⟨nn c, trivial, trivial⟩
theorem I_lamp {x y : Int32} (h : ZI B S sv hs pf sn f sg L O Y pb pc pd pp) (hqf : f 2 = nI qf) (hqf6 : qf < 6) (hqm : f 3 = nI qm) (hqm6 : qm ≤ 6) :
    r_addLamp x y (S 0) = Mlamp x y (cN (S 0)) L (-2) (-4) (nI (cN (S 0) + 1) - 1) (-5) ∧ ZI B (va_up (Sdraft S hs) 0 (s_addLamp x y (S 0))) sv (Fkeep (r_addLamp x y (S 0)) hs) pf sn (Mlamp x y (cN (S 0)) L f f (MkF qf qm f) f) (Mlamp x y (cN (S 0)) L sg sg (va_up sg 7 (nI (cN (S 0) + 1))) sg) (Mlamp x y (cN (S 0)) L L L (va_up L (cN (S 0)) (va_up (va_up (L (cN (S 0))) 0 x) 1 y)) L) O Y (Mlamp x y (cN (S 0)) L pb pb (MkB qf qm (xat sg L O Y) pb) pb) pc pd pp := by
  have h16 : cN (S 0) ≤ 16 := (h.1 0 (by omega)).1.2.1
  obtain ⟨e, z⟩ := Z_lamp (x := x) (y := y) (h.1 0 (by omega)) h.2.2.1.1
  have e7 : s_addLamp x y (S 0) 0 0 7 = S 0 0 0 7 := by
    show Flamp x y (cN (S 0)) (S 0 2) (S 0 0 0) (S 0 0 0) (S 0 0 0) (va_up (S 0 0 0) 4 (nI (cN (S 0)) + 1)) 7 = _
    unfold Flamp
    split
    · rfl
    · split
      · rfl
      · split
        · split <;> rfl
        · rfl
  refine ⟨e, h.change (Nat.le_refl _) (Sok_addLamp (h.1 0 (by omega))) z (h.2.2.1.2.of e7) hqf hqf6 hqm hqm6 ?_⟩
  rw [e, xdn1]
  unfold Mlamp
  by_cases c : Fin3 x 0 99 = 0
  · simp only [if_pos c]; exact Or.inl ⟨by decide, trivial, trivial⟩
  · simp only [if_neg c]
    by_cases d : Fin3 y 1 30 = 0
    · simp only [if_pos d]; exact Or.inl ⟨by decide, trivial, trivial⟩
    · simp only [if_neg d]
      by_cases q : nI (cN (S 0)) = 16
      · simp only [if_pos q]; exact Or.inl ⟨by decide, trivial, trivial⟩
      · simp only [if_neg q]
        by_cases w : MlampAt x L (cN (S 0)) 0 < 0
        · simp only [if_pos w]; exact Or.inr ⟨xnn0 (by omega), trivial, trivial⟩
        · simp only [if_neg w]; exact Or.inl ⟨by decide, trivial, trivial⟩
theorem I_house {x : Int32} (h : ZI B S sv hs pf sn f sg L O Y pb pc pd pp) (hqf : f 2 = nI qf) (hqf6 : qf < 6) (hqm : f 3 = nI qm) (hqm6 : qm ≤ 6) :
    r_addHouse x (S 0) = Mhouse x (cH (S 0)) (-2) (-4) (nI (cH (S 0) + 1) - 1) ∧ ZI B (va_up (Sdraft S hs) 0 (s_addHouse x (S 0))) sv (Fkeep (r_addHouse x (S 0)) hs) pf sn (Mhouse x (cH (S 0)) f f (MkF qf qm f)) (Mhouse x (cH (S 0)) sg sg (va_up sg 8 (nI (cH (S 0) + 1)))) L (Mhouse x (cH (S 0)) O O (va_up O (cH (S 0)) (va_up (O (cH (S 0))) 0 x))) Y (Mhouse x (cH (S 0)) pb pb (MkB qf qm (xat sg L O Y) pb)) pc pd pp := by
  have h8 : cH (S 0) ≤ 8 := (h.1 0 (by omega)).1.2.2.2.1
  obtain ⟨e, z⟩ := Z_house (x := x) (h.1 0 (by omega)) h.2.2.1.1
  have e7 : s_addHouse x (S 0) 0 0 7 = S 0 0 0 7 := by
    show FhouseF x (cH (S 0)) (S 0 0 0) 7 = _
    unfold FhouseF
    split
    · rfl
    · split <;> rfl
  refine ⟨e, h.change (Nat.le_refl _) (Sok_addHouse (h.1 0 (by omega))) z (h.2.2.1.2.of e7) hqf hqf6 hqm hqm6 ?_⟩
  rw [e, xdn1]
  unfold Mhouse
  by_cases c : Fin3 x 0 99 = 0
  · simp only [if_pos c]; exact Or.inl ⟨by decide, trivial, trivial⟩
  · simp only [if_neg c]
    by_cases q : nI (cH (S 0)) = 8
    · simp only [if_pos q]; exact Or.inl ⟨by decide, trivial, trivial⟩
    · simp only [if_neg q]; exact Or.inr ⟨xnn0 (by omega), trivial, trivial⟩
theorem I_walker {x y : Int32} (h : ZI B S sv hs pf sn f sg L O Y pb pc pd pp) (hqf : f 2 = nI qf) (hqf6 : qf < 6) (hqm : f 3 = nI qm) (hqm6 : qm ≤ 6) :
    r_addWalker x y (S 0) = Mwk x y (cW (S 0)) (-2) (-4) (nI (cW (S 0) + 1) - 1) ∧ ZI B (va_up (Sdraft S hs) 0 (s_addWalker x y (S 0))) sv (Fkeep (r_addWalker x y (S 0)) hs) pf sn (Mwk x y (cW (S 0)) f f (MkF qf qm f)) (Mwk x y (cW (S 0)) sg sg (va_up sg 9 (nI (cW (S 0) + 1)))) L O (Mwk x y (cW (S 0)) Y Y (va_up Y (cW (S 0)) (va_up (va_up (va_up (Y (cW (S 0))) 0 x) 1 y) 4 (-6)))) (Mwk x y (cW (S 0)) pb pb (MkB qf qm (xat sg L O Y) pb)) pc pd pp := by
  have h8 : cW (S 0) ≤ 8 := (h.1 0 (by omega)).1.2.2.2.2.2
  obtain ⟨e, z⟩ := Z_walker (x := x) (y := y) (h.1 0 (by omega)) h.2.2.1.1
  refine ⟨e, h.change (Nat.le_refl _) (Sok_addWalker (h.1 0 (by omega))) z (h.2.2.1.2.of walk_7) hqf hqf6 hqm hqm6 ?_⟩
  rw [e]
  unfold Mwr
  rw [xdn1]
  unfold Mwk
  by_cases c : Fin3 x 0 99 = 0
  · simp only [if_pos c]; exact Or.inl ⟨by decide, trivial, trivial⟩
  · simp only [if_neg c]
    by_cases d : Fin3 y 1 4 = 0
    · simp only [if_pos d]; exact Or.inl ⟨by decide, trivial, trivial⟩
    · simp only [if_neg d]
      by_cases q : nI (cW (S 0)) = 8
      · simp only [if_pos q]; exact Or.inl ⟨by decide, trivial, trivial⟩
      · simp only [if_neg q]; exact Or.inr ⟨xnn0 (by omega), trivial, trivial⟩
theorem I_goal {x a b : Int32} (h : ZI B S sv hs pf sn f sg L O Y pb pc pd pp) (hqf : f 2 = nI qf) (hqf6 : qf < 6) (hqm : f 3 = nI qm) (hqm6 : qm ≤ 6) :
    r_giveGoal x a b (S 0) = Mgl (sg 9) x a b (Y x.toNatClampNeg 3).toNatClampNeg (Y x.toNatClampNeg) (-1) (-2) (-4) (-5) (nI ((Y x.toNatClampNeg 3).toNatClampNeg + 1)) ∧ ZI B (va_up (Sdraft S hs) 0 (s_giveGoal x a b (S 0))) sv (Fkeep (r_giveGoal x a b (S 0)) hs) pf sn (Mgl (sg 9) x a b (Y x.toNatClampNeg 3).toNatClampNeg (Y x.toNatClampNeg) f f f f (MkF qf qm f)) sg L O (Mgl (sg 9) x a b (Y x.toNatClampNeg 3).toNatClampNeg (Y x.toNatClampNeg) Y Y Y Y (va_up Y x.toNatClampNeg (Maddg a b (Y x.toNatClampNeg 3).toNatClampNeg (Y x.toNatClampNeg)))) (Mgl (sg 9) x a b (Y x.toNatClampNeg 3).toNatClampNeg (Y x.toNatClampNeg) pb pb pb pb (MkB qf qm (xat sg L O Y) pb)) pc pd pp := by
  obtain ⟨e, z⟩ := Z_goal (x := x) (a := a) (b := b) (h.1 0 (by omega)) h.2.2.1.1
  refine ⟨e, h.change (Nat.le_refl _) (Sok_giveGoal (h.1 0 (by omega))) z (h.2.2.1.2.of rfl) hqf hqf6 hqm hqm6 ?_⟩
  rw [e]
  unfold MglR Mgl
  by_cases c : Fin3 x 0 (sg 9 - 1) = 0
  · simp only [if_pos c]; exact Or.inl ⟨by decide, trivial, trivial⟩
  · simp only [if_neg c]
    by_cases d : Fin3 a 0 99 = 0
    · simp only [if_pos d]; exact Or.inl ⟨by decide, trivial, trivial⟩
    · simp only [if_neg d]
      by_cases q : Fin3 b 0 20 = 0
      · simp only [if_pos q]; exact Or.inl ⟨by decide, trivial, trivial⟩
      · simp only [if_neg q]
        by_cases w : nI (Y x.toNatClampNeg 3).toNatClampNeg = 6
        · simp only [if_pos w]; exact Or.inl ⟨by decide, trivial, trivial⟩
        · simp only [if_neg w]
          by_cases u : Mstr (Y x.toNatClampNeg) = 0
          · simp only [if_pos u]; exact Or.inl ⟨by decide, trivial, trivial⟩
          · simp only [if_neg u]
            have h8 : cW (S 0) ≤ 8 := (h.1 0 (by omega)).1.2.2.2.2.2
            have hx := xin (s := sg 9) (n := cW (S 0)) (ZS.n4 (h.1 0 (by omega)) h.2.2.1.1).2.2 (by omega) c
            have hm := (h.2.2.1.1.mw x.toNatClampNeg (by omega)).2
            exact Or.inr ⟨xnn0 (by omega), trivial, trivial⟩
theorem I_mend {x k : Int32} (h : ZI B S sv hs pf sn f sg L O Y pb pc pd pp) (hqf : f 2 = nI qf) (hqf6 : qf < 6) (hqm : f 3 = nI qm) (hqm6 : qm ≤ 6) :
    r_mendLamp x k (S 0) = Mmd (sg 7) x k (-1) (-2) (L x.toNatClampNeg 3) ∧ ZI B (va_up (Sdraft S hs) 0 (s_mendLamp x k (S 0))) sv (Fkeep (r_mendLamp x k (S 0)) hs) pf sn (Mmd (sg 7) x k f f (MkF qf qm f)) sg (Mmd (sg 7) x k L L (va_up L x.toNatClampNeg (Mmend k (L x.toNatClampNeg)))) O Y (Mmd (sg 7) x k pb pb (MkB qf qm (xat sg L O Y) pb)) pc pd pp := by
  have h16 : cN (S 0) ≤ 16 := (h.1 0 (by omega)).1.2.1
  obtain ⟨e, z⟩ := Z_mend (x := x) (h := k) (h.1 0 (by omega)) h.2.2.1.1
  refine ⟨e, h.change (Nat.le_refl _) (Sok_mendLamp (h.1 0 (by omega))) z (h.2.2.1.2.of rfl) hqf hqf6 hqm hqm6 ?_⟩
  rw [e]
  unfold Mmd
  by_cases c : Fin3 x 0 (sg 7 - 1) = 0
  · simp only [if_pos c]; exact Or.inl ⟨by decide, trivial, trivial⟩
  · simp only [if_neg c]
    by_cases d : Fin3 k 0 2 = 0
    · simp only [if_pos d]; exact Or.inl ⟨by decide, trivial, trivial⟩
    · simp only [if_neg d]
      have hx := xin (s := sg 7) (n := cN (S 0)) (ZS.n4 (h.1 0 (by omega)) h.2.2.1.1).1 h16 c
      have hl := (h.2.2.1.1.2.2.1 _ hx.1).1
      obtain ⟨a, ha, ea⟩ := hl.2.2.2.2
      refine Or.inr ⟨?_, trivial, trivial⟩
      rw [ZL_3 hl, ea]
      exact xnn0 (by omega)
theorem Mspread_nn {n a : Nat} {rk : Int32} {s : Nat → Int32} {L : Nat → Nat → Int32} (hn : n ≤ 16) : ¬ (Mspread n s a rk L).2 < 0 := by
  have := xloop_sim (fun i (q q' : (Nat → Nat → Int32) × Int32) => q = q' ∧ ∃ c, c ≤ i ∧ q.2 = nI c) n 0 _ _ (f := fun i (q : (Nat → Nat → Int32) × Int32) => if Mhears s q.1 i a = 0 then q else (va_up q.1 i (Mhear rk s (q.1 i)), q.2 + 1)) (g := fun i (q : (Nat → Nat → Int32) × Int32) => if Mhears s q.1 i a = 0 then q else (va_up q.1 i (Mhear rk s (q.1 i)), q.2 + 1)) (fun i q q' _ _ hq => by
    obtain ⟨rfl, c, hc, e⟩ := hq
    refine ⟨rfl, ?_⟩
    split
    · exact ⟨c, by omega, e⟩
    · exact ⟨c + 1, by omega, by show q.2 + 1 = _; rw [e, nI_1]⟩) ⟨rfl, 0, by omega, (show (va_up L a (va_up (L a) 8 (L a 8 + 1)), (0 : Int32)).2 = nI 0 from z0nI)⟩
  obtain ⟨_, c, hc, e⟩ := this
  have e2 : (Mspread n s a rk L).2 = nI c := e
  rw [e2]
  exact xnn0 (by omega)
theorem I_cough {x : Int32} (h : ZI B S sv hs pf sn f sg L O Y pb pc pd pp) (hqf : f 2 = nI qf) (hqf6 : qf < 6) (hqm : f 3 = nI qm) (hqm6 : qm ≤ 6) :
    r_coughByOrder x (S 0) = Mcg (sg 7) x L (-1) (-5) (Mspread (cN (S 0)) sg x.toNatClampNeg 0 (Mcl1 (cN (S 0)) L)).2 ∧ ZI B (va_up (Sdraft S hs) 0 (s_coughByOrder x (S 0))) sv (Fkeep (r_coughByOrder x (S 0)) hs) pf sn (Mcg (sg 7) x L f f (MkF qf qm f)) sg (Mcg (sg 7) x L L L (Mspread (cN (S 0)) sg x.toNatClampNeg 0 (Mcl1 (cN (S 0)) L)).1) O Y (Mcg (sg 7) x L pb pb (MkB qf qm (xat sg L O Y) pb)) pc pd pp := by
  have h16 : cN (S 0) ≤ 16 := (h.1 0 (by omega)).1.2.1
  obtain ⟨e, z⟩ := Z_cough (x := x) (h.1 0 (by omega)) h.2.2.1.1
  refine ⟨e, h.change (Nat.le_refl _) (Sok_coughByOrder (h.1 0 (by omega))) z (h.2.2.1.2.of rfl) hqf hqf6 hqm hqm6 ?_⟩
  rw [e]
  unfold Mcg
  by_cases c : Fin3 x 0 (sg 7 - 1) = 0
  · simp only [if_pos c]; exact Or.inl ⟨by decide, trivial, trivial⟩
  · simp only [if_neg c]
    by_cases d : L x.toNatClampNeg 3 = 2
    · simp only [if_pos d]; exact Or.inl ⟨by decide, trivial, trivial⟩
    · simp only [if_neg d]; exact Or.inr ⟨Mspread_nn h16, trivial, trivial⟩
theorem I_ticks {x : Int32} {g q : Nat → Int32} (hB : B < 2 ^ 30) (h : ZI B S sv hs pf sn f sg L O Y pb pc pd pp) (hqf : f 2 = nI qf) (hqf6 : qf < 6) (hqm : f 3 = nI qm) (hqm6 : qm ≤ 6) :
    r_letPass x (S 0) = Mtk x (-2) ((Mticks (cN (S 0)) (cH (S 0)) (cW (S 0)) x.toNatClampNeg (sg, L, O, Y, g, q)).1 6) ∧ ZI (B + 200) (va_up (Sdraft S hs) 0 (s_letPass x (S 0))) sv (Fkeep (r_letPass x (S 0)) hs) pf sn (Mtk x f (MkF qf qm f)) (Mtk x sg (Mticks (cN (S 0)) (cH (S 0)) (cW (S 0)) x.toNatClampNeg (sg, L, O, Y, g, q)).1) (Mtk x L (Mticks (cN (S 0)) (cH (S 0)) (cW (S 0)) x.toNatClampNeg (sg, L, O, Y, g, q)).2.1) (Mtk x O (Mticks (cN (S 0)) (cH (S 0)) (cW (S 0)) x.toNatClampNeg (sg, L, O, Y, g, q)).2.2.1) (Mtk x Y (Mticks (cN (S 0)) (cH (S 0)) (cW (S 0)) x.toNatClampNeg (sg, L, O, Y, g, q)).2.2.2.1) (Mtk x pb (MkB qf qm (xat sg L O Y) pb)) pc pd pp := by
  obtain ⟨e, z⟩ := Z_letPass (g := g) (h := q) (x := x) (h.1 0 (by omega)) h.2.2.1.1
  have hb := ZB_pass (x := x) h.2.2.1.2
  refine ⟨e, h.change (Nat.le_add_right _ _) (Sok_letPass (h.1 0 (by omega))) z hb hqf hqf6 hqm hqm6 ?_⟩
  by_cases c : Fin3 x 1 200 = 0
  · rw [e]
    unfold Mtk
    simp only [if_pos c]; exact Or.inl ⟨by decide, trivial, trivial⟩
  · have e7 : r_letPass x (S 0) = s_letPass x (S 0) 0 0 7 := by
      show FpassR _ _ _ _ x _ = (Fpass _ _ _ _ x _).1 7
      unfold FpassR Fpass
      rw [if_neg c, if_neg c]
    obtain ⟨τ, h1, h2⟩ := hb
    rw [e7, h2]
    unfold Mtk
    simp only [if_neg c]; exact Or.inr ⟨xnn0 (by omega), trivial, trivial⟩
theorem Mund_0 {α : Type} {A C : α} : Mund 0 A C = A := by unfold Mund; exact if_pos z0nI.symm
theorem Mund_p {α : Type} {k : Nat} {A C : α} (h : 0 < k) (hk : k < 2 ^ 31) : Mund k A C = C := by unfold Mund; exact if_neg (nI_ne0 h hk)
theorem back_d : ∀ d, d < 7 → (if (0 : Int32) < nI d then nI d - 1 else 6) = nI ((d + 6) % 7) ∧ (if (0 : Int32) < nI d then (nI d - 1).toNatClampNeg else 6) = (d + 6) % 7 := by decide +kernel
theorem I_undo (h : ZI B S sv hs pf sn f sg L O Y pb pc pd pp) (hqf : f 2 = nI qf) (hqf6 : qf < 6) (hqm : f 3 = nI qm) (hqm6 : qm ≤ 6) :
    (if hs 2 = 0 then -5 else hs 2 - 1) = Mund qm (-5) (nI (qm - 1)) ∧ ZI B (Sback S hs) sv (Fback hs) pf sn (Mund qm f (va_up f 3 (nI (qm - 1)))) (Mund qm sg (vS (Mrow pb (Mup qf qm)))) (Mund qm L (vL (Mrow pb (Mup qf qm)))) (Mund qm O (vO (Mrow pb (Mup qf qm)))) (Mund qm Y (vY (Mrow pb (Mup qf qm)))) pb pc pd pp := by
  obtain ⟨hS, ⟨p1, p2, p3⟩, ⟨z, b⟩, hh, hl⟩ := id h
  obtain ⟨d, pf', pm', ⟨h1, h2, h3⟩, ⟨g1, g2, g3, g4⟩, hk⟩ := id hh
  have e1 : pf' = qf := xnIinj (by omega) (by omega) (g1.symm.trans hqf)
  have e2 : pm' = qm := xnIinj (by omega) (by omega) (g3.symm.trans hqm)
  subst e1 e2
  unfold Sback Fback
  by_cases c : pm' = 0
  · subst c
    have h0 : hs 2 = 0 := h3.trans z0nI.symm
    rw [if_pos h0, if_pos h0, if_pos h0, Mund_0, Mund_0, Mund_0, Mund_0, Mund_0, Mund_0]
    exact ⟨rfl, h⟩
  · have hp : 0 < pm' := by omega
    have h0 : ¬ hs 2 = 0 := by rw [h3]; exact nI_ne0 hp (by omega)
    have eD : FbackD hs = (d + 6) % 7 := by unfold FbackD; rw [h2]; exact (back_d d (by omega)).2
    rw [if_neg h0, if_neg h0, if_neg h0, Mund_p hp (by omega), Mund_p hp (by omega), Mund_p hp (by omega), Mund_p hp (by omega), Mund_p hp (by omega), Mund_p hp (by omega), eD]
    have e3 : hs 2 - 1 = nI (pm' - 1) := by rw [h3]; exact xnI_pred (by omega)
    refine ⟨e3, hS_up hS (Sok_become (hS _ (by omega)) (hS 0 (by omega))), ⟨p1, p2, p3.of (va_up_ne _ _ (by decide))⟩, ?_, ⟨(d + 6) % 7, pf', pm' - 1, ⟨by omega, ?_, ?_⟩, ⟨(va_up_ne _ _ (by decide)).trans g1, g2, va_up_at, by omega⟩, fun k hkk => ?_⟩, fun i hi => ?_⟩
    · rw [va_up_at]
      obtain ⟨q1, q2⟩ := hk 0 hp
      rw [Nat.sub_zero, Nat.sub_zero] at q1
      rw [Nat.sub_zero] at q2
      exact ⟨ZS.become (hS _ (by omega)) q1, q2.of become_7⟩
    · rw [va_up_ne _ _ (by decide), va_up_at, h2]
      exact (back_d d (by omega)).1
    · rw [va_up_at]; exact e3
    · rw [va_up_ne _ _ (by omega)]
      have := hk (k + 1) (by omega)
      rw [show (d + 6 - (k + 1)) % 7 = ((d + 6) % 7 + 6 - k) % 7 by omega, show pm' - 1 - (k + 1) = pm' - 1 - 1 - k by omega] at this
      exact this
    · rw [va_up_ne _ _ (by omega)]; exact hl i hi
theorem MsB_at {a b : Nat → Int32} {s k j : Nat} (hk : k < 440) : Mrow (MsB s a b) j k = if j = s then a k else Mrow b j k := by
  have key : ∀ (p k i : Nat) (b : Nat → Int32) (j : Nat), xloop (fun k b => va_up b (440 * p + k) (a k)) k i b j = if 440 * p + i ≤ j ∧ j < 440 * p + i + k then a (j - 440 * p) else b j := by
    intro p k
    induction k with
    | zero => intro i b j; rw [if_neg (by omega)]; rfl
    | succ k ih =>
      intro i b j
      refine (ih (i + 1) _ j).trans ?_
      dsimp only
      by_cases c : j = 440 * p + i
      · subst c
        rw [if_neg (by omega), va_up_at, if_pos (by omega)]
        congr 1
        omega
      · rw [va_up_ne _ _ c]
        by_cases d : 440 * p + (i + 1) ≤ j ∧ j < 440 * p + (i + 1) + k
        · rw [if_pos d, if_pos (by omega)]
        · rw [if_neg d, if_neg (by omega)]
  unfold Mrow MsB
  rw [key]
  by_cases c : j = s
  · subst c
    rw [if_pos (by omega), if_pos rfl]
    congr 1
    omega
  · rw [if_neg (by omega), if_neg c]
theorem I_save {x : Int32} (h : ZI B S sv hs pf sn f sg L O Y pb pc pd pp) :
    (if Fin3 x 0 1 = 0 then -2 else S 0 0 0 7) = Msv x (-2) (sg 6) ∧ ZI B (if Fin3 x 0 1 = 0 then S else va_up S (9 + x.toNatClampNeg) (s_become (S 0) (S (9 + x.toNatClampNeg)))) (if Fin3 x 0 1 = 0 then sv else va_up sv x.toNatClampNeg 1) hs pf sn f sg L O Y pb (Msv x pc (MsB x.toNatClampNeg (xat sg L O Y) pc)) (Msv x pd (va_up pd x.toNatClampNeg 1)) pp := by
  unfold Msv
  by_cases c : Fin3 x 0 1 = 0
  · simp only [if_pos c]; exact ⟨trivial, h⟩
  · simp only [if_neg c]
    have hx := (xfin 1 rfl (by decide) c).1
    obtain ⟨hS, hp, ⟨z, b⟩, ⟨d, qf', qm', h1, h2, hk⟩, hl⟩ := h
    refine ⟨z.2.1.1.symm, hS_up hS (Sok_become (hS 0 (by omega)) (hS _ (by omega))), hp, ?_, ⟨d, qf', qm', h1, h2, fun k hkk => ?_⟩, fun i hi => ⟨?_, fun q => ?_⟩⟩
    · rw [va_up_ne _ _ (by omega)]; exact ⟨z, b⟩
    · rw [va_up_ne _ _ (by omega)]; exact hk k hkk
    · by_cases e : i = x.toNatClampNeg
      · rw [e, va_up_at, va_up_at]
      · rw [va_up_ne _ _ e, va_up_ne _ _ e]; exact (hl i hi).1
    · by_cases e : i = x.toNatClampNeg
      · rw [e, va_up_at]
        refine ⟨ZR.of (Sok_become (hS 0 (by omega)) (hS _ (by omega))) (ZS.become (hS 0 (by omega)) z) (fun j hj => ?_), b.of become_7⟩
        rw [MsB_at hj, if_pos rfl]
      · rw [va_up_ne _ _ e] at q
        rw [va_up_ne _ _ (by omega)]
        obtain ⟨r1, r2⟩ := (hl i hi).2 q
        exact ⟨ZR.cong (hS _ (by omega)) r1 (fun j hj => by rw [MsB_at hj, if_neg e]), r2⟩
theorem I_restore {x : Int32} (hB : B < 2 ^ 30) (h : ZI B S sv hs pf sn f sg L O Y pb pc pd pp) (hqf : f 2 = nI qf) (hqf6 : qf < 6) (hqm : f 3 = nI qm) (hqm6 : qm ≤ 6) :
    (if Fin3 x 0 1 = 0 then -2 else if sv x.toNatClampNeg = 0 then -5 else s_become (S (9 + x.toNatClampNeg)) (S 0) 0 0 7) = Mre x pd (-2) (-5) (vS (Mrow pc x.toNatClampNeg) 6) ∧
    ZI B (if Fin3 x 0 1 = 0 then S else if sv x.toNatClampNeg = 0 then S else va_up (Sdraft S hs) 0 (s_become (S (9 + x.toNatClampNeg)) (S 0))) sv (if Fin3 x 0 1 = 0 then hs else if sv x.toNatClampNeg = 0 then hs else Fkeep (s_become (S (9 + x.toNatClampNeg)) (S 0) 0 0 7) hs) pf sn (Mre x pd f f (MkF qf qm f)) (Mre x pd sg sg (vS (Mrow pc x.toNatClampNeg))) (Mre x pd L L (vL (Mrow pc x.toNatClampNeg))) (Mre x pd O O (vO (Mrow pc x.toNatClampNeg))) (Mre x pd Y Y (vY (Mrow pc x.toNatClampNeg))) (Mre x pd pb pb (MkB qf qm (xat sg L O Y) pb)) pc pd pp := by
  unfold Mre
  by_cases c : Fin3 x 0 1 = 0
  · simp only [if_pos c]; exact ⟨trivial, h⟩
  · simp only [if_neg c]
    have hx := (xfin 1 rfl (by decide) c).1
    obtain ⟨l1, l2⟩ := h.2.2.2.2 x.toNatClampNeg (by omega)
    rw [← l1]
    by_cases d : sv x.toNatClampNeg = 0
    · simp only [if_pos d]; exact ⟨trivial, h⟩
    · simp only [if_neg d]
      obtain ⟨r1, r2⟩ := l2 d
      have e7 : s_become (S (9 + x.toNatClampNeg)) (S 0) 0 0 7 = S (9 + x.toNatClampNeg) 0 0 7 := become_7
      refine ⟨e7.trans r1.2.1.1.symm, h.change (Nat.le_refl _) (Sok_become (h.1 _ (by omega)) (h.1 0 (by omega))) (ZS.become (h.1 _ (by omega)) r1) (r2.of become_7) hqf hqf6 hqm hqm6 (Or.inr ⟨?_, rfl, rfl⟩)⟩
      obtain ⟨τ, h1, h2⟩ := r2
      rw [e7, h2]
      exact xnn0 (by omega)
theorem I_put {x : Int64} {n : Nat} (h : ZI B S sv hs pf sn f sg L O Y pb pc pd pp) (hn : f 10 = nI n) (hn8 : n ≤ 80) :
    (Fputs x (pf, sn)).2 = Mput x n (-2) (-4) (fun i => nI (n + i)) ∧ ZI B S sv hs (Fputs x (pf, sn)).1.1 (Fputs x (pf, sn)).1.2 (Mput x n f f (fun i => va_up f 10 (nI (n + i)))) sg L O Y pb pc pd (Mput x n pp pp (fun i => MpS x i n pp)) := by
  obtain ⟨hS, ⟨p1, p2, m, p4, p5, p6, p7⟩, hz, hh, hl⟩ := h
  have e : m = n := xnIinj (by omega) (by omega) (p6.symm.trans hn)
  subst e
  obtain ⟨q1, q2⟩ := Z_put (x := x) p4 p5 p6 p7
  have hok : Pok (Fputs x (pf, sn)).1.1 ∧ Cok (Fputs x (pf, sn)).1.2 := by
    unfold Fputs
    split
    · exact ⟨p1, p2⟩
    · split
      · exact ⟨p1, p2⟩
      · exact ⟨Pok_put _ x _ p1, Cok_put _ x _ p2⟩
  have hf : ∀ w, w ≠ 10 → Mput x m f f (fun i => va_up f 10 (nI (m + i))) w = f w := fun w hw => by
    unfold Mput
    split
    · rfl
    · split
      · rfl
      · split
        · rfl
        · split
          · rfl
          · exact va_up_ne _ _ hw
  exact ⟨q1, hS, ⟨hok.1, hok.2, q2⟩, hz, hh.f (hf 2 (by decide)) (hf 3 (by decide)), hl⟩
theorem I_wipe {n : Nat} (h : ZI B S sv hs pf sn f sg L O Y pb pc pd pp) (hn : f 10 = nI n) (hn8 : n ≤ 80) : pf 2 = nI n ∧ ZI B S sv hs (va_up pf 2 0) sn (va_up f 10 0) sg L O Y pb pc pd pp := by
  obtain ⟨hS, ⟨p1, p2, m, p4, p5, p6, p7⟩, hz, hh, hl⟩ := h
  have e : m = n := xnIinj (by omega) (by omega) (p6.symm.trans hn)
  subst e
  exact ⟨p5, hS, ⟨⟨(by decide : (0 : Int32) = nI (0 : Int32).toNatClampNeg), (by decide : (0 : Int32).toNatClampNeg ≤ 80), p1.2.2⟩, p2, 0, by omega, z0nI, z0nI, fun j hj => absurd hj (Nat.not_lt_zero j)⟩, hz, hh.f (va_up_ne _ _ (by decide)) (va_up_ne _ _ (by decide)), hl⟩
theorem I_fault {nb pq pt pu : Nat → Int32} (h : ZI B S sv hs pf sn f sg L O Y pb pc pd pp) :
    (Ffirst sn (pf, nb)).2 = MfR (Mfa pp (f, pq, pt, pu)) ∧ ZI B S sv hs (Ffirst sn (pf, nb)).1.1 sn (Mfa pp (f, pq, pt, pu)).1 sg L O Y pb pc pd pp := by
  obtain ⟨hS, ⟨p1, p2, m, p4, p5, p6, p7⟩, hz, hh, hl⟩ := h
  obtain ⟨q1, q2, _⟩ := T_first (u := nb) (z := (f, pq, pt, pu)) p4 p7 p5 p6
  have e2 : (Mfa pp (f, pq, pt, pu)).1 2 = f 2 := Mfa_w (by unfold Mfw; decide)
  have e3 : (Mfa pp (f, pq, pt, pu)).1 3 = f 3 := Mfa_w (by unfold Mfw; decide)
  have e10 : (Mfa pp (f, pq, pt, pu)).1 10 = f 10 := Mfa_w (by unfold Mfw; decide)
  exact ⟨q1, hS, ⟨Pok_first p1, p2, m, p4, q2, e10.trans p6, p7⟩, hz, hh.f e2 e3, hl⟩
theorem Pok_done : ∀ (k i : Nat) (q : xS × xPS), Pok q.2.1 → Pok (Fdone sn k i q).1.2.1
  | 0, _, _, h => h
  | k + 1, i, q, h => by
    unfold Fdone
    have h1 := Pok_next (sn := sn) (q := q.2) h
    split
    · exact h1
    · split
      · exact h1
      · exact Pok_done k (i + 1) _ h1
theorem Pok_sdone {q : xPS} {σ : xS} (h : Pok q.1) : Pok (sDone sn q σ).1.2.1 := by
  have h1 : Pok (va_up (Ffirst sn q).1.1 3 0) := Pok_3 (Pok_first h)
  unfold sDone
  generalize va_up (Ffirst sn q).1.1 3 0 = p at h1 ⊢
  exact Pok_done 80 0 (σ, (p, (Ffirst sn q).1.2)) h1
theorem I_carryOut {nb pq pt pu g q : Nat → Int32} (hB : B < 2 ^ 30) (h : ZI B S sv hs pf sn f sg L O Y pb pc pd pp) (hqf : f 2 = nI qf) (hqf6 : qf < 6) (hqm : f 3 = nI qm) (hqm6 : qm ≤ 6) :
    (if (Ffirst sn (pf, nb)).2 = -6 then (sDone sn (pf, nb) (S 0)).2 else -3) = Mco (Mfa pp (f, pq, pt, pu)) (-3) (McoS (Mfa pp (f, pq, pt, pu)) (cN (S 0)) (cH (S 0)) (sg, L, O, Y, g, q)).2 ∧
    ZI (B + 16000) (if (Ffirst sn (pf, nb)).2 = -6 then va_up (Sdraft S hs) 0 (sDone sn (pf, nb) (S 0)).1.1 else S) sv (if (Ffirst sn (pf, nb)).2 = -6 then Fkeep (sDone sn (pf, nb) (S 0)).2 hs else hs) (if (Ffirst sn (pf, nb)).2 = -6 then va_up (sDone sn (pf, nb) (S 0)).1.2.1 2 0 else (Ffirst sn (pf, nb)).1.1) sn
      (McoF (Mfa pp (f, pq, pt, pu)) qf qm) (McoS (Mfa pp (f, pq, pt, pu)) (cN (S 0)) (cH (S 0)) (sg, L, O, Y, g, q)).1.1 (McoS (Mfa pp (f, pq, pt, pu)) (cN (S 0)) (cH (S 0)) (sg, L, O, Y, g, q)).1.2.1 (McoS (Mfa pp (f, pq, pt, pu)) (cN (S 0)) (cH (S 0)) (sg, L, O, Y, g, q)).1.2.2.1 (McoS (Mfa pp (f, pq, pt, pu)) (cN (S 0)) (cH (S 0)) (sg, L, O, Y, g, q)).1.2.2.2.1 (Mco (Mfa pp (f, pq, pt, pu)) pb (MkB qf qm (xat sg L O Y) pb)) pc pd pp := by
  have hF := I_fault (nb := nb) (pq := pq) (pt := pt) (pu := pu) h
  obtain ⟨hS, ⟨p1, p2, m, p4, p5, p6, p7⟩, ⟨z0, b0⟩, hh, hl⟩ := id h
  obtain ⟨q1, q2, q3⟩ := T_first (u := nb) (z := (f, pq, pt, pu)) p4 p7 p5 p6
  have hM : Mor (Mfa pp (f, pq, pt, pu)) := Mor_f (q := (f, pq, pt, pu)) (by show f 10 = nI (f 10).toNatClampNeg; rw [p6, nI_clamp (by omega)]) (by show (f 10).toNatClampNeg ≤ 80; rw [p6, nI_clamp (by omega)]; exact p4)
  have e2 : (Mfa pp (f, pq, pt, pu)).1 2 = f 2 := Mfa_w (by unfold Mfw; decide)
  have e3 : (Mfa pp (f, pq, pt, pu)).1 3 = f 3 := Mfa_w (by unfold Mfw; decide)
  have hc : (Ffirst sn (pf, nb)).2 = -6 ↔ MfR (Mfa pp (f, pq, pt, pu)) < 0 := by
    rw [q1]
    constructor
    · intro c; rw [c]; decide
    · intro c
      have := MfR_neg hM c
      unfold MfR; rw [if_pos this]
  unfold Mco McoF McoS
  by_cases c : MfR (Mfa pp (f, pq, pt, pu)) < 0
  · have d := hc.mpr c
    simp only [if_pos c, if_pos d]
    obtain ⟨O', B', ⟨pos, w0, w1, w2⟩, w3, w4, w5, w6⟩ := q3 (MfR_neg hM c)
    have hO : ((Mfa pp (f, pq, pt, pu)).1 13).toNatClampNeg = O' := by rw [w3]; exact nI_clamp (by omega)
    rw [hO]
    have hk := hS 0 (by omega)
    have key := Z_done (n := m) (n' := cN (S 0)) (nh := cH (S 0)) (O := O') (B := B') (sn := sn) (z := Mfa pp (f, pq, pt, pu)) (pos := pos) p4 hk.1.2.1 hk.1.2.2.2.1 w6 w4 (show O' ≤ 80 by omega) w2 w1 O' 0 80 B (S 0) (va_up (Ffirst sn (pf, nb)).1.1 3 0, (Ffirst sn (pf, nb)).1.2) (sg, L, O, Y, g, q) (by omega) (by omega) q2 (by rw [w0]; exact z0nI) hk z0 rfl rfl b0
    have hpd : Pok (sDone sn (pf, nb) (S 0)).1.2.1 := Pok_sdone p1
    have hR : Fdone sn 80 0 (S 0, (va_up (Ffirst sn (pf, nb)).1.1 3 0, (Ffirst sn (pf, nb)).1.2)) = sDone sn (pf, nb) (S 0) := by unfold sDone; with_reducible rfl
    rw [hR] at key
    generalize sDone sn (pf, nb) (S 0) = R at key hpd ⊢
    generalize MdoL (cN (S 0)) (cH (S 0)) (Mfa pp (f, pq, pt, pu)).2.1 (Mfa pp (f, pq, pt, pu)).2.2.1 (Mfa pp (f, pq, pt, pu)).2.2.2 O' 0 (sg, L, O, Y, g, q) = Q at key ⊢
    obtain ⟨k1, ⟨k2, k3, k4⟩, D, k5, k6⟩ := key
    have hnn : ¬ R.2 < 0 := by rw [k6]; exact xnn0 (by omega)
    have hch := ZI.change (B' := B + 16000) (σ' := R.1.1) (r := R.2) (f' := MkF qf qm f) (pb' := MkB qf qm (xat sg L O Y) pb) (sg' := Q.1.1) (L' := Q.1.2.1) (O' := Q.1.2.2.1) (Y' := Q.1.2.2.2.1) h (by omega) k2 k3 (k4.le (by omega)) hqf hqf6 hqm hqm6 (Or.inr ⟨hnn, rfl, rfl⟩)
    refine ⟨k1, ?_⟩
    obtain ⟨c1, c2, c3, c4, c5⟩ := hch
    refine ⟨c1, ⟨?_, p2, 0, by omega, va_up_at.trans z0nI, va_up_at.trans z0nI, fun j hj => absurd hj (Nat.not_lt_zero j)⟩, c3, c4.f ?_ ?_, c5⟩
    · exact ⟨(by decide : (0 : Int32) = nI (0 : Int32).toNatClampNeg), (by decide : (0 : Int32).toNatClampNeg ≤ 80), hpd.2.2⟩
    · rw [va_up_ne _ _ (by decide), MkF_2 (e2.trans hqf), MkF_2 hqf]
    · rw [va_up_ne _ _ (by decide), MkF_3, MkF_3]
  · have d : ¬ (Ffirst sn (pf, nb)).2 = -6 := fun y => c (hc.mp y)
    simp only [if_neg c, if_neg d]
    exact ⟨trivial, hF.2.le (by omega)⟩
end ZCALLS
