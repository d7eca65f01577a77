/-! ===== class and model side by side: history, slots, the whole ===== -/
def ZHs (B : Nat) (S : Nat → xS) (hs f pb : Nat → Int32) : Prop := ∃ d pf pm, (d ≤ 6 ∧ hs 1 = nI d ∧ hs 2 = nI pm) ∧ (f 2 = nI pf ∧ pf < 6 ∧ f 3 = nI pm ∧ pm ≤ 6) ∧
  ∀ k, k < pm → ZR (S (2 + (d + 6 - k) % 7)) (Mrow pb ((pf + (pm - 1 - k)) % 6)) ∧ ZB B (S (2 + (d + 6 - k) % 7))
def ZSl (B : Nat) (S : Nat → xS) (sv pc pd : Nat → Int32) : Prop := ∀ i, i < 2 → sv i = pd i ∧ (¬ sv i = 0 → ZR (S (9 + i)) (Mrow pc i) ∧ ZB B (S (9 + i)))
/-- the class's cells and the model's say the same -/
def ZI (B : Nat) (S : Nat → xS) (sv hs pf sn f sg : Nat → Int32) (L O Y : Nat → Nat → Int32) (pb pc pd pp : Nat → Int32) : Prop :=
  (∀ r, r < 11 → Sok (S r)) ∧ (Pok pf ∧ Cok sn ∧ ZPd pf sn f pp) ∧ (ZS (S 0) sg L O Y ∧ ZB B (S 0)) ∧ ZHs B S hs f pb ∧ ZSl B S sv pc pd
theorem ZHs.ok {B : Nat} {S : Nat → xS} {hs f pb : Nat → Int32} (h : ZHs B S hs f pb) : Hok hs := by
  obtain ⟨d, pf, pm, ⟨h1, h2, h3⟩, ⟨_, _, _, h4⟩, _⟩ := h
  unfold Hok
  rw [h2, h3, nI_clamp (by omega), nI_clamp (by omega)]
  exact ⟨rfl, h1, rfl, h4⟩
theorem MkB_at {pf pm : Nat} {a b : Nat → Int32} {j : Nat} : MkB pf pm a b j = if 440 * Mpl pf pm ≤ j ∧ j < 440 * Mpl pf pm + 440 then a (j - 440 * Mpl pf pm) else b j := by
  have key : ∀ (p k i : Nat) (b : Nat → Int32) (j : Nat), xloop (fun k b => va_up b (440 * p + k) (a k)) k i b j = if 440 * p + i ≤ j ∧ j < 440 * p + i + k then a (j - 440 * p) else b j := by
    intro p k
    induction k with
    | zero => intro i b j; rw [if_neg (by omega)]; rfl
    | succ k ih =>
      intro i b j
      refine (ih (i + 1) _ j).trans ?_
      dsimp only
      by_cases c : j = 440 * p + i
      · subst c
        rw [if_neg (by omega), va_up_at, if_pos (by omega)]
        congr 1
        omega
      · rw [va_up_ne _ _ c]
        by_cases d : 440 * p + (i + 1) ≤ j ∧ j < 440 * p + (i + 1) + k
        · rw [if_pos d, if_pos (by omega)]
        · rw [if_neg d, if_neg (by omega)]
  unfold MkB
  rw [key, Nat.add_zero]
theorem MkB_row {pf pm : Nat} {a b : Nat → Int32} {j k : Nat} (hk : k < 440) : Mrow (MkB pf pm a b) j k = if j = Mpl pf pm then a k else Mrow b j k := by
  unfold Mrow
  rw [MkB_at]
  by_cases c : j = Mpl pf pm
  · subst c
    rw [if_pos (by omega), if_pos rfl]
    congr 1
    omega
  · rw [if_neg (by omega), if_neg c]
theorem keep_d : ∀ d, d < 7 → (if nI d + 1 < 7 then nI d + 1 else 0) = nI ((d + 1) % 7) := by decide +kernel
theorem keep_m : ∀ m, m < 7 → xmin (nI m + 1) 6 = nI (min (m + 1) 6) := by decide +kernel
theorem Sch {S : Nat → xS} {hs : Nat → Int32} {σ' : xS} {r d : Nat} (hd : hs 1 = nI d) (hd6 : d ≤ 6) (hr : 1 ≤ r) (hr2 : r ≠ 2 + d) : va_up (Sdraft S hs) 0 σ' r = S r := by
  rw [va_up_ne _ _ (by omega)]
  unfold Sdraft
  rw [hd, nI_clamp (by omega), va_up_ne _ _ hr2]
theorem Sch_d {S : Nat → xS} {hs : Nat → Int32} {σ' : xS} {d : Nat} (hd : hs 1 = nI d) (hd6 : d ≤ 6) : va_up (Sdraft S hs) 0 σ' (2 + d) = s_become (S 0) (S (2 + d)) := by
  rw [va_up_ne _ _ (by omega)]
  unfold Sdraft
  rw [hd, nI_clamp (by omega), va_up_at]
theorem become_7 {a σ : xS} : s_become a σ 0 0 7 = a 0 0 7 := by
  show FheadC (cN a) (cH a) (cW a) (a 0 0 7) (σ 0 0) 7 = _
  exact va_up_at
theorem ZHs.same {B : Nat} {S : Nat → xS} {hs f pb : Nat → Int32} {σ' : xS} (h : ZHs B S hs f pb) : ZHs B (va_up (Sdraft S hs) 0 σ') hs f pb := by
  obtain ⟨d, pf, pm, ⟨h1, h2, h3⟩, ⟨g1, g2, g3, g4⟩, hk⟩ := h
  refine ⟨d, pf, pm, ⟨h1, h2, h3⟩, ⟨g1, g2, g3, g4⟩, fun k hkk => ?_⟩
  rw [Sch h2 h1 (by omega) (by omega)]
  exact hk k hkk
theorem ZHs.keep {B : Nat} {S : Nat → xS} {hs f pb sg : Nat → Int32} {L O Y : Nat → Nat → Int32} {σ' : xS} {r : Int32} {pf pm : Nat} (h : ZHs B S hs f pb) (hS : ∀ r, r < 11 → Sok (S r)) (z : ZS (S 0) sg L O Y) (hb : ZB B (S 0)) (hr : ¬ r < 0) (hpf : f 2 = nI pf) (hpf6 : pf < 6) (hpm : f 3 = nI pm) (hpm6 : pm ≤ 6) :
    ZHs B (va_up (Sdraft S hs) 0 σ') (Fkeep r hs) (MkF pf pm f) (MkB pf pm (xat sg L O Y) pb) := by
  obtain ⟨d, pf', pm', ⟨h1, h2, h3⟩, ⟨g1, g2, g3, g4⟩, hk⟩ := h
  have e1 : pf' = pf := xnIinj (by omega) (by omega) (g1.symm.trans hpf)
  have e2 : pm' = pm := xnIinj (by omega) (by omega) (g3.symm.trans hpm)
  subst e1 e2
  have hpl : Mpl pf' pm' = ((if pm' = 6 then (pf' + 1) % 6 else pf') + (min (pm' + 1) 6 - 1)) % 6 := by
    unfold Mpl
    by_cases c : pm' = 6
    · rw [if_pos c, if_pos c]; subst c; rfl
    · rw [if_neg c, if_neg c, show min (pm' + 1) 6 - 1 = pm' by omega]
  refine ⟨(d + 1) % 7, if pm' = 6 then (pf' + 1) % 6 else pf', min (pm' + 1) 6, ⟨by omega, ?_, ?_⟩, ⟨MkF_2 g1, by split <;> omega, ?_, by omega⟩, fun k hkk => ?_⟩
  · unfold Fkeep
    rw [if_neg hr, va_up_ne _ _ (by decide), va_up_at, h2]
    exact keep_d d (by omega)
  · unfold Fkeep
    rw [if_neg hr, va_up_at, h3]
    exact keep_m pm' (by omega)
  · rw [MkF_3]
    congr 1
    split <;> omega
  · by_cases c : k = 0
    · subst c
      have ep : 2 + ((d + 1) % 7 + 6 - 0) % 7 = 2 + d := by omega
      rw [ep, Sch_d h2 h1]
      refine ⟨ZR.of (Sok_become (hS 0 (by omega)) (hS (2 + d) (by omega))) (ZS.become (hS 0 (by omega)) z) (fun j hj => ?_), hb.of become_7⟩
      rw [MkB_row hj, if_pos (by rw [hpl]; congr 2)]
    · have ep : 2 + ((d + 1) % 7 + 6 - k) % 7 = 2 + (d + 6 - (k - 1)) % 7 := by omega
      rw [ep, Sch h2 h1 (by omega) (by omega)]
      obtain ⟨q1, q2⟩ := hk (k - 1) (by omega)
      refine ⟨ZR.cong (hS _ (by omega)) q1 (fun j hj => ?_), q2⟩
      rw [MkB_row hj, if_neg (by rw [hpl]; split <;> omega)]
      congr 1
      split <;> omega
theorem ZSl.same {B : Nat} {S : Nat → xS} {hs f pb sv pc pd : Nat → Int32} {σ' : xS} (h : ZSl B S sv pc pd) (hh : ZHs B S hs f pb) : ZSl B (va_up (Sdraft S hs) 0 σ') sv pc pd := by
  obtain ⟨d, _, _, ⟨h1, h2, _⟩, _⟩ := hh
  intro i hi
  rw [Sch h2 h1 (by omega) (by omega)]
  exact h i hi
theorem ZHs.le {B B' : Nat} {S : Nat → xS} {hs f pb : Nat → Int32} (h : ZHs B S hs f pb) (hb : B ≤ B') : ZHs B' S hs f pb := by
  obtain ⟨d, pf, pm, h1, h2, hk⟩ := h
  exact ⟨d, pf, pm, h1, h2, fun k q => ⟨(hk k q).1, (hk k q).2.le hb⟩⟩
theorem ZSl.le {B B' : Nat} {S : Nat → xS} {sv pc pd : Nat → Int32} (h : ZSl B S sv pc pd) (hb : B ≤ B') : ZSl B' S sv pc pd := fun i hi => ⟨(h i hi).1, fun c => ⟨((h i hi).2 c).1, ((h i hi).2 c).2.le hb⟩⟩
theorem ZI.le {B B' : Nat} {S : Nat → xS} {sv hs pf sn f sg : Nat → Int32} {L O Y : Nat → Nat → Int32} {pb pc pd pp : Nat → Int32} (h : ZI B S sv hs pf sn f sg L O Y pb pc pd pp) (hb : B ≤ B') : ZI B' S sv hs pf sn f sg L O Y pb pc pd pp :=
  ⟨h.1, h.2.1, ⟨h.2.2.1.1, h.2.2.1.2.le hb⟩, h.2.2.2.1.le hb, h.2.2.2.2.le hb⟩
theorem ZPd.of {p sn f f' pp : Nat → Int32} (h : ZPd p sn f pp) (e : f' 10 = f 10) : ZPd p sn f' pp := by
  obtain ⟨n, h1, h2, h3, h4⟩ := h
  exact ⟨n, h1, h2, e.trans h3, h4⟩
theorem ZHs.f {B : Nat} {S : Nat → xS} {hs f f' pb : Nat → Int32} (h : ZHs B S hs f pb) (e2 : f' 2 = f 2) (e3 : f' 3 = f 3) : ZHs B S hs f' pb := by
  obtain ⟨d, pf, pm, h1, ⟨g1, g2, g3, g4⟩, hk⟩ := h
  exact ⟨d, pf, pm, h1, ⟨e2.trans g1, g2, e3.trans g3, g4⟩, hk⟩
/-- a change: kept where the answer is none of the errors -/
theorem ZI.change {B B' : Nat} {S : Nat → xS} {sv hs pf sn f sg f' sg' : Nat → Int32} {L O Y L' O' Y' : Nat → Nat → Int32} {pb pc pd pp pb' : Nat → Int32} {σ' : xS} {r : Int32} {qf qm : Nat} (h : ZI B S sv hs pf sn f sg L O Y pb pc pd pp) (hB : B ≤ B')
    (hS' : Sok σ') (z' : ZS σ' sg' L' O' Y') (b' : ZB B' σ') (hqf : f 2 = nI qf) (hqf6 : qf < 6) (hqm : f 3 = nI qm) (hqm6 : qm ≤ 6) (hf : (r < 0 ∧ f' = f ∧ pb' = pb) ∨ (¬ r < 0 ∧ f' = MkF qf qm f ∧ pb' = MkB qf qm (xat sg L O Y) pb)) :
    ZI B' (va_up (Sdraft S hs) 0 σ') sv (Fkeep r hs) pf sn f' sg' L' O' Y' pb' pc pd pp := by
  obtain ⟨hS, ⟨p1, p2, p3⟩, ⟨z, b⟩, hh, hl⟩ := h
  have hS2 : ∀ r, r < 11 → Sok (va_up (Sdraft S hs) 0 σ' r) := hS_up (by unfold Sdraft; exact hS_up hS (Sok_become (hS 0 (by omega)) (hS _ (by have := hh.ok.2.1; omega)))) hS'
  have z0 : va_up (Sdraft S hs) 0 σ' 0 = σ' := va_up_at
  rcases hf with ⟨hr, rfl, rfl⟩ | ⟨hr, rfl, rfl⟩
  · refine ⟨hS2, ⟨p1, p2, p3⟩, ?_, ?_, (hl.same hh).le hB⟩
    · rw [z0]; exact ⟨z', b'⟩
    · unfold Fkeep; rw [if_pos hr]; exact hh.same.le hB
  · refine ⟨hS2, ⟨p1, p2, p3.of (MkF_w ⟨by decide, by decide⟩)⟩, ?_, (hh.keep hS z b hr hqf hqf6 hqm hqm6).le hB, (hl.same hh).le hB⟩
    rw [z0]; exact ⟨z', b'⟩
/-- only the trial is changed -/
theorem ZI.trial {B : Nat} {S : Nat → xS} {sv hs pf sn f sg : Nat → Int32} {L O Y : Nat → Nat → Int32} {pb pc pd pp : Nat → Int32} {σ' : xS} (h : ZI B S sv hs pf sn f sg L O Y pb pc pd pp) (hS' : Sok σ') : ZI B (va_up S 1 σ') sv hs pf sn f sg L O Y pb pc pd pp := by
  obtain ⟨hS, hp, hz, ⟨d, qf, qm, h1, h2, hk⟩, hl⟩ := h
  refine ⟨hS_up hS hS', hp, ?_, ⟨d, qf, qm, h1, h2, fun k hkk => ?_⟩, fun i hi => ?_⟩
  · rw [va_up_ne _ _ (by decide)]; exact hz
  · rw [va_up_ne _ _ (by omega)]; exact hk k hkk
  · rw [va_up_ne _ _ (by omega)]; exact hl i hi
