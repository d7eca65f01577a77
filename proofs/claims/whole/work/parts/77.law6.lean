/-! ===== the law's start: two objects, and both say the same ===== -/
def sg0 : Nat → Int32 := fun w => if w < 6 then xf0 w else 0
abbrev z1 : Nat → Int32 := fun _ => 0
abbrev z2 : Nat → Nat → Int32 := fun _ _ => 0
theorem it0 {i w : Nat} : 0 = (if i = 0 then z1 else fun _ => (0 : Int32)) w := by split <;> rfl
theorem Gi_forms : Gi = xGl (fun r => Gi r) (xMi z1 z1 z1 z1 z1) (xMa z1 sg0 z2 z2 z2 z1 z1 z1 z1 z1 z1 z1 z1 z1 z1) := by
  funext r c i w
  unfold xGl
  by_cases h1 : r = 11
  · subst h1
    rw [if_pos rfl]
    show (if c = 1 ∧ i = 0 ∧ (11 : Nat) ≠ 11 ∧ w < 6 then xf0 w else 0) = _
    rw [if_neg (by rintro ⟨-, -, h, -⟩; exact h rfl)]
    unfold xMi
    split <;> first | rfl | exact it0
  · rw [if_neg h1]
    by_cases h2 : r = 12
    · subst h2
      rw [if_pos rfl]
      unfold Gi xMa xMo
      split
      · rename_i h
        obtain ⟨rfl, rfl, -, hw⟩ := h
        show xf0 w = xat sg0 z2 z2 z2 w
        rw [xat_s (by omega)]
        unfold sg0
        rw [if_pos hw]
      · rename_i h
        split <;> first | rfl | exact it0 | skip
        show 0 = (if i = 0 then xat sg0 z2 z2 z2 else fun _ => 0) w
        by_cases hi : i = 0
        · rw [if_pos hi]
          have hw : ¬ w < 6 := fun q => h ⟨rfl, hi, h1, q⟩
          unfold xat sg0
          rw [if_neg hw]
          repeat (split <;> try rfl)
        · rw [if_neg hi]
    · rw [if_neg h2]
theorem Gi_zero : (Gi 0 0 0 4).toNatClampNeg = 0 ∧ (Gi 0 0 0 5).toNatClampNeg = 0 ∧ (Gi 0 0 0 6).toNatClampNeg = 0 := by decide +kernel
theorem Gi_0 (r w : Nat) : Gi r 0 0 w = 0 := by
  unfold Gi
  rw [if_neg (by rintro ⟨h, -⟩; cases h)]
theorem Gi_4 (r j w : Nat) : Gi r 4 j w = 0 := by
  unfold Gi
  rw [if_neg (by rintro ⟨h, -⟩; cases h)]
theorem Gi_1 : ∀ w, w < 6 → Gi 0 1 0 w = xf0 w ∧ sg0 w = xf0 w := by decide +kernel
theorem Gi_Sb : ∀ w, w < 6 → Slo w ≤ (xf0 w).toNatClampNeg ∧ (xf0 w).toNatClampNeg ≤ Shi w ∧ xf0 w = nI (xf0 w).toNatClampNeg := by decide +kernel
theorem Gi_ok (r : Nat) : Sok (Gi r) := by
  refine ⟨?_, fun j hj => ?_⟩
  · unfold SokF
    rw [Gi_0, Gi_0, Gi_0]
    decide +kernel
  · unfold WokR
    rw [Gi_4, Gi_4]
    decide +kernel
theorem ZI_start : ZI 0 (fun r => Gi r) z1 z1 z1 z1 z1 sg0 z2 z2 z2 z1 z1 z1 z1 := by
  obtain ⟨e4, e5, e6⟩ := Gi_zero
  refine ⟨fun r _ => Gi_ok r, ⟨?_, fun _ _ => rfl, 0, Nat.zero_le _, nI_0.symm, nI_0.symm, fun j hj => absurd hj (Nat.not_lt_zero j)⟩, ⟨⟨?_, ?_, ?_, ?_, ?_, fun _ _ _ _ _ => rfl, fun _ _ _ _ _ => rfl, fun _ _ _ _ _ => rfl⟩, 0, Nat.le_refl _, ?_⟩, ⟨0, 0, 0, ⟨Nat.zero_le _, nI_0.symm, nI_0.symm⟩, ⟨nI_0.symm, by omega, nI_0.symm, by omega⟩, fun k hk => absurd hk (Nat.not_lt_zero k)⟩, fun i _ => ⟨rfl, fun c => absurd rfl c⟩⟩
  · unfold Pok
    decide +kernel
  · refine ZSet_iff.mpr ⟨fun k hk => ?_, fun k hk => ?_⟩
    · rw [(Gi_1 k hk).2, (Gi_1 k hk).1]
    · rw [(Gi_1 k hk).1]
      exact ⟨_, Gi_Sb k hk⟩
  · simp only [Gi_0]
    exact ⟨rfl, rfl, rfl, rfl⟩
  · intro i hi
    exact absurd hi (by rw [e4]; omega)
  · intro i hi
    exact absurd hi (by rw [e5]; omega)
  · intro i hi
    exact absurd hi (by rw [e6]; omega)
  · exact (Gi_0 0 7).trans nI_0.symm
theorem LawSt.start {X : xX} {H : Heap} {locs : List Loc} (h : XG X Gi H locs) : LawSt X 0 H locs := LawSt.mk (h.cong Gi_forms) ZI_start
