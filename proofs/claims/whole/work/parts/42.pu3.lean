def ZWk (n : Nat) (st : Nat → Int32) (i : Nat) (q : (Nat → Nat → Int32) × Int32) (q' : (Nat → Nat → Int32) × (Nat → Int32)) : Prop :=
  ZLs n ZLf st q.1 q'.1 ∧ (∀ j, j < i → j < n → (Fdue q.2 j = 1 ∧ q'.2 j = q.1 j 6 ∧ q.1 j 12 = 1 ∧ ∃ b, b < 7 ∧ q.1 j 6 = nI b) ∨ (Fdue q.2 j = 0 ∧ q'.2 j = -6)) ∧ ∀ j, i ≤ j → j < n → Fdue q.2 j = 0
theorem ZWk_old {n i : Nat} {st : Nat → Int32} {q : (Nat → Nat → Int32) × Int32} {q' : (Nat → Nat → Int32) × (Nat → Int32)} (h : ZWk n st i q q') {ℓ : Nat → Int32} {d : Int32} {r : Nat → Int32} (hd : ∀ j, j ≠ i → j < n → Fdue d j = Fdue q.2 j) (hr : ∀ j, j ≠ i → r j = q'.2 j) :
    ∀ j, j < i → j < n → (Fdue d j = 1 ∧ r j = (va_up q.1 i ℓ) j 6 ∧ (va_up q.1 i ℓ) j 12 = 1 ∧ ∃ b, b < 7 ∧ (va_up q.1 i ℓ) j 6 = nI b) ∨ (Fdue d j = 0 ∧ r j = -6) := by
  intro j hj hn
  rw [va_up_ne _ _ (show j ≠ i by omega), hd j (by omega) hn, hr j (by omega)]
  exact h.2.1 j hj hn
theorem ZWk_step {n i : Nat} {st : Nat → Int32} {q : (Nat → Nat → Int32) × Int32} {q' : (Nat → Nat → Int32) × (Nat → Int32)} (hn : n ≤ 16) (hi : i < n) (h : ZWk n st i q q') :
    ZWk n st (i + 1) (if q.1 i 5 = -6 then q else if q.1 i 5 - 1 ≤ 0 then (va_up q.1 i (va_up (va_up (va_up (q.1 i) 5 (q.1 i 5 - 1)) 5 (-6)) 12 1), q.2 ||| xbit i) else (va_up q.1 i (va_up (q.1 i) 5 (q.1 i 5 - 1)), q.2)) (Mwait1 i q') := by
  have hl := (h.1 i hi).1
  obtain ⟨⟨⟨a0, a1, a2, a3, a4, a7, a8, a9, a10⟩, hw, hd, h0⟩, f1, f2, f3, f4⟩ := hl
  unfold Mwait1
  rcases hw with ⟨w1, w2⟩ | ⟨⟨a, ha, e⟩, e2, e3, hb⟩
  · rw [if_pos w1, if_neg (by rw [w2]; decide)]
    refine ⟨h.1, fun j hj hjn => ?_, fun j hj hjn => h.2.2 j (by omega) hjn⟩
    by_cases ej : j = i
    · subst ej
      exact Or.inr ⟨h.2.2 j (Nat.le_refl _) hjn, va_up_at⟩
    · dsimp only
      rw [va_up_ne _ _ ej]
      exact h.2.1 j (by omega) hjn
  · have hw0 : 0 < q'.1 i 5 := by rw [e2, e]; exact nI_lt (a := 0) (by omega) (by omega)
    rw [if_neg (by rw [e]; exact (show ∀ a, a < 10 → ¬ nI (a + 1) = -6 from by decide +kernel) a ha), if_pos hw0, e2, e, show nI (a + 1) + (-1) = nI a from (Int32.sub_eq_add_neg _ _).symm.trans xdn1, xdn1]
    by_cases c : a = 0
    · subst c
      rw [if_pos (show nI 0 ≤ 0 from by decide), if_pos (show nI 0 = 0 from rfl)]
      refine ⟨h.1.up (fun _ => ⟨⟨⟨⟨a0, a1, a2, a3, a4, a7, a8, a9, a10⟩, Or.inl ⟨rfl, rfl⟩, hd, h0⟩, f1, rfl, f3, Or.inr rfl⟩, (h.1 i hi).2⟩), fun j hj hjn => ?_, fun j hj hjn => ?_⟩
      · by_cases ej : j = i
        · subst ej
          dsimp only
          rw [va_up_at, va_up_at]
          exact Or.inl ⟨by rw [Fdue_or (by omega) (by omega), if_pos rfl], e3, rfl, hb⟩
        · exact ZWk_old h (fun j hj hjn => by rw [Fdue_or (by omega) (by omega), if_neg hj]) (fun j hj => by dsimp only; rw [va_up_ne _ _ hj, va_up_ne _ _ hj]) j (by omega) hjn
      · rw [Fdue_or (by omega) (by omega), if_neg (by omega)]
        exact h.2.2 j (by omega) hjn
    · rw [if_neg (fun z => c (by have := (show ∀ a, a < 10 → nI a ≤ 0 → a = 0 from by decide +kernel) a ha z; exact this)), if_neg (nI_ne0 (by omega) (by omega))]
      refine ⟨h.1.up (fun _ => ⟨⟨⟨⟨a0, a1, a2, a3, a4, a7, a8, a9, a10⟩, Or.inr ⟨⟨a - 1, by omega, by show nI a = _; rw [show a - 1 + 1 = a by omega]⟩, rfl, e3, hb⟩, hd, h0⟩, f1, f2, f3, f4⟩, (h.1 i hi).2⟩), fun j hj hjn => ?_, fun j hj hjn => h.2.2 j (by omega) hjn⟩
      by_cases ej : j = i
      · subst ej
        exact Or.inr ⟨h.2.2 j (Nat.le_refl _) hjn, va_up_at⟩
      · exact ZWk_old h (fun j hj hjn => rfl) (fun j hj => va_up_ne _ _ hj) j (by omega) hjn
theorem Z_waits {n : Nat} {st g : Nat → Int32} {L M : Nat → Nat → Int32} (hn : n ≤ 16) (h : ZLs n ZLf st L M) : ZWk n st n (Fwaits n L) (Mwaits n M g) := by
  have := xloop_sim (fun i (q : (Nat → Nat → Int32) × Int32) (q' : (Nat → Nat → Int32) × (Nat → Int32)) => ZWk n st i q q') n 0 (L, (0 : Int32)) (M, g) (f := fun i (q : (Nat → Nat → Int32) × Int32) => if q.1 i 5 = -6 then q else if q.1 i 5 - 1 ≤ 0 then (va_up q.1 i (va_up (va_up (va_up (q.1 i) 5 (q.1 i 5 - 1)) 5 (-6)) 12 1), q.2 ||| xbit i) else (va_up q.1 i (va_up (q.1 i) 5 (q.1 i 5 - 1)), q.2)) (g := Mwait1)
    (fun i q q' _ hi hq => ZWk_step hn (by omega) hq) ⟨h, fun j hj => absurd hj (Nat.not_lt_zero j), fun j _ hj => Fdue_0 (by omega)⟩
  rw [Nat.zero_add] at this
  exact this
/-- a lamp that has coughed keeps its rank -/
theorem Fspread_keeps {n a j : Nat} {rk c : Int32} {s : Nat → Int32} {L : Nat → Nat → Int32} (h : L j 12 = 1 ∧ L j 6 = c) : (Fspread n s a rk L).1 j 12 = 1 ∧ (Fspread n s a rk L).1 j 6 = c := by
  refine xloop_inv (fun q : (Nat → Nat → Int32) × Int32 => q.1 j 12 = 1 ∧ q.1 j 6 = c) (fun i q hq => ?_) n 0 _ ?_
  · split
    · exact hq
    · by_cases e : j = i
      · subst e
        dsimp only
        rw [va_up_at]
        unfold Fhear
        rw [if_neg (fun z => absurd (hq.1.symm.trans z.2.2) (by decide))]
        exact hq
      · dsimp only; rw [va_up_ne _ _ e]; exact hq
  · by_cases e : j = a
    · subst e
      dsimp only; rw [va_up_at]; exact h
    · dsimp only; rw [va_up_ne _ _ e]; exact h
theorem Z_again {n : Nat} {st s sg g : Nat → Int32} {L M : Nat → Nat → Int32} (hs : RSt s sg) (hn : n ≤ 16) (hH : ZH n st s sg) (h : ZLs n ZLf st L M) : ZLs n ZLf st (LWaited n s L) (MAgain n sg M g).1 := by
  have hw := Z_waits (g := g) hn h
  have := xloop_sim (fun i (q q' : Nat → Nat → Int32) => ZLs n ZLf st q q' ∧ ∀ j, i ≤ j → j < n → Fdue (Fwaits n L).2 j = 1 → (Mwaits n M g).2 j = q j 6 ∧ q j 12 = 1 ∧ ∃ b, b < 7 ∧ q j 6 = nI b) n 0 (Fwaits n L).1 (Mwaits n M g).1
    (f := fun i (M : Nat → Nat → Int32) => if Fdue (Fwaits n L).2 i = 1 then (Fspread n s i (M i 6) M).1 else M) (g := fun i (M' : Nat → Nat → Int32) => if (Mwaits n M g).2 i < 0 then M' else (Mspread n sg i ((Mwaits n M g).2 i) M').1)
    (fun i q q' _ hi hq => ?_) ⟨hw.1, fun j _ hj hd => ?_⟩
  · exact this.1
  · have hin : i < n := by omega
    by_cases c : Fdue (Fwaits n L).2 i = 1
    · obtain ⟨e1, e2, b, hb, e3⟩ := hq.2 i (Nat.le_refl _) hin c
      rw [if_pos c, if_neg (by rw [e1, e3]; exact Int32.not_lt.mpr (xnle (b := 0) (by omega) (Nat.zero_le _))), e1]
      refine ⟨(Z_spread hs hn ⟨b, hb, e3⟩ hin hH hq.1).1, fun j hj hjn hd => ?_⟩
      obtain ⟨d1, d2, d3⟩ := hq.2 j (by omega) hjn hd
      have hk := Fspread_keeps (n := n) (a := i) (rk := q i 6) (s := s) (c := q j 6) ⟨d2, rfl⟩
      rw [hk.2]
      exact ⟨d1, hk.1, d3⟩
    · have h6 := (hw.2.1 i hin hin).resolve_left (fun z => c z.1)
      rw [if_neg c, if_pos (by rw [h6.2]; decide)]
      exact ⟨hq.1, fun j hj hjn hd => hq.2 j (by omega) hjn hd⟩
  · exact ((hw.2.1 j hj hj).resolve_right (fun z => absurd (hd.symm.trans z.1) (by decide))).2
