/-! ===== class and model side by side: light, a tick ===== -/
theorem xnn0 {a : Nat} (h : a < 2 ^ 31) : ¬ nI a < 0 := Int32.not_lt.mpr (xnle (b := 0) h (Nat.zero_le _))
theorem Z_lights {ℓ m : Nat → Int32} {x : Int32} (h : ZL ℓ m) (hx : R99 x) : Flights ℓ x = Mlights m x := by
  obtain ⟨⟨a0, a1, a2, _⟩, _, hd, h0⟩ := h
  unfold Flights Mlights Fdist
  rw [a0, a1, a2, xfar_eq h0.1 hx]
  rcases hd with e | ⟨e | e, _⟩
  · simp [e]
  · by_cases c : xabs (ℓ 0 - x) ≤ ℓ 1 / 2 <;> simp [e, c]
  · by_cases c : xabs (ℓ 0 - x) ≤ ℓ 1 <;> simp [e, c]
theorem ZLs.weak {n : Nat} {R S : (Nat → Int32) → (Nat → Int32) → Prop} {st : Nat → Int32} {L M : Nat → Nat → Int32} (h : ZLs n R st L M) (hRS : ∀ ℓ m, R ℓ m → S ℓ m) : ZLs n S st L M := fun j hj => ⟨hRS _ _ (h j hj).1, (h j hj).2⟩
theorem Z_lit {n : Nat} {st : Nat → Int32} {L M : Nat → Nat → Int32} {x : Int32} (h : ZLs n ZL st L M) (hx : R99 x) : Flit n x L = Mlit n x M := by
  unfold Flit Fset Mlit
  refine xloop_eq n 0 0 (fun i a _ hi => ?_)
  show (if Flights (L i) x = 0 then a else a ||| xbit i) = (if Mlights (M i) x = 0 then a else a ||| xbit i)
  rw [Z_lights (h i (by omega)).1 hx]
theorem Z_dis {n a : Nat} {st : Nat → Int32} {L M O U : Nat → Nat → Int32} (h : ZLs n ZL st L M) (hO : U a 0 = O a 0) (hx : R99 (O a 0)) : Fdist2 n (O a 0) L = 0 ↔ Mdis M U a n = 0 := by
  have ef : (fun i (s : Int32) => if M i 2 = 2 then (if Mfar (M i 0) (U a 0) ≤ M i 1 / 3 then s ||| 1 else s ||| 0) else s ||| 0) = (fun i (s : Int32) => s ||| (if M i 2 = 2 then (if Mfar (M i 0) (U a 0) ≤ M i 1 / 3 then 1 else 0) else 0)) := by
    funext w s
    split
    · split <;> rfl
    · rfl
  unfold Mdis Fdist2
  rw [ef, xor_find (g := fun i => if M i 2 = 2 then (if Mfar (M i 0) (U a 0) ≤ M i 1 / 3 then 1 else 0) else 0) (fun i => by split; split; exact Or.inr rfl; exact Or.inl rfl; exact Or.inl rfl) n 0 0 (Or.inl rfl)]
  rw [xfind_eq (f := fun i => if M i 2 = 2 then (if Mfar (M i 0) (U a 0) ≤ M i 1 / 3 then 1 else 0) else 0) (g := fun i => Fdisturbs (L i) (O a 0)) n 0 (fun i _ hi => by
    obtain ⟨⟨a0, a1, a2, _⟩, _, _, h0⟩ := (h i (by omega)).1
    unfold Fdisturbs Fdist
    rw [a0, a1, a2, hO, xfar_eq h0.1 hx])]
  exact ⟨fun z => ⟨rfl, z⟩, fun z => z.2⟩
theorem Z_near {n : Nat} {st : Nat → Int32} {L M : Nat → Nat → Int32} {x : Int32} (hn : n ≤ 16) (hn1 : 1 ≤ n) (h : ZLs n ZL st L M) (hx : R99 x) : Mnear x n M = nI (Fnear n x L) ∧ Fnear n x L < n := by
  obtain ⟨k, rfl⟩ : ∃ k, n = k + 1 := ⟨n - 1, by omega⟩
  have key := xloop_sim (fun i (b : Nat) (s : Int32) => s = nI b ∧ b < k + 1) k 1 0 (nI 0) (f := fun i b => if Fdist (L i) x < Fdist (L b) x then i else b) (g := fun i (s : Int32) => if s < 0 ∨ Mfar (M i 0) x < Mfar (M s.toNatClampNeg 0) x then nI i else s)
    (fun i b s _ hi hq => by
      obtain ⟨rfl, hb⟩ := hq
      have e1 : Mfar (M i 0) x = Fdist (L i) x := by unfold Fdist; rw [(h i (by omega)).1.1.1, xfar_eq (h i (by omega)).1.2.2.2.1 hx]
      have e2 : Mfar (M (nI b).toNatClampNeg 0) x = Fdist (L b) x := by unfold Fdist; rw [nI_clamp (by omega), (h b hb).1.1.1, xfar_eq (h b hb).1.2.2.2.1 hx]
      have e3 : ¬ nI b < 0 := Int32.not_lt.mpr (xnle (b := 0) (by omega) (Nat.zero_le _))
      rw [e1, e2]
      by_cases c : Fdist (L i) x < Fdist (L b) x
      · rw [if_pos c, if_pos (Or.inr c)]; exact ⟨rfl, by omega⟩
      · rw [if_neg c, if_neg (fun z => z.elim e3 c)]; exact ⟨rfl, hb⟩) ⟨rfl, by omega⟩
  have e0 : Mnear x (k + 1) M = xloop (fun i (s : Int32) => if s < 0 ∨ Mfar (M i 0) x < Mfar (M s.toNatClampNeg 0) x then nI i else s) k 1 (nI 0) := by
    unfold Mnear
    show xloop _ k 1 (if (-6 : Int32) < 0 ∨ _ then nI 0 else -6) = _
    rw [if_pos (Or.inl (by decide))]
  rw [e0]
  exact key
theorem Z_blame {n : Nat} {st : Nat → Int32} {L M : Nat → Nat → Int32} {x : Int32} (hn : n ≤ 16) (h : ZLs n ZLf st L M) (hx : R99 x) : ZLs n ZLf st (LBlame n x L) (Mblame (Mnear x n M) M) := by
  unfold LBlame Mblame
  by_cases c : n = 0
  · subst c
    exact fun j hj => absurd hj (Nat.not_lt_zero j)
  · have hz := Z_near hn (by omega) (h.weak (fun _ _ z => z.1)) hx
    rw [hz.1, if_neg (nI_ne0 (by omega) (by omega)), if_neg (xnn0 (show Fnear n x L < 2 ^ 31 by omega)), nI_clamp (by omega)]
    exact h.up (fun hi => ⟨RL_blame (h _ hi).1, (va_up_ne _ _ (by decide)).trans (h _ hi).2⟩)
theorem ZY_dark {ω γ π r : Nat → Int32} (h : ZY ω γ π r) : ZY (va_up ω 7 (ω 7 + 1)) γ π (va_up r 5 (r 5 + 1)) := by
  obtain ⟨⟨b0, b1, b2, b3, b4, b5, b6⟩, h3, h4, g, hg, e2, h5, hG, h6⟩ := h
  exact ⟨⟨b0, b1, b2, b3, b4, congrArg (· + 1) b5, b6⟩, h3, h4, g, hg, e2, h5, fun j hj => ⟨(va_up_ne _ _ (by omega)).trans (hG j hj).1, (va_up_ne _ _ (by omega)).trans (hG j hj).2.1, (hG j hj).2.2⟩, h6⟩
theorem Z_dark {n nw : Nat} {st : Nat → Int32} {L M Y P Q V : Nat → Nat → Int32} (hn : n ≤ 16) (hl : ZLs n ZLf st L M) (hY : ZYs nw Y P Q V) : ZLs n ZLf st (Fdark n nw L Y).1 (Mdark n nw M V).1 ∧ ZYs nw (Fdark n nw L Y).2 P Q (Mdark n nw M V).2 := by
  refine xloop_sim (fun _ (q q' : (Nat → Nat → Int32) × (Nat → Nat → Int32)) => ZLs n ZLf st q.1 q'.1 ∧ ZYs nw q.2 P Q q'.2) nw 0 (L, Y) (M, V) (fun w q q' _ hw hq => ?_) ⟨hl, hY⟩
  have hw : w < nw := by omega
  have hz := hq.2 w hw
  have e0 : q'.2 w 0 = q.2 w 3 := hz.1.1
  have e2 : q'.2 w 2 = q.2 w 5 := hz.1.2.2.1
  have hx : R99 (q.2 w 3) := hz.2.1
  unfold Mdark1
  rw [e0, ← Z_lit (hq.1.weak (fun _ _ z => z.1)) hx]
  by_cases c : q.2 w 5 = 0
  · rw [if_pos c, if_neg (fun z => Mstr_0.mp z (by rw [e2]; exact c))]
    by_cases d : Flit n (q.2 w 3) q.1 = 0
    · rw [if_pos d, if_pos d]
      refine ⟨Z_blame hn hq.1 hx, fun v hv => ?_⟩
      dsimp only
      by_cases e : v = w
      · subst e
        rw [va_up_at, va_up_at]
        exact ZY_dark hz
      · rw [va_up_ne _ _ e, va_up_ne _ _ e]
        exact hq.2 v hv
    · rw [if_neg d, if_neg d]; exact hq
  · rw [if_neg c, if_pos (Mstr_0.mpr (by rw [e2]; exact c))]; exact hq
def ZOs (nh : Nat) (O U : Nat → Nat → Int32) : Prop := ∀ h, h < nh → U h 0 = O h 0 ∧ U h 1 = O h 1 ∧ R99 (O h 0)
theorem Z_dist {n nh : Nat} {st : Nat → Int32} {L M O U : Nat → Nat → Int32} (hl : ZLs n ZLf st L M) (hO : ZOs nh O U) : ZOs nh (ODist n nh L O) (MDist n nh M U) := by
  refine xloop_sim (fun _ (q q' : Nat → Nat → Int32) => ZOs nh q q') nh 0 O U (fun h q q' _ hh hq => ?_) hO
  obtain ⟨e0, e1, hx⟩ := hq h (by omega)
  have hd := Z_dis (hl.weak (fun _ _ z => z.1)) e0 hx
  unfold Mdist1
  by_cases c : Fdist2 n (q h 0) L = 0
  · rw [if_pos c, if_pos (hd.mp c), xadd0]
    intro v hv
    by_cases e : v = h
    · subst e
      rw [va_up_at]
      exact ⟨(va_up_ne _ _ (by decide)).trans e0, va_up_at.trans e1, hx⟩
    · rw [va_up_ne _ _ e]; exact hq v hv
  · rw [if_neg c, if_neg (fun z => c (hd.mpr z))]
    intro v hv
    by_cases e : v = h
    · subst e
      rw [va_up_at, va_up_at]
      exact ⟨vu2 e0 (by decide) (by decide), by rw [va_up_at, va_up_at, e1], vu1 (P := R99) hx (by decide)⟩
    · rw [va_up_ne _ _ e, va_up_ne _ _ e]; exact hq v hv
def ZQ (n nh nw : Nat) (R : (Nat → Int32) → (Nat → Int32) → Prop) (st : Nat → Int32) (q : xS6) (q' : xM6) : Prop :=
  ZLs n R st q.2.1 q'.2.1 ∧ ZOs nh q.2.2.1 q'.2.2.1 ∧ ZYs nw q.2.2.2.1 q.2.2.2.2.1 q.2.2.2.2.2 q'.2.2.2.1 ∧ q'.1 6 = q.1 7
theorem Z_clear {n : Nat} {st : Nat → Int32} {L M : Nat → Nat → Int32} (h : ZLs n ZL st L M) : ZLs n ZLf st (LForget n L) (Mclear n M) :=
  ZLs_map (F := Fforget) (G := fun m => va_up (va_up m 11 0) 12 0) (fun ℓ m hr => ⟨RL_forget hr, rfl⟩) h
theorem Ffade_0 {d : Int32} {ℓ : Nat → Int32} : Ffade d ℓ 0 = ℓ 0 := by unfold Ffade; split <;> (try split) <;> (try split) <;> (try split) <;> rfl
theorem Fuse_0 {ℓ : Nat → Int32} : Fuse ℓ 0 = ℓ 0 := by unfold Fuse; split <;> (try split) <;> rfl
theorem Z_tick {n nh nw : Nat} {st s : Nat → Int32} {q : xS6} {q' : xM6} (hn : n ≤ 16) (hs : RSt s q'.1) (hH : ZH n st s q'.1) (h : ZQ n nh nw ZL st q q') : ZQ n nh nw ZLf st (Ftick n nh nw s q) (Mpass n nh nw q') := by
  obtain ⟨hl, hO, hY, ht⟩ := h
  have h1 := Z_clear hl
  have hm := Z_move hY
  have h2 : ZLs n ZLf st (LWaited n s (LForget n q.2.1)) (MA n q').1 := Z_again hs hn hH h1
  have h3 := Z_see (h := q'.2.2.2.2.2) hs hn hH hm.p h2
  have h4 : ZLs n ZLf st (LFade n (s 3) (LSee n nw s (FMove nw q.2.2.2.1 q.2.2.2.2.1 q.2.2.2.2.2).1 (LWaited n s (LForget n q.2.1)))) (MFades n q'.1 (MLook n nw q'.1 (MGos nw q'.2.2.2.1) (MA n q').1 q'.2.2.2.2.2)) :=
    ZLs_map (F := Ffade (s 3)) (G := Mfade q'.1) (fun ℓ m hr => ⟨RL_fade hs hr, Ffade_0⟩) h3
  have h5 : ZLs n ZLf st (LUse n (LFade n (s 3) (LSee n nw s (FMove nw q.2.2.2.1 q.2.2.2.2.1 q.2.2.2.2.2).1 (LWaited n s (LForget n q.2.1))))) (ML n nw q') :=
    ZLs_map (F := Fuse) (G := Muse) (fun ℓ m hr => ⟨RL_use hr, Fuse_0⟩) h4
  have h6 := Z_dark hn h5 hm
  exact ⟨h6.1, Z_dist h6.1 hO, h6.2, by show va_up q'.1 6 (q'.1 6 + 1) 6 = va_up q.1 7 (q.1 7 + 1) 7; rw [va_up_at, va_up_at, ht]⟩
