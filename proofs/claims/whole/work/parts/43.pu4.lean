/-! ===== class and model side by side: looking, light, what is counted ===== -/
theorem xor_find {g : Nat → Int32} (hg : ∀ i, g i = 0 ∨ g i = 1) : ∀ (k i : Nat) (s : Int32), (s = 0 ∨ s = 1) → (xloop (fun i s => s ||| g i) k i s = 0 ↔ (s = 0 ∧ xfind g k i = 0))
  | 0, i, s, hs => by simp [xloop, xfind]
  | k + 1, i, s, hs => by
    show xloop (fun i s => s ||| g i) k (i + 1) (s ||| g i) = 0 ↔ (s = 0 ∧ (if g i = 0 then xfind g k (i + 1) else 1) = 0)
    rcases hg i with e | e
    · rw [e, if_pos rfl, xor_find hg k (i + 1) (s ||| 0) (xor0 hs)]
      rw [show s ||| 0 = s from by rcases hs with rfl | rfl <;> decide]
    · rw [e, if_neg (by decide), xor_find hg k (i + 1) (s ||| 1) (xor1 hs)]
      rw [show s ||| 1 = 1 from by rcases hs with rfl | rfl <;> decide]
      exact ⟨fun z => absurd z.1 (by decide), fun z => absurd z.2 (by decide)⟩
theorem xfind_eq {f g : Nat → Int32} : ∀ (k i : Nat), (∀ j, i ≤ j → j < i + k → (f j = 0 ↔ g j = 0)) → (xfind f k i = xfind g k i)
  | 0, _, _ => rfl
  | k + 1, i, h => by
    have h1 := xfind_eq k (i + 1) (fun j a b => h j (by omega) (by omega))
    have h0 := h i (Nat.le_refl _) (by omega)
    show (if f i = 0 then xfind f k (i + 1) else 1) = (if g i = 0 then xfind g k (i + 1) else 1)
    by_cases c : f i = 0
    · rw [if_pos c, if_pos (h0.mp c), h1]
    · rw [if_neg c, if_neg (fun z => c (h0.mpr z))]
/-- a walker's place and whether he is home -/
def ZYp (nw : Nat) (Y V : Nat → Nat → Int32) : Prop := ∀ w, w < nw → V w 0 = Y w 3 ∧ V w 2 = Y w 5 ∧ R99 (Y w 3) ∧ (Y w 5 = 0 ∨ Y w 5 = 1)
theorem Mstr_0 {r : Nat → Int32} : Mstr r = 0 ↔ ¬ r 2 = 0 := by
  unfold Mstr
  by_cases c : r 2 = 0
  · rw [if_pos c]; exact ⟨fun z => absurd z (by decide), fun z => absurd c z⟩
  · rw [if_neg c]; exact ⟨fun _ => c, fun _ => rfl⟩
theorem Z_sees {nw : Nat} {s sg ℓ m : Nat → Int32} {Y V : Nat → Nat → Int32} (hs : RSt s sg) (hY : ZYp nw Y V) (h : ZL ℓ m) : Fsees nw s Y ℓ = 0 ↔ Msees nw sg V m = 0 := by
  have e1 : Msee1 nw sg V (m 0) = 0 ↔ xfind (fun w => if Y w 5 = 0 then (if Fdist ℓ (Y w 3) ≤ s 0 then 1 else 0) else 0) nw 0 = 0 := by
    have ef : (fun w (s : Int32) => if Mstr (V w) = 0 then s ||| 0 else if Mfar (V w 0) (m 0) ≤ sg 0 then s ||| 1 else s ||| 0) = (fun w (s : Int32) => s ||| (if Mstr (V w) = 0 then 0 else if Mfar (V w 0) (m 0) ≤ sg 0 then 1 else 0)) := by
      funext w s
      split
      · rfl
      · split <;> rfl
    unfold Msee1
    rw [ef, xor_find (g := fun w => if Mstr (V w) = 0 then 0 else if Mfar (V w 0) (m 0) ≤ sg 0 then 1 else 0) (fun i => by split; exact Or.inl rfl; split; exact Or.inr rfl; exact Or.inl rfl) nw 0 0 (Or.inl rfl)]
    rw [xfind_eq (g := fun w => if Y w 5 = 0 then (if Fdist ℓ (Y w 3) ≤ s 0 then 1 else 0) else 0) nw 0 (fun w _ hw => by
      obtain ⟨a, b, c, d⟩ := hY w (by omega)
      have e := xfar_eq c h.2.2.2.1
      have es : xabs (ℓ 0 - Y w 3) = Mfar (Y w 3) (ℓ 0) := by
        have := xfar_eq h.2.2.2.1 c
        rw [← this]
        obtain ⟨p, hp, ep⟩ := h.2.2.2.1
        obtain ⟨q, hq, eq⟩ := c
        rw [ep, eq]
        exact (show ∀ p, p < 100 → ∀ q, q < 100 → Mfar (nI p) (nI q) = Mfar (nI q) (nI p) from by decide +kernel) p hp q hq
      unfold Fdist
      rw [a, h.1.1, hs.1.1, es]
      by_cases c0 : Y w 5 = 0
      · rw [if_pos c0, if_neg (fun z => Mstr_0.mp z (by rw [b]; exact c0))]
      · rw [if_neg c0, if_pos (Mstr_0.mpr (by rw [b]; exact c0))])]
    exact ⟨fun z => z.2, fun z => ⟨rfl, z⟩⟩
  unfold Fsees Msees
  rw [h.1.2.2.2.1]
  by_cases c : ℓ 3 = 0
  · rw [if_pos c, if_pos c]
    by_cases d : Msee1 nw sg V (m 0) = 0
    · rw [if_pos d]; exact ⟨fun _ => rfl, fun _ => e1.mp d⟩
    · rw [if_neg d]; exact ⟨fun z => absurd (e1.mpr z) d, fun z => absurd z (by decide)⟩
  · rw [if_neg c, if_neg c]
    split <;> exact ⟨fun _ => rfl, fun _ => rfl⟩
theorem Fthat_due {d : Int32} {L : Nat → Nat → Int32} : ∀ (k i : Nat) (s : Int32) (j : Nat), i + k ≤ 16 → j < 16 → Fdue (xloop (fun i s => if L i 2 = d then s ||| xbit i else s) k i s) j = if (i ≤ j ∧ j < i + k) ∧ L j 2 = d then 1 else Fdue s j
  | 0, i, s, j, _, _ => by rw [if_neg (by omega)]; rfl
  | k + 1, i, s, j, hk, hj => by
    show Fdue (xloop _ k (i + 1) (if L i 2 = d then s ||| xbit i else s)) j = _
    rw [Fthat_due k (i + 1) _ j (by omega) hj]
    by_cases e : j = i
    · subst e
      rw [if_neg (by omega)]
      by_cases c : L j 2 = d
      · rw [if_pos c, if_pos ⟨by omega, c⟩, Fdue_or (by omega) hj, if_pos rfl]
      · rw [if_neg c, if_neg (fun z => c z.2)]
    · have hs : Fdue (if L i 2 = d then s ||| xbit i else s) j = Fdue s j := by
        split
        · rw [Fdue_or (by omega) hj, if_neg e]
        · rfl
      rw [hs]
      by_cases c : (i + 1 ≤ j ∧ j < i + 1 + k) ∧ L j 2 = d
      · rw [if_pos c, if_pos ⟨by omega, c.2⟩]
      · rw [if_neg c, if_neg (fun z => c ⟨by omega, z.2⟩)]
theorem Mwere_at {L : Nat → Nat → Int32} : ∀ (k i : Nat) (h : Nat → Int32) (j : Nat), xloop (fun i h => va_up h i (L i 2)) k i h j = if i ≤ j ∧ j < i + k then L j 2 else h j
  | 0, i, h, j => by rw [if_neg (by omega)]; rfl
  | k + 1, i, h, j => by
    refine (Mwere_at k (i + 1) _ j).trans ?_
    dsimp only
    by_cases e : j = i
    · subst e
      rw [if_neg (by omega), if_pos (by omega), va_up_at]
    · rw [va_up_ne _ _ e]
      by_cases c : i + 1 ≤ j ∧ j < i + 1 + k
      · rw [if_pos c, if_pos (by omega)]
      · rw [if_neg c, if_neg (by omega)]
theorem Z_see {n nw : Nat} {st s sg h : Nat → Int32} {L M Y V : Nat → Nat → Int32} (hs : RSt s sg) (hn : n ≤ 16) (hH : ZH n st s sg) (hY : ZYp nw Y V) (hl : ZLs n ZLf st L M) : ZLs n ZLf st (LSee n nw s Y L) (MLook n nw sg V M h) := by
  refine xloop_sim (fun _ (q q' : Nat → Nat → Int32) => ZLs n ZLf st q q') n 0 L M (fun i q q' _ hi hq => ?_) hl
  have hi : i < n := by omega
  have hsee := Z_sees hs hY (hq i hi).1.1
  have hdue : Fdue (Fthat n 2 L) i = if L i 2 = 2 then 1 else 0 := by
    unfold Fthat
    rw [Fthat_due n 0 0 i (by omega) (by omega), Fdue_0 (by omega)]
    by_cases c : L i 2 = 2
    · rw [if_pos c, if_pos ⟨by omega, c⟩]
    · rw [if_neg c, if_neg (fun z => c z.2)]
  have hwas : Mwere n M h i = L i 2 := by
    unfold Mwere
    rw [Mwere_at, if_pos (by omega)]
    exact (hl i hi).1.1.1.2.2.1
  unfold Mlook1
  by_cases c : Fsees nw s Y (q i) = 0
  · rw [if_pos c, if_pos (hsee.mp c)]; exact hq
  · rw [if_neg c, if_neg (fun z => c (hsee.mpr z)), hwas, hdue]
    by_cases d : L i 2 = 2
    · rw [if_pos d, if_pos d, if_neg (by decide)]
      exact hq.up (fun _ => ⟨RL_wake hs (hq i hi).1, (hq i hi).2⟩)
    · rw [if_neg d, if_neg d, if_pos rfl]
      exact (Z_spread hs hn ⟨0, by omega, rfl⟩ hi hH (hq.up (fun _ => ⟨RL_turn hs (hq i hi).1, (hq i hi).2⟩))).1
