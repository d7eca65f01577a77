/-! ===== class and model side by side: coughs, waiting, looking ===== -/
theorem xloop_eq {α : Type} {f g : Nat → α → α} : ∀ (k i : Nat) (a : α), (∀ j a, i ≤ j → j < i + k → f j a = g j a) → xloop f k i a = xloop g k i a
  | 0, _, _, _ => rfl
  | k + 1, i, a, h => by
    show xloop f k (i + 1) (f i a) = xloop g k (i + 1) (g i a)
    rw [h i a (Nat.le_refl _) (by omega)]
    exact xloop_eq k (i + 1) _ (fun j a h1 h2 => h j a (by omega) (by omega))
def zb (d : Int32) (j : Nat) : Bool := d.toBitVec.getLsbD j
theorem zb_amt : ∀ n, n < 32 → ((nI n &&& 31).toBitVec.smod 32).toNat = n := by decide +kernel
theorem zb_sh {d : Int32} {j k : Nat} (hj : j < 32) (hk : k < 32) : (d >>> (nI j &&& 31)).toBitVec.getLsbD k = if j + k < 32 then zb d (j + k) else zb d 31 := by
  rw [Int32.toBitVec_shiftRight]
  show (d.toBitVec.sshiftRight ((nI j &&& 31).toBitVec.smod 32).toNat).getLsbD k = _
  rw [zb_amt j hj, BitVec.getLsbD_sshiftRight, BitVec.msb_eq_getLsbD_last]
  simp [hk, zb]
theorem zb_due {d : Int32} {j : Nat} (hj : j < 32) : Fdue d j = if zb d j = true then 1 else 0 := by
  apply Int32.toBitVec_inj.mp
  apply BitVec.eq_of_getLsbD_eq
  intro k hk
  unfold Fdue
  rw [Int32.toBitVec_and, BitVec.getLsbD_and, zb_sh hj hk]
  have h1 : (1 : Int32).toBitVec.getLsbD k = decide (k = 0) := (show ∀ k, k < 32 → (1 : Int32).toBitVec.getLsbD k = decide (k = 0) from by decide +kernel) k hk
  have h0 : (0 : Int32).toBitVec.getLsbD k = false := (show ∀ k, k < 32 → (0 : Int32).toBitVec.getLsbD k = false from by decide +kernel) k hk
  rw [h1]
  by_cases e : k = 0
  · subst e
    rw [if_pos (by omega)]
    cases hz : zb d j
    · simp [hz]
    · simp [hz, h1]
  · cases hz : zb d j
    · simp [e]
    · simp [e, h1]
theorem zb_or {d : Int32} {i j : Nat} (hi : i < 31) (hj : j < 32) : zb (d ||| xbit i) j = (zb d j || decide (j = i)) := by
  unfold zb xbit
  rw [Int32.toBitVec_or, BitVec.getLsbD_or]
  congr 1
  exact (show ∀ i, i < 31 → ∀ j, j < 32 → ((1 : Int32) <<< (nI i &&& 31)).toBitVec.getLsbD j = decide (j = i) from by decide +kernel) i hi j hj
theorem zb_0 (j : Nat) : zb 0 j = false := BitVec.getLsbD_zero
theorem Fdue_or {d : Int32} {i j : Nat} (hi : i < 16) (hj : j < 16) : Fdue (d ||| xbit i) j = if j = i then 1 else Fdue d j := by
  rw [zb_due (by omega), zb_due (by omega), zb_or (by omega) (by omega)]
  by_cases e : j = i
  · simp [e]
  · simp [e]
theorem Fdue_0 {j : Nat} (hj : j < 16) : Fdue 0 j = 0 := by rw [zb_due (by omega), zb_0]; rfl
def ZLs (n : Nat) (R : (Nat → Int32) → (Nat → Int32) → Prop) (st : Nat → Int32) (L M : Nat → Nat → Int32) : Prop := ∀ j, j < n → R (L j) (M j) ∧ L j 0 = st j
theorem ZLs.up {n i : Nat} {R : (Nat → Int32) → (Nat → Int32) → Prop} {st : Nat → Int32} {L M : Nat → Nat → Int32} {ℓ m : Nat → Int32} (h : ZLs n R st L M) (h2 : i < n → R ℓ m ∧ ℓ 0 = st i) : ZLs n R st (va_up L i ℓ) (va_up M i m) := by
  intro j hj
  by_cases e : j = i
  · subst e
    rw [va_up_at, va_up_at]
    exact h2 hj
  · rw [va_up_ne _ _ e, va_up_ne _ _ e]
    exact h j hj
theorem ZLs_map {n : Nat} {R S : (Nat → Int32) → (Nat → Int32) → Prop} {st : Nat → Int32} {L M : Nat → Nat → Int32} {F G : (Nat → Int32) → (Nat → Int32)} (hFG : ∀ ℓ m, R ℓ m → S (F ℓ) (G m) ∧ F ℓ 0 = ℓ 0) (h : ZLs n R st L M) : ZLs n S st (xloop (fun i L => va_up L i (F (L i))) n 0 L) (xloop (fun i M => va_up M i (G (M i))) n 0 M) := by
  intro j hj
  rw [xloop_row (g := fun _ => F), xloop_row (g := fun _ => G), if_pos (by omega), if_pos (by omega)]
  exact ⟨(hFG _ _ (h j hj).1).1, ((hFG _ _ (h j hj).1).2).trans (h j hj).2⟩
/-- who hears whom is the same -/
def ZH (n : Nat) (st s sg : Nat → Int32) : Prop := (∀ i, i < n → R99 (st i)) ∧ ∀ i j, i < n → j < n → i ≠ j → (xabs (st i - st j) ≤ s 1 ↔ Mfar (st i) (st j) ≤ sg 1)
theorem ZL_0 {ℓ m : Nat → Int32} (h : ZL ℓ m) : m 0 = ℓ 0 := h.1.1
theorem ZL_3 {ℓ m : Nat → Int32} (h : ZL ℓ m) : m 3 = ℓ 3 := h.1.2.2.2.1
theorem Z_hears {n i a : Nat} {st s sg : Nat → Int32} {L M : Nat → Nat → Int32} {R : (Nat → Int32) → (Nat → Int32) → Prop} (hR : ∀ ℓ m, R ℓ m → ZL ℓ m) (hn : n ≤ 16) (hi : i < n) (ha : a < n) (hH : ZH n st s sg) (h : ZLs n R st L M) : Fhears (s 1) L i a = Mhears sg M i a := by
  unfold Fhears Mhears
  by_cases e : i = a
  · rw [if_pos (by rw [e]), if_pos (by rw [e])]
  · rw [if_neg (fun q => e (xnIinj (by omega) (by omega) q)), if_neg (fun q => e (xnIinj (by omega) (by omega) q)), ZL_3 (hR _ _ (h i hi).1), ZL_0 (hR _ _ (h i hi).1), ZL_0 (hR _ _ (h a ha).1)]
    have := hH.2 i a hi ha e
    unfold Fdist
    rw [(h i hi).2, (h a ha).2]
    by_cases c : L i 3 = 2
    · rw [if_pos c, if_pos c]
    · rw [if_neg c, if_neg c]
      by_cases d : xabs (st i - st a) ≤ s 1
      · rw [if_pos d, if_pos (this.mp d)]
      · rw [if_neg d, if_neg (fun q => d (this.mpr q))]
theorem Fhear_0 {rk : Int32} {s ℓ : Nat → Int32} : Fhear rk s ℓ 0 = ℓ 0 := by unfold Fhear; split <;> rfl
theorem Z_spread {n a : Nat} {rk : Int32} {st s sg : Nat → Int32} {L M : Nat → Nat → Int32} (hs : RSt s sg) (hn : n ≤ 16) (hr : ∃ b, b < 7 ∧ rk = nI b) (ha : a < n) (hH : ZH n st s sg) (h : ZLs n ZLf st L M) :
    ZLs n ZLf st (Fspread n s a rk L).1 (Mspread n sg a rk M).1 ∧ (Fspread n s a rk L).2 = (Mspread n sg a rk M).2 := by
  have h0 : ZLs n ZLf st (va_up L a (va_up (L a) 8 (L a 8 + 1))) (va_up M a (va_up (M a) 8 (M a 8 + 1))) := h.up (fun hi => ⟨RL_coughs (h a hi).1, (h a hi).2⟩)
  refine xloop_sim (fun _ (q : (Nat → Nat → Int32) × Int32) (q' : (Nat → Nat → Int32) × Int32) => ZLs n ZLf st q.1 q'.1 ∧ q.2 = q'.2) n 0 _ _ (fun i q q' _ hi hq => ?_) ⟨h0, rfl⟩
  have hi : i < n := by omega
  have e := Z_hears (fun _ _ z => z.1) hn hi ha hH hq.1
  rw [e]
  by_cases c : Mhears sg q'.1 i a = 0
  · rw [if_pos c, if_pos c]; exact hq
  · rw [if_neg c, if_neg c]
    exact ⟨hq.1.up (fun hi => ⟨RL_hear hs hr (hq.1 i hi).1, Fhear_0.trans (hq.1 i hi).2⟩), by show q.2 + 1 = q'.2 + 1; rw [hq.2]⟩
