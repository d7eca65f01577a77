/-! ===== class and model side by side: reading a text, sign by sign ===== -/
def Tx (s : Nat → Int32) (n i : Nat) : Int32 := if i < n then s i else 0
theorem Tx_lt {s : Nat → Int32} {n i : Nat} (h : ¬ Tx s n i = 0) : i < n := by
  unfold Tx at h
  by_cases c : i < n
  · exact c
  · rw [if_neg c] at h; exact absurd rfl h
theorem Fsign_T {sn p : Nat → Int32} {n i : Nat} (hn : n ≤ 80) (h2 : p 2 = nI n) (h3 : p 3 = nI i) (hi : i ≤ n) : Fsign sn p = Tx sn n i := by
  unfold Fsign Tx
  rw [h2, h3]
  by_cases c : i < n
  · rw [if_pos (nI_lt c (by omega)), if_pos (show nI i < 80 from nI_lt (a := i) (b := 80) (by omega) (by omega)), nI_clamp (by omega), if_pos c]
  · rw [if_neg (xngt (by omega) (by omega)), if_neg c]
theorem Mnx_T {sn pp f : Nat → Int32} {n i : Nat} (hn : n ≤ 80) (hA : ∀ j, j < n → sn j = pp j) (h10 : f 10 = nI n) (h11 : f 11 = nI i) (hi : i ≤ n) : Mnx pp f = Tx sn n i := by
  unfold Mnx Tx
  rw [h10, h11]
  by_cases c : i < n
  · rw [if_pos (nI_lt c (by omega)), nI_clamp (by omega), if_pos c, hA i c]
  · rw [if_neg (xngt (by omega) (by omega)), if_neg c]
theorem xdigit {c : Int32} (h : ¬ Fin3 c 48 57 = 0) : ∃ d, d < 10 ∧ c = nI (48 + d) := by
  unfold Fin3 at h
  by_cases h1 : c < 48
  · rw [if_pos h1] at h; exact absurd rfl h
  · rw [if_neg h1] at h
    by_cases h2 : 57 < c
    · rw [if_pos h2] at h; exact absurd rfl h
    · have h3 := Int32.not_lt.mp h1
      have h4 := Int32.not_lt.mp h2
      have h0 : (0 : Int32) ≤ c := Int32.le_trans (by decide) h3
      have h5 : c < nI 58 := Int32.lt_of_le_of_lt h4 (by decide)
      obtain ⟨q1, q2⟩ := xix h0 h5 (by decide)
      rw [q2] at h3
      have h6 : 48 ≤ c.toNatClampNeg := (xnle_iff (a := 48) (by decide) (by omega)).mp h3
      exact ⟨c.toNatClampNeg - 48, by omega, by rw [show 48 + (c.toNatClampNeg - 48) = c.toNatClampNeg by omega]; exact q2⟩
theorem xdv1 {v d : Nat} : 10 * nI v + (nI (48 + d) - 48) = nI (10 * v + d) := by
  have e : nI (48 + d) - 48 = nI d := by
    rw [← nI_add, Int32.add_comm]
    exact Int32.add_sub_cancel _ _
  rw [e, ← nI_add]
  congr 1
  exact (Int32.ofNat_mul 10 v).symm
theorem xdv2 {v d : Nat} : 10 * nI v + nI (48 + d) - 48 = nI (10 * v + d) := by
  rw [Int32.sub_eq_add_neg, Int32.add_assoc, ← Int32.sub_eq_add_neg]
  exact xdv1
/-- a reading of digits, by both -/
def ZNm (n : Nat) (sn p0 f0 : Nat → Int32) (i0 : Nat) (r m : (Nat → Int32) × Int32) : Prop := r.2 = m.2 ∧ (∀ w, w ≠ 3 → r.1 w = p0 w) ∧ (∀ w, w ≠ 11 → w ≠ 12 → m.1 w = f0 w) ∧
  ∃ i, i0 ≤ i ∧ i ≤ n ∧ r.1 3 = nI i ∧ m.1 11 = nI i ∧ (m.1 12 = 0 ∨ (m.1 12 = 1 ∧ ¬ Fin3 (Tx sn n i) 48 57 = 0))
theorem MnLw {pp : Nat → Int32} {k : Nat} {q : (Nat → Int32) × Int32} (h : ¬ q.1 12 = 0) : MnL pp k q = q := by
  cases k with
  | zero => rfl
  | succ k => unfold MnL; rw [if_neg h]
theorem MnL_stop {pp : Nat → Int32} {k : Nat} {q : (Nat → Int32) × Int32} (h : Fin3 (Mnx pp q.1) 48 57 = 0) : MnL pp k q = q := by
  cases k with
  | zero => rfl
  | succ k =>
    unfold MnL
    by_cases c : q.1 12 = 0
    · rw [if_pos c]
      by_cases d : q.2 ≤ 0
      · rw [if_pos d]
      · rw [if_neg d, if_pos h]
    · rw [if_neg c]
theorem MnL_big {pp f : Nat → Int32} {k v d : Nat} (h12 : f 12 = 0) (hv : 1 ≤ v) (hv3 : 100 ≤ v) (hv9 : v < 1000) (hd : d < 10) (hx : Mnx pp f = nI (48 + d)) : MnL pp (k + 1) (f, nI v) = (va_up (va_up f 12 1) 11 (f 11 + 0), nI v) := by
  show (if f 12 = 0 then (if nI v ≤ 0 then (f, nI v) else if Fin3 (Mnx pp f) 48 57 = 0 then (f, nI v) else if 10 * nI v + Mnx pp f - 48 ≤ 999 then MnL pp k (va_up (va_up f 12 0) 11 (f 11 + 1), 10 * nI v + Mnx pp (va_up f 12 0) - 48) else MnL pp k (va_up (va_up f 12 1) 11 (f 11 + 0), nI v)) else (f, nI v)) = _
  have h1 : ¬ nI v ≤ 0 := fun c => absurd ((xnle_iff (b := 0) (by omega) (by omega)).mp c) (by omega)
  have h2 : ¬ Fin3 (nI (48 + d)) 48 57 = 0 := (show ∀ d, d < 10 → ¬ Fin3 (nI (48 + d)) 48 57 = 0 from by decide +kernel) d hd
  have h3 : ¬ nI (10 * v + d) ≤ 999 := fun c => absurd ((xnle_iff (b := 999) (by omega) (by omega)).mp c) (by omega)
  rw [if_pos h12, if_neg h1, hx, if_neg h2, xdv2, if_neg h3]
  exact MnLw (q := (va_up (va_up f 12 1) 11 (f 11 + 0), nI v)) (show ¬ (1 : Int32) = 0 from by decide)
theorem MnL_next {pp f : Nat → Int32} {k v d : Nat} (h12 : f 12 = 0) (hv : 1 ≤ v) (hv9 : v < 100) (hd : d < 10) (hx : Mnx pp f = nI (48 + d)) : MnL pp (k + 1) (f, nI v) = MnL pp k (va_up (va_up f 12 0) 11 (f 11 + 1), nI (10 * v + d)) := by
  show (if f 12 = 0 then (if nI v ≤ 0 then (f, nI v) else if Fin3 (Mnx pp f) 48 57 = 0 then (f, nI v) else if 10 * nI v + Mnx pp f - 48 ≤ 999 then MnL pp k (va_up (va_up f 12 0) 11 (f 11 + 1), 10 * nI v + Mnx pp (va_up f 12 0) - 48) else MnL pp k (va_up (va_up f 12 1) 11 (f 11 + 0), nI v)) else (f, nI v)) = _
  have h1 : ¬ nI v ≤ 0 := fun c => absurd ((xnle_iff (b := 0) (by omega) (by omega)).mp c) (by omega)
  have h2 : ¬ Fin3 (nI (48 + d)) 48 57 = 0 := (show ∀ d, d < 10 → ¬ Fin3 (nI (48 + d)) 48 57 = 0 from by decide +kernel) d hd
  have h3 : nI (10 * v + d) ≤ 999 := (xnle_iff (b := 999) (by omega) (by omega)).mpr (by omega)
  have h4 : Mnx pp (va_up f 12 0) = Mnx pp f := rfl
  rw [if_pos h12, if_neg h1, h4, hx, if_neg h2, xdv2, if_pos h3]
theorem Fdig_3 {c : Int32} : Fdig c = Fin3 c 48 57 := rfl
theorem ZNm_here {n i : Nat} {sn p f : Nat → Int32} {v : Int32} (hi : i ≤ n) (h3 : p 3 = nI i) (h11 : f 11 = nI i) (h12 : f 12 = 0) : ZNm n sn p f i (p, v) (f, v) := ⟨rfl, fun _ _ => rfl, fun _ _ _ => rfl, i, Nat.le_refl _, hi, h3, h11, Or.inl h12⟩
theorem ZNm_more {n i : Nat} {sn p f : Nat → Int32} {r m : (Nat → Int32) × Int32} (h : ZNm n sn (Pinc p) (va_up (va_up f 12 0) 11 (f 11 + 1)) (i + 1) r m) : ZNm n sn p f i r m := by
  obtain ⟨h1, h2, h3, k, h4, h5⟩ := h
  exact ⟨h1, fun w hw => (h2 w hw).trans (va_up_ne _ _ hw), fun w ha hb => (h3 w ha hb).trans ((va_up_ne _ _ ha).trans (va_up_ne _ _ hb)), k, by omega, h5⟩
theorem ZN0 {n i k v : Nat} {sn pp p f : Nat → Int32} (hn : n ≤ 80) (hA : ∀ j, j < n → sn j = pp j) (hi : i ≤ n) (h2 : p 2 = nI n) (h3 : p 3 = nI i) (h10 : f 10 = nI n) (h11 : f 11 = nI i) (h12 : f 12 = 0) (hv : 100 ≤ v) (hv9 : v < 1000) : ZNm n sn p f i (p, nI v) (MnL pp (k + 1) (f, nI v)) := by
  have hx := Mnx_T hn hA h10 h11 hi
  by_cases c : Fin3 (Tx sn n i) 48 57 = 0
  · rw [MnL_stop (q := (f, nI v)) (show Fin3 (Mnx pp f) 48 57 = 0 by rw [hx]; exact c)]
    exact ZNm_here hi h3 h11 h12
  · obtain ⟨d, hd, e⟩ := xdigit c
    rw [MnL_big h12 (by omega) hv hv9 hd (hx.trans e)]
    refine ⟨rfl, fun _ _ => rfl, fun w ha hb => (va_up_ne _ _ ha).trans (va_up_ne _ _ hb), i, Nat.le_refl _, hi, h3, ?_, Or.inr ⟨rfl, c⟩⟩
    show f 11 + 0 = nI i
    rw [xadd0]; exact h11
theorem ZN1 {n i k v : Nat} {sn pp p f : Nat → Int32} (hn : n ≤ 80) (hA : ∀ j, j < n → sn j = pp j) (hi : i ≤ n) (h2 : p 2 = nI n) (h3 : p 3 = nI i) (h10 : f 10 = nI n) (h11 : f 11 = nI i) (h12 : f 12 = 0) (hv : 10 ≤ v) (hv9 : v < 100) : ZNm n sn p f i (Fnum sn 1 (p, nI v)) (MnL pp (k + 2) (f, nI v)) := by
  have hx := Mnx_T hn hA h10 h11 hi
  have hs := Fsign_T (sn := sn) hn h2 h3 hi
  show ZNm n sn p f i (if Fdig (Fsign sn p) = 0 then (p, nI v) else Fnum sn 0 (Pinc p, 10 * nI v + (Fsign sn p - 48))) _
  rw [hs, Fdig_3]
  by_cases c : Fin3 (Tx sn n i) 48 57 = 0
  · rw [MnL_stop (q := (f, nI v)) (show Fin3 (Mnx pp f) 48 57 = 0 by rw [hx]; exact c), if_pos c]
    exact ZNm_here hi h3 h11 h12
  · have hin := Tx_lt (xdig0 c)
    obtain ⟨d, hd, e⟩ := xdigit c
    rw [if_neg c, e, xdv1, MnL_next h12 (by omega) hv9 hd (hx.trans e)]
    exact ZNm_more (ZN0 (p := Pinc p) hn hA (by omega) h2 (by show p 3 + 1 = _; rw [h3]; exact nI_1 i) h10 (by show f 11 + 1 = _; rw [h11]; exact nI_1 i) rfl (by omega) (by omega))
theorem ZN2 {n i k v : Nat} {sn pp p f : Nat → Int32} (hn : n ≤ 80) (hA : ∀ j, j < n → sn j = pp j) (hi : i ≤ n) (h2 : p 2 = nI n) (h3 : p 3 = nI i) (h10 : f 10 = nI n) (h11 : f 11 = nI i) (h12 : f 12 = 0) (hv : 1 ≤ v) (hv9 : v < 10) : ZNm n sn p f i (Fnum sn 2 (p, nI v)) (MnL pp (k + 3) (f, nI v)) := by
  have hx := Mnx_T hn hA h10 h11 hi
  have hs := Fsign_T (sn := sn) hn h2 h3 hi
  show ZNm n sn p f i (if Fdig (Fsign sn p) = 0 then (p, nI v) else Fnum sn 1 (Pinc p, 10 * nI v + (Fsign sn p - 48))) _
  rw [hs, Fdig_3]
  by_cases c : Fin3 (Tx sn n i) 48 57 = 0
  · rw [MnL_stop (q := (f, nI v)) (show Fin3 (Mnx pp f) 48 57 = 0 by rw [hx]; exact c), if_pos c]
    exact ZNm_here hi h3 h11 h12
  · have hin := Tx_lt (xdig0 c)
    obtain ⟨d, hd, e⟩ := xdigit c
    rw [if_neg c, e, xdv1, MnL_next h12 (by omega) (by omega) hd (hx.trans e)]
    exact ZNm_more (ZN1 (p := Pinc p) hn hA (by omega) h2 (by show p 3 + 1 = _; rw [h3]; exact nI_1 i) h10 (by show f 11 + 1 = _; rw [h11]; exact nI_1 i) rfl (by omega) (by omega))
