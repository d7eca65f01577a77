/-! ===== the layout: which cell is which; all numbers of both sides as one function G region part index slot ===== -/
def xso (r : Nat) : Nat := if r < 2 then 1 + 53 * r else if r < 9 then 111 + 53 * (r - 2) else 485 + 53 * (r - 9)
def xkey (r c i : Nat) : Nat :=
  if r < 11 then xso r + (if c = 0 then 0 else if c = 1 then 1 else if c = 2 then 5 + i else if c = 3 then 21 + i else if c = 4 then 29 + 3 * i else if c = 5 then 30 + 3 * i else if c = 6 then 31 + 3 * i else i)
  else if r = 11 then (if c = 0 then 108 else if c = 1 then 109 else if c = 2 then 482 else if c = 3 then 483 else if c = 4 then 484 else i)
  else 591 + c
def xsdec (r j : Nat) : Nat × Nat × Nat :=
  if j = 0 then (r, 0, 0) else if j = 1 then (r, 1, 0) else if j < 5 then (r, 7, j) else if j < 21 then (r, 2, j - 5) else if j < 29 then (r, 3, j - 21) else if (j - 29) % 3 = 0 then (r, 4, (j - 29) / 3) else if (j - 29) % 3 = 1 then (r, 5, (j - 29) / 3) else (r, 6, (j - 29) / 3)
def xdec (k : Nat) : Nat × Nat × Nat :=
  if k = 0 then (11, 5, 0) else if k < 107 then xsdec ((k - 1) / 53) ((k - 1) % 53) else if k = 107 then (11, 5, 107) else if k = 108 then (11, 0, 0) else if k = 109 then (11, 1, 0) else if k = 110 then (11, 5, 110) else if k < 482 then xsdec (2 + (k - 111) / 53) ((k - 111) % 53)
  else if k = 482 then (11, 2, 0) else if k = 483 then (11, 3, 0) else if k = 484 then (11, 4, 0) else if k < 591 then xsdec (9 + (k - 485) / 53) ((k - 485) % 53) else (12, k - 591, 0)
def xssh (j : Nat) : Nat × Nat := if j = 0 then (4, 8) else if j = 1 then (8, 6) else if j = 2 then (12, 16) else if j = 3 then (13, 8) else if j = 4 then (14, 8) else if j < 21 then (2, 13) else if j < 29 then (1, 2) else if (j - 29) % 3 = 0 then (5, 9) else (8, 6)
def xsh (k : Nat) : Nat × Nat :=
  if k = 0 then (6, 6) else if k < 107 then xssh ((k - 1) % 53) else if k = 107 then (11, 2) else if k = 108 then (10, 2) else if k = 109 then (0, 3) else if k = 110 then (11, 7) else if k < 482 then xssh ((k - 111) % 53)
  else if k = 482 then (3, 6) else if k = 483 then (9, 80) else if k = 484 then (8, 80) else if k < 591 then xssh ((k - 485) % 53)
  else if k = 591 then (7, 18) else if k = 592 then (8, 440) else if k = 593 then (8, 2640) else if k = 594 then (8, 880) else if k = 595 then (10, 2) else if k = 596 then (8, 440) else if k = 597 then (8, 16) else if k = 598 then (8, 16) else if k = 599 then (8, 80) else if k = 600 then (8, 29) else if k = 601 then (8, 30) else (8, 92)
def xsro (k j w : Nat) : Option Nat := if j = 0 then (if w < 4 then some (k + 1 + w) else none) else if j = 1 then none else if j = 2 then some (k + 3 + w) else if j = 3 then some (k + 18 + w) else if j = 4 then some (k + 25 + 3 * w) else if j < 29 then none else if (j - 29) % 3 = 0 then (if w < 2 then some (k + 1 + w) else none) else none
def xro (k w : Nat) : Option Nat :=
  if k = 0 then some (if w = 0 then 1 else if w = 1 then 54 else if w = 2 then 107 else if w = 3 then 108 else if w = 4 then 109 else 482) else if k < 107 then xsro k ((k - 1) % 53) w else if k = 107 then some (485 + 53 * w) else if k = 108 then none else if k = 109 then (if w = 0 then some 110 else none) else if k = 110 then some (111 + 53 * w) else if k < 482 then xsro k ((k - 111) % 53) w
  else if k = 482 then (if w = 0 then some 483 else if w = 1 then some 484 else none) else if k < 485 then none else if k < 591 then xsro k ((k - 485) % 53) w
  else if k = 591 then (if w = 0 then some 592 else if w = 1 then some 593 else if w = 2 then none else if w = 3 then none else if w < 10 then some (590 + w) else if w < 15 then none else some (585 + w)) else none
abbrev xG : Type := Nat → Nat → Nat → Nat → Int32
def xval (B : Nat) (G : xG) (k w : Nat) : Value := match xro k w with
  | some t => .ref (B + t)
  | none => .int (G (xdec k).1 (xdec k).2.1 (xdec k).2.2 w)
theorem xdec_inv : ∀ k, k < 603 → xkey (xdec k).1 (xdec k).2.1 (xdec k).2.2 = k := by decide +kernel
def XG (X : xX) (G : xG) (H : Heap) (locs : List Loc) : Prop := XH X xsh 603 (xval (xB X) G) H locs
def xup4 (G : xG) (r c i w : Nat) (v : Int32) : xG := fun r' c' i' => if r' = r ∧ c' = c ∧ i' = i then va_up (G r c i) w v else G r' c' i'
/-- the key's kind: its shape, its place -/
def xF (r c i kd N : Nat) : Prop := xkey r c i < 603 ∧ xsh (xkey r c i) = (kd, N) ∧ xdec (xkey r c i) = (r, c, i)
theorem xval_int {B : Nat} {G : xG} {r c i kd N w : Nat} (h : xF r c i kd N) (hr : xro (xkey r c i) w = none) : xval B G (xkey r c i) w = .int (G r c i w) := by
  unfold xval
  rw [hr, h.2.2]
theorem xval_ref {B : Nat} {G : xG} {k w t : Nat} (hr : xro k w = some t) : xval B G k w = .ref (B + t) := by
  unfold xval
  rw [hr]
theorem XG.put {X : xX} {G : xG} {H : Heap} {locs : List Loc} {r c i kd N w : Nat} {v : Int32} (hF : xF r c i kd N) (hr : xro (xkey r c i) w = none) (h : XH X xsh 603 (xup2 (xval (xB X) G) (xkey r c i) w (.int v)) H locs) : XG X (xup4 G r c i w v) H locs := by
  refine h.to (fun k hk j hj => ?_)
  unfold xup2
  by_cases e : k = xkey r c i
  · subst e
    rw [if_pos rfl]
    by_cases e2 : j = w
    · subst e2
      rw [if_pos rfl, xval_int hF hr]
      simp [xup4, va_up]
    · rw [if_neg e2]
      unfold xval
      cases hq : xro (xkey r c i) j with
      | some t => rfl
      | none =>
        simp only [hF.2.2]
        simp [xup4, va_up, e2]
  · rw [if_neg e]
    unfold xval
    cases hq : xro k j with
    | some t => rfl
    | none =>
      simp only []
      have hne : ¬ ((xdec k).1 = r ∧ (xdec k).2.1 = c ∧ (xdec k).2.2 = i) := by
        rintro ⟨h1, h2, h3⟩
        apply e
        rw [← h1, ← h2, ← h3]
        exact (xdec_inv k hk).symm
      simp only [xup4, if_neg hne]
theorem XG.to {X : xX} {G G' : xG} {H : Heap} {locs : List Loc} (h : XG X G H locs) (hg : ∀ k, k < 603 → ∀ j, j < (xsh k).2 → xro k j = none → G (xdec k).1 (xdec k).2.1 (xdec k).2.2 j = G' (xdec k).1 (xdec k).2.1 (xdec k).2.2 j) : XG X G' H locs := by
  refine XH.to h (fun k hk j hj => ?_)
  unfold xval
  cases hq : xro k j with
  | some t => rfl
  | none => simp only [hg k hk j hj hq]
theorem XG.cong {X : xX} {G G' : xG} {H : Heap} {locs : List Loc} (h : XG X G H locs) (hg : G = G') : XG X G' H locs := hg ▸ h
/-! the kinds of keys -/
theorem xF_street : ∀ r, r < 11 → xkey r 0 0 < 603 ∧ xsh (xkey r 0 0) = (4, 8) ∧ xdec (xkey r 0 0) = (r, 0, 0) := by decide +kernel
theorem xF_sett : ∀ r, r < 11 → xkey r 1 0 < 603 ∧ xsh (xkey r 1 0) = (8, 6) ∧ xdec (xkey r 1 0) = (r, 1, 0) := by decide +kernel
theorem xF_lamp : ∀ r, r < 11 → ∀ i, i < 16 → xkey r 2 i < 603 ∧ xsh (xkey r 2 i) = (2, 13) ∧ xdec (xkey r 2 i) = (r, 2, i) := by decide +kernel
theorem xF_house : ∀ r, r < 11 → ∀ i, i < 8 → xkey r 3 i < 603 ∧ xsh (xkey r 3 i) = (1, 2) ∧ xdec (xkey r 3 i) = (r, 3, i) := by decide +kernel
theorem xF_walker : ∀ r, r < 11 → ∀ i, i < 8 → xkey r 4 i < 603 ∧ xsh (xkey r 4 i) = (5, 9) ∧ xdec (xkey r 4 i) = (r, 4, i) := by decide +kernel
theorem xF_gsteps : ∀ r, r < 11 → ∀ i, i < 8 → xkey r 5 i < 603 ∧ xsh (xkey r 5 i) = (8, 6) ∧ xdec (xkey r 5 i) = (r, 5, i) := by decide +kernel
theorem xF_gpauses : ∀ r, r < 11 → ∀ i, i < 8 → xkey r 6 i < 603 ∧ xsh (xkey r 6 i) = (8, 6) ∧ xdec (xkey r 6 i) = (r, 6, i) := by decide +kernel
theorem xF_lamps : ∀ r, r < 11 → xkey r 7 2 < 603 ∧ xsh (xkey r 7 2) = (12, 16) := by decide +kernel
theorem xF_houses : ∀ r, r < 11 → xkey r 7 3 < 603 ∧ xsh (xkey r 7 3) = (13, 8) := by decide +kernel
theorem xF_walkers : ∀ r, r < 11 → xkey r 7 4 < 603 ∧ xsh (xkey r 7 4) = (14, 8) := by decide +kernel
theorem xr_street : ∀ r, r < 11 → xro (xkey r 0 0) 0 = some (xkey r 1 0) ∧ xro (xkey r 0 0) 1 = some (xkey r 7 2) ∧ xro (xkey r 0 0) 2 = some (xkey r 7 3) ∧ xro (xkey r 0 0) 3 = some (xkey r 7 4) ∧ xro (xkey r 0 0) 4 = none ∧ xro (xkey r 0 0) 5 = none ∧ xro (xkey r 0 0) 6 = none ∧ xro (xkey r 0 0) 7 = none := by decide +kernel
theorem xr_sett : ∀ r, r < 11 → ∀ w, w < 6 → xro (xkey r 1 0) w = none := by decide +kernel
theorem xr_lamp : ∀ r, r < 11 → ∀ i, i < 16 → ∀ w, w < 13 → xro (xkey r 2 i) w = none := by decide +kernel
theorem xr_house : ∀ r, r < 11 → ∀ i, i < 8 → ∀ w, w < 2 → xro (xkey r 3 i) w = none := by decide +kernel
theorem xr_walker : ∀ r, r < 11 → ∀ i, i < 8 → xro (xkey r 4 i) 0 = some (xkey r 5 i) ∧ xro (xkey r 4 i) 1 = some (xkey r 6 i) ∧ ∀ w, w < 9 → 2 ≤ w → xro (xkey r 4 i) w = none := by decide +kernel
theorem xr_gsteps : ∀ r, r < 11 → ∀ i, i < 8 → ∀ w, w < 6 → xro (xkey r 5 i) w = none := by decide +kernel
theorem xr_gpauses : ∀ r, r < 11 → ∀ i, i < 8 → ∀ w, w < 6 → xro (xkey r 6 i) w = none := by decide +kernel
theorem xr_lamps : ∀ r, r < 11 → ∀ i, i < 16 → xro (xkey r 7 2) i = some (xkey r 2 i) := by decide +kernel
theorem xr_houses : ∀ r, r < 11 → ∀ i, i < 8 → xro (xkey r 7 3) i = some (xkey r 3 i) := by decide +kernel
theorem xr_walkers : ∀ r, r < 11 → ∀ i, i < 8 → xro (xkey r 7 4) i = some (xkey r 4 i) := by decide +kernel
theorem xF_misc : ∀ c, c < 5 → xkey 11 c 0 < 603 ∧ xdec (xkey 11 c 0) = (11, c, 0) := by decide +kernel
theorem xF_model : ∀ c, c < 12 → xkey 12 c 0 < 603 ∧ xdec (xkey 12 c 0) = (12, c, 0) := by decide +kernel
theorem xr_model : ∀ c, c < 12 → 1 ≤ c → ∀ w, xro (xkey 12 c 0) w = none := by
  intro c hc h1 w
  have : xkey 12 c 0 = 591 + c := by simp [xkey]
  rw [this]
  unfold xro
  simp only [show ¬ (591 + c = 0) by omega, show ¬ (591 + c < 107) by omega, show ¬ (591 + c = 107) by omega, show ¬ (591 + c = 108) by omega, show ¬ (591 + c = 109) by omega, show ¬ (591 + c = 110) by omega, show ¬ (591 + c < 482) by omega, show ¬ (591 + c = 482) by omega, show ¬ (591 + c < 485) by omega, show ¬ (591 + c < 591) by omega, show ¬ (591 + c = 591) by omega, if_false]
