/-! ===== all streets of the class as one function S region, its other cells μ, the model's ρ ===== -/
def xGl (S : Nat → xS) (μ ρ : xS) : xG := fun r => if r = 11 then μ else if r = 12 then ρ else S r
theorem xGl_at {S : Nat → xS} {μ ρ : xS} {r : Nat} (hr : r < 11) : xGl S μ ρ r = S r := by
  unfold xGl
  rw [if_neg (by omega), if_neg (by omega)]
theorem xGl_up {S : Nat → xS} {μ ρ : xS} {r : Nat} {σ : xS} (hr : r < 11) : va_up (xGl S μ ρ) r σ = xGl (va_up S r σ) μ ρ := by
  funext k
  unfold xGl va_up
  by_cases h : k = r
  · subst h
    rw [if_pos rfl, if_neg (by omega), if_neg (by omega), if_pos rfl]
  · rw [if_neg h, if_neg h]
theorem xGl_11 {S : Nat → xS} {μ ρ μ' : xS} : va_up (xGl S μ ρ) 11 μ' = xGl S μ' ρ := by
  funext k
  unfold xGl va_up
  by_cases h : k = 11 <;> simp [h]
theorem xGl_12 {S : Nat → xS} {μ ρ ρ' : xS} : va_up (xGl S μ ρ) 12 ρ' = xGl S μ ρ' := by
  funext k
  unfold xGl va_up
  by_cases h : k = 12
  · simp [h]
  · by_cases h2 : k = 11 <;> simp [h, h2]
/-- a street's parts, each by its own -/
def xN (σ : xS) : xS := xSt (σ 0 0) (σ 1 0) (σ 2) (σ 3) (σ 4) (σ 5) (σ 6)
theorem xdec_range : ∀ k, k < 603 → (xdec k).1 < 11 → ((xdec k).2.1 = 0 ∧ (xdec k).2.2 = 0) ∨ ((xdec k).2.1 = 1 ∧ (xdec k).2.2 = 0) ∨ (2 ≤ (xdec k).2.1 ∧ (xdec k).2.1 ≤ 6) ∨ ((xdec k).2.1 = 7 ∧ ∀ w, w < (xsh k).2 → (xro k w).isSome = true) := by decide +kernel
theorem xN_eq {σ : xS} {c i : Nat} (h : (c = 0 ∧ i = 0) ∨ (c = 1 ∧ i = 0) ∨ (2 ≤ c ∧ c ≤ 6)) : xN σ c i = σ c i := by
  rcases h with ⟨rfl, rfl⟩ | ⟨rfl, rfl⟩ | ⟨h1, h2⟩
  · rfl
  · rfl
  · rcases (show c = 2 ∨ c = 3 ∨ c = 4 ∨ c = 5 ∨ c = 6 by omega) with rfl | rfl | rfl | rfl | rfl <;> rfl
theorem XG.norm {X : xX} {G : xG} {r : Nat} {σ : xS} {H : Heap} {locs : List Loc} (hr : r < 11) : XG X (va_up G r (xN σ)) H locs ↔ XG X (va_up G r σ) H locs := by
  have key : ∀ k, k < 603 → ∀ j, j < (xsh k).2 → xro k j = none → va_up G r (xN σ) (xdec k).1 (xdec k).2.1 (xdec k).2.2 j = va_up G r σ (xdec k).1 (xdec k).2.1 (xdec k).2.2 j := by
    intro k hk j hj hq
    unfold va_up
    by_cases e : (xdec k).1 = r
    · rw [if_pos e, if_pos e]
      rcases xdec_range k hk (by omega) with h | h | h | ⟨-, h⟩
      · rw [xN_eq (Or.inl h)]
      · rw [xN_eq (Or.inr (Or.inl h))]
      · rw [xN_eq (Or.inr (Or.inr h))]
      · have := h j hj
        rw [hq] at this
        cases this
    · rw [if_neg e, if_neg e]
  exact ⟨fun h => h.to key, fun h => h.to (fun k hk j hj hq => (key k hk j hj hq).symm)⟩
theorem va_up_eq {α : Type} {F : Nat → α} {i : Nat} {a : α} (h : F i = a) : va_up F i a = F := by rw [← h]; exact xus
theorem XG.inS {X : xX} {S : Nat → xS} {μ ρ : xS} {H : Heap} {locs : List Loc} (h : XG X (xGl S μ ρ) H locs) (r : Nat) (σ : xS) (hr : r < 11) (hσ : S r = σ) : XR X (xGl S μ ρ) r (xSt (σ 0 0) (σ 1 0) (σ 2) (σ 3) (σ 4) (σ 5) (σ 6)) H locs := by
  have h2 : XG X (va_up (xGl S μ ρ) r σ) H locs := by rw [va_up_eq (by rw [xGl_at hr, hσ])]; exact h
  exact (XG.norm hr).mpr h2
theorem XG.unS {X : xX} {S : Nat → xS} {μ ρ : xS} {H : Heap} {locs : List Loc} {r : Nat} {σ : xS} (hr : r < 11) (hσ : S r = σ) (h : XR X (xGl S μ ρ) r (xSt (σ 0 0) (σ 1 0) (σ 2) (σ 3) (σ 4) (σ 5) (σ 6)) H locs) : XG X (xGl S μ ρ) H locs := by
  have h2 : XG X (va_up (xGl S μ ρ) r σ) H locs := (XG.norm hr).mp h
  rw [va_up_eq (by rw [xGl_at hr, hσ])] at h2
  exact h2
theorem XG.outS {X : xX} {S : Nat → xS} {μ ρ : xS} {H : Heap} {locs : List Loc} {r : Nat} {σ : xS} (hr : r < 11) (h : XR X (xGl S μ ρ) r σ H locs) : XG X (xGl (va_up S r σ) μ ρ) H locs := by
  unfold XR at h
  rw [xGl_up hr] at h
  exact h
theorem XG.rdS {X : xX} {S : Nat → xS} {μ ρ : xS} {H : Heap} {locs : List Loc} (h : XG X (xGl S μ ρ) H locs) (r : Nat) (σ : xS) (hr : r < 11) (hσ : S r = σ) : XR X (xGl S μ ρ) r σ H locs := by
  unfold XR
  rw [va_up_eq (by rw [xGl_at hr, hσ])]
  exact h
theorem XG.in11 {X : xX} {S : Nat → xS} {μ ρ : xS} {H : Heap} {locs : List Loc} (h : XG X (xGl S μ ρ) H locs) : XR X (xGl S μ ρ) 11 μ H locs := by
  unfold XR
  rw [xGl_11]
  exact h
theorem XG.out11 {X : xX} {S : Nat → xS} {μ ρ μ' : xS} {H : Heap} {locs : List Loc} (h : XR X (xGl S μ ρ) 11 μ' H locs) : XG X (xGl S μ' ρ) H locs := by
  unfold XR at h
  rw [xGl_11] at h
  exact h
theorem XG.in12 {X : xX} {S : Nat → xS} {μ ρ : xS} {H : Heap} {locs : List Loc} (h : XG X (xGl S μ ρ) H locs) : XR X (xGl S μ ρ) 12 ρ H locs := by
  unfold XR
  rw [xGl_12]
  exact h
theorem XG.out12 {X : xX} {S : Nat → xS} {μ ρ ρ' : xS} {H : Heap} {locs : List Loc} (h : XR X (xGl S μ ρ) 12 ρ' H locs) : XG X (xGl S μ ρ') H locs := by
  unfold XR at h
  rw [xGl_12] at h
  exact h
theorem xF_mi5 : xkey 11 5 0 < 603 ∧ xsh (xkey 11 5 0) = (6, 6) := by decide +kernel
theorem xF_mi5s : xkey 11 5 107 < 603 ∧ xsh (xkey 11 5 107) = (11, 2) := by decide +kernel
theorem xF_mi5t : xkey 11 5 110 < 603 ∧ xsh (xkey 11 5 110) = (11, 7) := by decide +kernel
theorem xr_slots : ∀ i, i < 2 → xro (xkey 11 5 107) i = some (xkey (9 + i) 0 0) := by decide +kernel
theorem xr_states : ∀ i, i < 7 → xro (xkey 11 5 110) i = some (xkey (2 + i) 0 0) := by decide +kernel
def cN (σ : xS) : Nat := (σ 0 0 4).toNatClampNeg
def cH (σ : xS) : Nat := (σ 0 0 5).toNatClampNeg
def cW (σ : xS) : Nat := (σ 0 0 6).toNatClampNeg
def SokF (f : Nat → Int32) : Prop := f 4 = nI (f 4).toNatClampNeg ∧ (f 4).toNatClampNeg ≤ 16 ∧ f 5 = nI (f 5).toNatClampNeg ∧ (f 5).toNatClampNeg ≤ 8 ∧ f 6 = nI (f 6).toNatClampNeg ∧ (f 6).toNatClampNeg ≤ 8
def WokR (ω : Nat → Int32) : Prop := (ω 2).toNatClampNeg ≤ 6 ∧ ω 2 = nI (ω 2).toNatClampNeg ∧ (ω 5 = 0 ∨ ω 5 = 1)
def Sok (σ : xS) : Prop := SokF (σ 0 0) ∧ ∀ j, j < 8 → WokR (σ 4 j)
theorem Sok.hn {σ : xS} (h : Sok σ) : σ 0 0 4 = nI (cN σ) := h.1.1
theorem Sok.hn16 {σ : xS} (h : Sok σ) : cN σ ≤ 16 := h.1.2.1
theorem Sok.hh {σ : xS} (h : Sok σ) : σ 0 0 5 = nI (cH σ) := h.1.2.2.1
theorem Sok.hh8 {σ : xS} (h : Sok σ) : cH σ ≤ 8 := h.1.2.2.2.1
theorem Sok.hw {σ : xS} (h : Sok σ) : σ 0 0 6 = nI (cW σ) := h.1.2.2.2.2.1
theorem Sok.hw8 {σ : xS} (h : Sok σ) : cW σ ≤ 8 := h.1.2.2.2.2.2
theorem Sok.hgq {σ : xS} (h : Sok σ) : ∀ j, j < 8 → (σ 4 j 2).toNatClampNeg ≤ 6 ∧ σ 4 j 2 = nI (σ 4 j 2).toNatClampNeg := fun j hj => ⟨(h.2 j hj).1, (h.2 j hj).2.1⟩
theorem Sok.hbo {σ : xS} (h : Sok σ) : ∀ j, j < 8 → σ 4 j 5 = 0 ∨ σ 4 j 5 = 1 := fun j hj => (h.2 j hj).2.2
def s_forgetLastTick  (σ : xS) : xS := xSt (σ 0 0) (σ 1 0) (LForget (cN σ) (σ 2)) (σ 3) (σ 4) (σ 5) (σ 6)
def r_hasLamp (x : Int32) (σ : xS) : Int32 := Fhas (cN σ) x
def r_hasHouse (x : Int32) (σ : xS) : Int32 := Fhas (cH σ) x
def r_hasWalker (x : Int32) (σ : xS) : Int32 := Fhas (cW σ) x
def r_hears (a : Nat) (b : Nat) (σ : xS) : Int32 := Fhears ((σ 1 0) 1) (σ 2) a b
def s_spreadCough (a : Nat) (rk : Int32) (σ : xS) : xS := xSt (σ 0 0) (σ 1 0) ((Fspread (cN σ) (σ 1 0) a rk (σ 2)).1) (σ 3) (σ 4) (σ 5) (σ 6)
def r_spreadCough (a : Nat) (rk : Int32) (σ : xS) : Int32 := (Fspread (cN σ) (σ 1 0) a rk (σ 2)).2
def s_coughThoseWhoWaited  (σ : xS) : xS := xSt (σ 0 0) (σ 1 0) (LWaited (cN σ) (σ 1 0) (σ 2)) (σ 3) (σ 4) (σ 5) (σ 6)
def r_lampsThatAre (d : Int32) (σ : xS) : Int32 := Fthat (cN σ) d (σ 2)
def r_lampsThatLight (x : Int32) (σ : xS) : Int32 := Flit (cN σ) x (σ 2)
def r_seesWalker (a : Nat) (σ : xS) : Int32 := Fsees (cW σ) (σ 1 0) (σ 4) ((σ 2) a)
def s_moveWalkers  (σ : xS) : xS := xSt (σ 0 0) (σ 1 0) (σ 2) (σ 3) ((FMove (cW σ) (σ 4) (σ 5) (σ 6)).1) ((FMove (cW σ) (σ 4) (σ 5) (σ 6)).2.1) ((FMove (cW σ) (σ 4) (σ 5) (σ 6)).2.2)
def s_wakeThoseWhoSee  (σ : xS) : xS := xSt (σ 0 0) (σ 1 0) (LSee (cN σ) (cW σ) (σ 1 0) (σ 4) (σ 2)) (σ 3) (σ 4) (σ 5) (σ 6)
def s_fadeLamps  (σ : xS) : xS := xSt (σ 0 0) (σ 1 0) (LFade (cN σ) ((σ 1 0) 3) (σ 2)) (σ 3) (σ 4) (σ 5) (σ 6)
def r_isDisturbed (a : Nat) (σ : xS) : Int32 := Fdist2 (cN σ) ((σ 3) a 0) (σ 2)
def s_blameNearest (x : Int32) (σ : xS) : xS := xSt (σ 0 0) (σ 1 0) (LBlame (cN σ) x (σ 2)) (σ 3) (σ 4) (σ 5) (σ 6)
def s_tally  (σ : xS) : xS := xSt (σ 0 0) (σ 1 0) ((Fdark (cN σ) (cW σ) (LUse (cN σ) (σ 2)) (σ 4)).1) (ODist (cN σ) (cH σ) (Fdark (cN σ) (cW σ) (LUse (cN σ) (σ 2)) (σ 4)).1 (σ 3)) ((Fdark (cN σ) (cW σ) (LUse (cN σ) (σ 2)) (σ 4)).2) (σ 5) (σ 6)
def r_lampsThatHear (a : Nat) (σ : xS) : Int32 := Fhearers (cN σ) ((σ 1 0) 1) a (σ 2)
def r_walkersInStreet  (σ : xS) : Int32 := Finstreet (cW σ) (σ 4)
def r_darkTicks  (σ : xS) : Int32 := Fsum (cW σ) 7 (σ 4)
def r_lightUnits  (σ : xS) : Int32 := Fsum (cN σ) 7 (σ 2)
def r_disturbedTicks  (σ : xS) : Int32 := Fsum (cH σ) 1 (σ 3)
def r_coughsSoFar  (σ : xS) : Int32 := Fsum (cN σ) 8 (σ 2)
def s_changeSetting (x : Int32) (v : Int32) (σ : xS) : xS := xSt (σ 0 0) (FsetS x v (σ 1 0)) (σ 2) (σ 3) (σ 4) (σ 5) (σ 6)
def r_changeSetting (x : Int32) (v : Int32) (σ : xS) : Int32 := FsetR x v (σ 1 0)
def s_mendLamp (x : Int32) (h : Int32) (σ : xS) : xS := xSt (σ 0 0) (σ 1 0) (LMend (cN σ) x h (σ 2)) (σ 3) (σ 4) (σ 5) (σ 6)
def r_mendLamp (x : Int32) (h : Int32) (σ : xS) : Int32 := FmendR (cN σ) x h (σ 2)
def s_coughByOrder (x : Int32) (σ : xS) : xS := xSt (σ 0 0) (σ 1 0) (LCough (cN σ) (σ 1 0) x (σ 2)) (σ 3) (σ 4) (σ 5) (σ 6)
def r_coughByOrder (x : Int32) (σ : xS) : Int32 := FcoughR (cN σ) (σ 1 0) x (σ 2)
def s_addHouse (x : Int32) (σ : xS) : xS := xSt (FhouseF x (cH σ) (σ 0 0)) (σ 1 0) (σ 2) (OHouse x (cH σ) (σ 3)) (σ 4) (σ 5) (σ 6)
def r_addHouse (x : Int32) (σ : xS) : Int32 := FhouseR x (cH σ)
def s_addWalker (x : Int32) (y : Int32) (σ : xS) : xS := xSt (Fwalker x y (cW σ) (σ 0 0) (σ 0 0) (va_up (σ 0 0) 6 (nI (cW σ) + 1))) (σ 1 0) (σ 2) (σ 3) (Fwalker x y (cW σ) (σ 4) (σ 4) (va_up (σ 4) (cW σ) (FplaceW x y ((σ 4) (cW σ))))) (σ 5) (σ 6)
def r_addWalker (x : Int32) (y : Int32) (σ : xS) : Int32 := Fwalker x y (cW σ) (-2) (-4) (nI (cW σ))
def s_addLamp (x : Int32) (y : Int32) (σ : xS) : xS := xSt (Flamp x y (cN σ) (σ 2) (σ 0 0) (σ 0 0) (σ 0 0) (va_up (σ 0 0) 4 (nI (cN σ) + 1))) (σ 1 0) (Flamp x y (cN σ) (σ 2) (σ 2) (σ 2) (σ 2) (va_up (σ 2) (cN σ) (Fplace x y ((σ 2) (cN σ))))) (σ 3) (σ 4) (σ 5) (σ 6)
def r_addLamp (x : Int32) (y : Int32) (σ : xS) : Int32 := Flamp x y (cN σ) (σ 2) (-2) (-4) (-5) (nI (cN σ))
def s_giveGoal (x : Int32) (a : Int32) (b : Int32) (σ : xS) : xS := xSt (σ 0 0) (σ 1 0) (σ 2) (σ 3) (Fgoal (cW σ) x a b (σ 4) (σ 4) (va_up (σ 4) x.toNatClampNeg (FaddW ((σ 4) x.toNatClampNeg)))) (Fgoal (cW σ) x a b (σ 5) (σ 5) (va_up (σ 5) x.toNatClampNeg (FaddP ((fun j => (σ 4 j 2).toNatClampNeg) x.toNatClampNeg) a ((σ 4) x.toNatClampNeg) ((σ 5) x.toNatClampNeg)))) (Fgoal (cW σ) x a b (σ 6) (σ 6) (va_up (σ 6) x.toNatClampNeg (FaddP ((fun j => (σ 4 j 2).toNatClampNeg) x.toNatClampNeg) b ((σ 4) x.toNatClampNeg) ((σ 6) x.toNatClampNeg))))
def r_giveGoal (x : Int32) (a : Int32) (b : Int32) (σ : xS) : Int32 := Fgoal (cW σ) x a b (-1) (-2) (FaddR ((σ 4) x.toNatClampNeg))
def r_hasLampsApart (x : Int32) (σ : xS) : Int32 := Fapart (cN σ) x (σ 2)
def r_tellOfHouse (a : Nat) (x : Int32) (σ : xS) : Int32 := FtellH (cN σ) (σ 2) ((σ 3) a) x
def r_tellOfWalker (a : Nat) (x : Int32) (σ : xS) : Int32 := FtellW (cN σ) (σ 2) ((σ 4) a) ((σ 5) a) x
def r_total (x : Int32) (σ : xS) : Int32 := Ftotal (cN σ) (cH σ) (cW σ) (σ 2) (σ 3) (σ 4) x
def s_letPass (x : Int32) (σ : xS) : xS := xSt ((Fpass (cN σ) (cH σ) (cW σ) (σ 1 0) x ((σ 0 0), (σ 2), (σ 3), (σ 4), (σ 5), (σ 6))).1) (σ 1 0) ((Fpass (cN σ) (cH σ) (cW σ) (σ 1 0) x ((σ 0 0), (σ 2), (σ 3), (σ 4), (σ 5), (σ 6))).2.1) ((Fpass (cN σ) (cH σ) (cW σ) (σ 1 0) x ((σ 0 0), (σ 2), (σ 3), (σ 4), (σ 5), (σ 6))).2.2.1) ((Fpass (cN σ) (cH σ) (cW σ) (σ 1 0) x ((σ 0 0), (σ 2), (σ 3), (σ 4), (σ 5), (σ 6))).2.2.2.1) ((Fpass (cN σ) (cH σ) (cW σ) (σ 1 0) x ((σ 0 0), (σ 2), (σ 3), (σ 4), (σ 5), (σ 6))).2.2.2.2.1) ((Fpass (cN σ) (cH σ) (cW σ) (σ 1 0) x ((σ 0 0), (σ 2), (σ 3), (σ 4), (σ 5), (σ 6))).2.2.2.2.2)
def r_letPass (x : Int32) (σ : xS) : Int32 := FpassR (cN σ) (cH σ) (cW σ) (σ 1 0) x ((σ 0 0), (σ 2), (σ 3), (σ 4), (σ 5), (σ 6))
def s_become (a : xS) (σ : xS) : xS := xSt (FheadC (cN a) (cH a) (cW a) (a 0 0 7) (σ 0 0)) (Fcpy6 (a 1 0) (σ 1 0)) (LCopy (cN a) (a 2) (σ 2)) (OCopy (cH a) (a 3) (σ 3)) (YCopy (cW a) (a 4) (σ 4)) (PCopy (cW a) (a 5) (σ 5)) (PCopy (cW a) (a 6) (σ 6))
