/-! ===== what a walker's methods do to its rows (ω fields, γ steps, π pauses of the goals), a house's to its own ===== -/
def FfinW (ω : Nat → Int32) : Nat → Int32 := va_up (va_up (va_up ω 6 (-6)) 2 (ω 2 - 1)) 5 (if ω 2 - 1 = 0 then 1 else 0)
def Fshift (γ : Nat → Int32) : Nat → Int32 := va_cpy γ γ 1 0 5
def FarrW (ω π : Nat → Int32) : Nat → Int32 := if 0 < π 0 then va_up ω 6 0 else FfinW ω
def FarrP (π γ : Nat → Int32) : Nat → Int32 := if 0 < π 0 then γ else Fshift γ
def Fstep (ω γ : Nat → Int32) : Int32 := xmax (-(ω 4)) (xmin (ω 4) (γ 0 - ω 3))
def Fgone (ω γ : Nat → Int32) : Nat → Int32 := va_up (va_up ω 3 (ω 3 + Fstep ω γ)) 8 (ω 8 + xabs (Fstep ω γ))
def FgoW (ω γ π : Nat → Int32) : Nat → Int32 := if ω 2 = 0 then ω else if ¬ ω 6 = -6 then (if π 0 ≤ ω 6 + 1 then FfinW (va_up ω 6 (ω 6 + 1)) else va_up ω 6 (ω 6 + 1)) else if Fstep ω γ = γ 0 - ω 3 then FarrW (Fgone ω γ) π else Fgone ω γ
def FgoP (ω γ π ρ : Nat → Int32) : Nat → Int32 := if ω 2 = 0 then ρ else if ¬ ω 6 = -6 then (if π 0 ≤ ω 6 + 1 then Fshift ρ else ρ) else if Fstep ω γ = γ 0 - ω 3 then FarrP π ρ else ρ
def FplaceW (a b : Int32) (ω : Nat → Int32) : Nat → Int32 := va_up (va_up (va_up (va_up (va_up (va_up (va_up ω 2 0) 3 a) 4 b) 5 0) 6 (-6)) 7 0) 8 0
def FaddR (ω : Nat → Int32) : Int32 := if 6 ≤ ω 2 then -4 else if ¬ ω 5 = 0 then -5 else ω 2 + 1
def FaddW (ω : Nat → Int32) : Nat → Int32 := if 6 ≤ ω 2 then ω else if ¬ ω 5 = 0 then ω else va_up ω 2 (ω 2 + 1)
def FaddP (g : Nat) (a : Int32) (ω γ : Nat → Int32) : Nat → Int32 := if 6 ≤ ω 2 then γ else if ¬ ω 5 = 0 then γ else va_up γ g a
theorem xg6 {g : Nat} {x : Int32} (hg : x = nI g) (hg6 : g ≤ 6) (c : x < (6 : Int32)) : g < 6 := by
  rcases Nat.lt_or_ge g 6 with h | h
  · exact h
  · have : g = 6 := by omega
    subst this
    rw [hg] at c
    exact absurd c (by decide)
theorem hdV_yX5_place : yX5_place.cls = RX5 ∧ yX5_place.cls ≠ "java/lang/invoke/MethodHandle" ∧ yX5_place.cls ≠ "java/lang/invoke/VarHandle" ∧ (parseMethodDescriptor yX5_place.desc).map (fun d => d.parameters.length) = some 2 := by decide +kernel
theorem hdV_yX5_finishGoal : yX5_finishGoal.cls = RX5 ∧ yX5_finishGoal.cls ≠ "java/lang/invoke/MethodHandle" ∧ yX5_finishGoal.cls ≠ "java/lang/invoke/VarHandle" ∧ (parseMethodDescriptor yX5_finishGoal.desc).map (fun d => d.parameters.length) = some 0 := by decide +kernel
theorem hdV_yX5_arrive : yX5_arrive.cls = RX5 ∧ yX5_arrive.cls ≠ "java/lang/invoke/MethodHandle" ∧ yX5_arrive.cls ≠ "java/lang/invoke/VarHandle" ∧ (parseMethodDescriptor yX5_arrive.desc).map (fun d => d.parameters.length) = some 0 := by decide +kernel
theorem hdV_yX5_go : yX5_go.cls = RX5 ∧ yX5_go.cls ≠ "java/lang/invoke/MethodHandle" ∧ yX5_go.cls ≠ "java/lang/invoke/VarHandle" ∧ (parseMethodDescriptor yX5_go.desc).map (fun d => d.parameters.length) = some 0 := by decide +kernel
theorem hdV_yX5_addGoal : yX5_addGoal.cls = RX5 ∧ yX5_addGoal.cls ≠ "java/lang/invoke/MethodHandle" ∧ yX5_addGoal.cls ≠ "java/lang/invoke/VarHandle" ∧ (parseMethodDescriptor yX5_addGoal.desc).map (fun d => d.parameters.length) = some 2 := by decide +kernel
theorem hdV_yX1_place : yX1_place.cls = RX1 ∧ yX1_place.cls ≠ "java/lang/invoke/MethodHandle" ∧ yX1_place.cls ≠ "java/lang/invoke/VarHandle" ∧ (parseMethodDescriptor yX1_place.desc).map (fun d => d.parameters.length) = some 1 := by decide +kernel
set_option maxHeartbeats 4000000 in
set_option maxRecDepth 100000 in
theorem c_X5_place (l : Launch) (X : xX) (G : xG) {r i : Nat} {f sg : Nat → Int32} {L O Y P Q : Nat → Nat → Int32} {ω γ π : Nat → Int32} {a b : Int32} (hr : r < 11) (hi : i < 8) {ω' : Nat → Int32} (ho0 : (FplaceW a b ω) = ω') : XC l yX5_place cX5_place 3 none 0 0 0 0 X xsh [.ref (xB X + xkey r 4 i), .int a, .int b] 603 603 (xval (xB X) (va_up G r (xSt f sg L O (va_up Y i ω) (va_up P i γ) (va_up Q i π)))) (xval (xB X) (va_up G r (xSt f sg L O (va_up Y i ω') (va_up P i γ) (va_up Q i π)))) none := by
  refine XC.of RX5 "place" [(0, .ref (xB X + xkey r 4 i)), (1, .int a), (2, .int b)] (by decide) rfl rfl (Nat.le_of_ble_eq_true rfl) rfl ?_
  intro p e s m args below meth c ls hx hb hret hml hts hown hlocks hnm hK hW hl
  have hW : XR X G r (xSt f sg L O (va_up Y i ω) (va_up P i γ) (va_up Q i π)) s.heap [] := hW
  obtain ⟨Q0, hQ0⟩ : ∃ z, z = MQ below (xQ X xsh 603 (xval (xB X) (va_up G r (xSt f sg L O (va_up Y i ω') (va_up P i γ) (va_up Q i π)))) none) args s 0 0 (fun q => xB X ≤ q) := ⟨_, rfl⟩
  rw [← hQ0]
  refine lv_aload_n hx hb dX5_place_0 rfl (lv_at hl 0 rfl) ?_
  refine lv_iconst (v := 0) hx hb dX5_place_1 (by decide) ?_
  refine r_put hx hb hts hown hK hW (C := RX5) (T := TX5) (xF_walker r hr i hi) inlX5 tyX5 tyX5_ok nmX5 rfl (by decide) 2 (by decide) ((xr_walker r hr i hi).2.2 2 (by decide) (by decide)) xw_133 rfl rfl rfl rfl xSt4f dX5_place_2 (fun H locs hW => ?_)
  refine lv_aload_n hx hb dX5_place_5 rfl (lv_at hl 0 rfl) ?_
  refine lv_iload_n hx hb dX5_place_6 rfl (lv_at hl 1 rfl) ?_
  refine r_put hx hb hts hown hK hW (C := RX5) (T := TX5) (xF_walker r hr i hi) inlX5 tyX5 tyX5_ok nmX5 rfl (by decide) 3 (by decide) ((xr_walker r hr i hi).2.2 3 (by decide) (by decide)) xw_134 rfl rfl rfl rfl xSt4f dX5_place_7 (fun H locs hW => ?_)
  refine lv_aload_n hx hb dX5_place_10 rfl (lv_at hl 0 rfl) ?_
  refine lv_iload_n hx hb dX5_place_11 rfl (lv_at hl 2 rfl) ?_
  refine r_put hx hb hts hown hK hW (C := RX5) (T := TX5) (xF_walker r hr i hi) inlX5 tyX5 tyX5_ok nmX5 rfl (by decide) 4 (by decide) ((xr_walker r hr i hi).2.2 4 (by decide) (by decide)) xw_135 rfl rfl rfl rfl xSt4f dX5_place_12 (fun H locs hW => ?_)
  refine lv_aload_n hx hb dX5_place_15 rfl (lv_at hl 0 rfl) ?_
  refine lv_iconst (v := 0) hx hb dX5_place_16 (by decide) ?_
  refine r_put hx hb hts hown hK hW (C := RX5) (T := TX5) (xF_walker r hr i hi) inlX5 tyX5 tyX5_ok nmX5 rfl (by decide) 5 (by decide) ((xr_walker r hr i hi).2.2 5 (by decide) (by decide)) xw_136 rfl rfl rfl rfl xSt4f dX5_place_17 (fun H locs hW => ?_)
  refine lv_aload_n hx hb dX5_place_20 rfl (lv_at hl 0 rfl) ?_
  refine lv_bipush (v := (-6)) hx hb dX5_place_21 (by decide) ?_
  refine r_put hx hb hts hown hK hW (C := RX5) (T := TX5) (xF_walker r hr i hi) inlX5 tyX5 tyX5_ok nmX5 rfl (by decide) 6 (by decide) ((xr_walker r hr i hi).2.2 6 (by decide) (by decide)) xw_137 rfl rfl rfl rfl xSt4f dX5_place_23 (fun H locs hW => ?_)
  refine lv_aload_n hx hb dX5_place_26 rfl (lv_at hl 0 rfl) ?_
  refine lv_iconst (v := 0) hx hb dX5_place_27 (by decide) ?_
  refine r_put hx hb hts hown hK hW (C := RX5) (T := TX5) (xF_walker r hr i hi) inlX5 tyX5 tyX5_ok nmX5 rfl (by decide) 7 (by decide) ((xr_walker r hr i hi).2.2 7 (by decide) (by decide)) xw_138 rfl rfl rfl rfl xSt4f dX5_place_28 (fun H locs hW => ?_)
  refine lv_aload_n hx hb dX5_place_31 rfl (lv_at hl 0 rfl) ?_
  refine lv_iconst (v := 0) hx hb dX5_place_32 (by decide) ?_
  refine r_put hx hb hts hown hK hW (C := RX5) (T := TX5) (xF_walker r hr i hi) inlX5 tyX5 tyX5_ok nmX5 rfl (by decide) 8 (by decide) ((xr_walker r hr i hi).2.2 8 (by decide) (by decide)) xw_139 rfl rfl rfl rfl xSt4f dX5_place_33 (fun H locs hW => ?_)
  obtain rfl : (va_up (va_up (va_up (va_up (va_up (va_up (va_up ω 2 0) 3 a) 4 b) 5 0) 6 (-6)) 7 0) 8 0) = ω' := by (rw [← ho0]) <;> (simp [FplaceW])
  rw [hQ0]
  exact x_vret hx hb hret hlocks hW rfl dX5_place_36
set_option maxHeartbeats 4000000 in
set_option maxRecDepth 100000 in
theorem c_X5_finishGoal (l : Launch) (X : xX) (G : xG) {r i : Nat} {f sg : Nat → Int32} {L O Y P Q : Nat → Nat → Int32} {ω γ π : Nat → Int32}  (hr : r < 11) (hi : i < 8) {ω' : Nat → Int32} (ho0 : (FfinW ω) = ω') {γ' : Nat → Int32} (ho1 : (Fshift γ) = γ') {π' : Nat → Int32} (ho2 : (Fshift π) = π') : XC l yX5_finishGoal cX5_finishGoal 1 none 1 40 0 0 X xsh [.ref (xB X + xkey r 4 i)] 603 603 (xval (xB X) (va_up G r (xSt f sg L O (va_up Y i ω) (va_up P i γ) (va_up Q i π)))) (xval (xB X) (va_up G r (xSt f sg L O (va_up Y i ω') (va_up P i γ') (va_up Q i π')))) none := by
  refine XC.of RX5 "finishGoal" [(0, .ref (xB X + xkey r 4 i))] (by decide) rfl rfl (Nat.le_of_ble_eq_true rfl) rfl ?_
  intro p e s m args below meth c ls hx hb hret hml hts hown hlocks hnm hK hW hl
  have hW : XR X G r (xSt f sg L O (va_up Y i ω) (va_up P i γ) (va_up Q i π)) s.heap [] := hW
  obtain ⟨Q0, hQ0⟩ : ∃ z, z = MQ below (xQ X xsh 603 (xval (xB X) (va_up G r (xSt f sg L O (va_up Y i ω') (va_up P i γ') (va_up Q i π')))) none) args s 0 0 (fun q => xB X ≤ q) := ⟨_, rfl⟩
  rw [← hQ0]
  refine lv_aload_n hx hb dX5_finishGoal_0 rfl (lv_at hl 0 rfl) ?_
  refine lv_bipush (v := (-6)) hx hb dX5_finishGoal_1 (by decide) ?_
  refine r_put hx hb hts hown hK hW (C := RX5) (T := TX5) (xF_walker r hr i hi) inlX5 tyX5 tyX5_ok nmX5 rfl (by decide) 6 (by decide) ((xr_walker r hr i hi).2.2 6 (by decide) (by decide)) xw_137 rfl rfl rfl rfl xSt4f dX5_finishGoal_3 (fun H locs hW => ?_)
  refine lv_aload_n hx hb dX5_finishGoal_6 rfl (lv_at hl 0 rfl) ?_
  refine lv_dup hx hb dX5_finishGoal_7 rfl ?_
  refine r_get hx hb hts hown hK hW (C := RX5) (T := TX5) (xF_walker r hr i hi) inlX5 rfl (by decide) 2 (by decide) ((xr_walker r hr i hi).2.2 2 (by decide) (by decide)) xw_133 rfl (x := ω 2) (show (va_up Y i (va_up ω 6 (-6))) i 2 = ω 2 from xrd rfl) dX5_finishGoal_8 ?_
  refine lv_iconst (v := 1) hx hb dX5_finishGoal_11 (by decide) ?_
  refine lv_isub hx hb dX5_finishGoal_12 ?_
  refine r_put hx hb hts hown hK hW (C := RX5) (T := TX5) (xF_walker r hr i hi) inlX5 tyX5 tyX5_ok nmX5 rfl (by decide) 2 (by decide) ((xr_walker r hr i hi).2.2 2 (by decide) (by decide)) xw_133 rfl rfl rfl rfl xSt4f dX5_finishGoal_13 (fun H locs hW => ?_)
  refine lv_aload_n hx hb dX5_finishGoal_16 rfl (lv_at hl 0 rfl) ?_
  refine r_getr (C := RX5) (T := TX5) hx hb hts hown hK hW (xF_walker r hr i hi).1 (xF_walker r hr i hi).2.1 inlX5 rfl (by decide) 0 (by decide) (xr_walker r hr i hi).1 xw_60 rfl dX5_finishGoal_17 ?_
  refine lv_iconst (v := 1) hx hb dX5_finishGoal_20 (by decide) ?_
  refine lv_aload_n hx hb dX5_finishGoal_21 rfl (lv_at hl 0 rfl) ?_
  refine r_getr (C := RX5) (T := TX5) hx hb hts hown hK hW (xF_walker r hr i hi).1 (xF_walker r hr i hi).2.1 inlX5 rfl (by decide) 0 (by decide) (xr_walker r hr i hi).1 xw_60 rfl dX5_finishGoal_22 ?_
  refine lv_iconst (v := 0) hx hb dX5_finishGoal_25 (by decide) ?_
  refine lv_iconst (v := 5) hx hb dX5_finishGoal_26 (by decide) ?_
  refine r_copy hx hb (hml.trans hl.1.symm) hown hts xw_132 xw_42 xw_43 xw_44 hK hW (xF_gsteps r hr i hi) (xF_gsteps r hr i hi) (fun w hw => (xr_gsteps r hr i hi w hw)) (fun w hw => (xr_gsteps r hr i hi w hw)) 1 0 5 (by decide) (by decide) (by decide) ⟨by decide, by decide⟩ (by decide) (by decide) (Nat.le_of_ble_eq_true rfl) (Nat.le_of_ble_eq_true rfl) dX5_finishGoal_27 (fun H locs hW => ?_)
  have hW : XR X G r (xSt f sg L O (va_up Y i (va_up (va_up ω 6 (-6)) 2 ((ω 2) - 1))) (va_up P i (va_cpy γ γ 1 0 5)) (va_up Q i π)) H locs := by have h := hW; simp only [xcpS, xrow5, xat5] at h; exact h
  refine lv_aload_n hx hb dX5_finishGoal_30 rfl (lv_at hl 0 rfl) ?_
  refine r_getr (C := RX5) (T := TX5) hx hb hts hown hK hW (xF_walker r hr i hi).1 (xF_walker r hr i hi).2.1 inlX5 rfl (by decide) 1 (by decide) (xr_walker r hr i hi).2.1 xw_61 rfl dX5_finishGoal_31 ?_
  refine lv_iconst (v := 1) hx hb dX5_finishGoal_34 (by decide) ?_
  refine lv_aload_n hx hb dX5_finishGoal_35 rfl (lv_at hl 0 rfl) ?_
  refine r_getr (C := RX5) (T := TX5) hx hb hts hown hK hW (xF_walker r hr i hi).1 (xF_walker r hr i hi).2.1 inlX5 rfl (by decide) 1 (by decide) (xr_walker r hr i hi).2.1 xw_61 rfl dX5_finishGoal_36 ?_
  refine lv_iconst (v := 0) hx hb dX5_finishGoal_39 (by decide) ?_
  refine lv_iconst (v := 5) hx hb dX5_finishGoal_40 (by decide) ?_
  refine r_copy hx hb (hml.trans hl.1.symm) hown hts xw_132 xw_42 xw_43 xw_44 hK hW (xF_gpauses r hr i hi) (xF_gpauses r hr i hi) (fun w hw => (xr_gpauses r hr i hi w hw)) (fun w hw => (xr_gpauses r hr i hi w hw)) 1 0 5 (by decide) (by decide) (by decide) ⟨by decide, by decide⟩ (by decide) (by decide) (Nat.le_of_ble_eq_true rfl) (Nat.le_of_ble_eq_true rfl) dX5_finishGoal_41 (fun H locs hW => ?_)
  have hW : XR X G r (xSt f sg L O (va_up Y i (va_up (va_up ω 6 (-6)) 2 ((ω 2) - 1))) (va_up P i (va_cpy γ γ 1 0 5)) (va_up Q i (va_cpy π π 1 0 5))) H locs := by have h := hW; simp only [xcpS, xrow6, xat6] at h; exact h
  refine lv_aload_n hx hb dX5_finishGoal_44 rfl (lv_at hl 0 rfl) ?_
  refine lv_aload_n hx hb dX5_finishGoal_45 rfl (lv_at hl 0 rfl) ?_
  refine r_get hx hb hts hown hK hW (C := RX5) (T := TX5) (xF_walker r hr i hi) inlX5 rfl (by decide) 2 (by decide) ((xr_walker r hr i hi).2.2 2 (by decide) (by decide)) xw_133 rfl (x := (ω 2) - 1) (show (va_up Y i (va_up (va_up ω 6 (-6)) 2 ((ω 2) - 1))) i 2 = (ω 2) - 1 from xrd rfl) dX5_finishGoal_46 ?_
  refine lv_if_ne (tgt := 56) hx hb dX5_finishGoal_49 (by decide) (fun c_1 => ?_) (fun c_1 => ?_)
  · skip
    refine lv_iconst (v := 0) hx hb dX5_finishGoal_56 (by decide) ?_
    refine r_put hx hb hts hown hK hW (C := RX5) (T := TX5) (xF_walker r hr i hi) inlX5 tyX5 tyX5_ok nmX5 rfl (by decide) 5 (by decide) ((xr_walker r hr i hi).2.2 5 (by decide) (by decide)) xw_136 rfl rfl rfl rfl xSt4f dX5_finishGoal_57 (fun H locs hW => ?_)
    obtain rfl : (va_up (va_up (va_up ω 6 (-6)) 2 ((ω 2) - 1)) 5 0) = ω' := by (rw [← ho0]) <;> (simp [FfinW, Fshift, c_1])
    obtain rfl : (va_cpy γ γ 1 0 5) = γ' := by (rw [← ho1]) <;> (simp [FfinW, Fshift, c_1])
    obtain rfl : (va_cpy π π 1 0 5) = π' := by (rw [← ho2]) <;> (simp [FfinW, Fshift, c_1])
    rw [hQ0]
    exact x_vret hx hb hret hlocks hW rfl dX5_finishGoal_60
  · skip
    refine lv_iconst (v := 1) hx hb dX5_finishGoal_52 (by decide) ?_
    refine lv_goto (tgt := 57) hx hb dX5_finishGoal_53 (by decide) ?_
    refine r_put hx hb hts hown hK hW (C := RX5) (T := TX5) (xF_walker r hr i hi) inlX5 tyX5 tyX5_ok nmX5 rfl (by decide) 5 (by decide) ((xr_walker r hr i hi).2.2 5 (by decide) (by decide)) xw_136 rfl rfl rfl rfl xSt4f dX5_finishGoal_57 (fun H locs hW => ?_)
    obtain rfl : (va_up (va_up (va_up ω 6 (-6)) 2 ((ω 2) - 1)) 5 1) = ω' := by (rw [← ho0]) <;> (simp [FfinW, Fshift, c_1])
    obtain rfl : (va_cpy γ γ 1 0 5) = γ' := by (rw [← ho1]) <;> (simp [FfinW, Fshift, c_1])
    obtain rfl : (va_cpy π π 1 0 5) = π' := by (rw [← ho2]) <;> (simp [FfinW, Fshift, c_1])
    rw [hQ0]
    exact x_vret hx hb hret hlocks hW rfl dX5_finishGoal_60
set_option maxHeartbeats 4000000 in
set_option maxRecDepth 100000 in
theorem c_X5_arrive (l : Launch) (X : xX) (G : xG) {r i : Nat} {f sg : Nat → Int32} {L O Y P Q : Nat → Nat → Int32} {ω γ π : Nat → Int32}  (hr : r < 11) (hi : i < 8) {ω' : Nat → Int32} (ho0 : (FarrW ω π) = ω') {γ' : Nat → Int32} (ho1 : (FarrP π γ) = γ') {π' : Nat → Int32} (ho2 : (FarrP π π) = π') : XC l yX5_arrive cX5_arrive 1 none 2 60 0 0 X xsh [.ref (xB X + xkey r 4 i)] 603 603 (xval (xB X) (va_up G r (xSt f sg L O (va_up Y i ω) (va_up P i γ) (va_up Q i π)))) (xval (xB X) (va_up G r (xSt f sg L O (va_up Y i ω') (va_up P i γ') (va_up Q i π')))) none := by
  refine XC.of RX5 "arrive" [(0, .ref (xB X + xkey r 4 i))] (by decide) rfl rfl (Nat.le_of_ble_eq_true rfl) rfl ?_
  intro p e s m args below meth c ls hx hb hret hml hts hown hlocks hnm hK hW hl
  have hW : XR X G r (xSt f sg L O (va_up Y i ω) (va_up P i γ) (va_up Q i π)) s.heap [] := hW
  obtain ⟨Q0, hQ0⟩ : ∃ z, z = MQ below (xQ X xsh 603 (xval (xB X) (va_up G r (xSt f sg L O (va_up Y i ω') (va_up P i γ') (va_up Q i π')))) none) args s 0 0 (fun q => xB X ≤ q) := ⟨_, rfl⟩
  rw [← hQ0]
  refine lv_aload_n hx hb dX5_arrive_0 rfl (lv_at hl 0 rfl) ?_
  refine r_getr (C := RX5) (T := TX5) hx hb hts hown hK hW (xF_walker r hr i hi).1 (xF_walker r hr i hi).2.1 inlX5 rfl (by decide) 1 (by decide) (xr_walker r hr i hi).2.1 xw_61 rfl dX5_arrive_1 ?_
  refine lv_iconst (v := 0) hx hb dX5_arrive_4 (by decide) ?_
  refine r_iald hx hb hK hW (N := 6) (xF_gpauses r hr i hi) 0 (by decide) (by decide) (by decide) (xr_gpauses r hr i hi 0 (by decide)) (x := π 0) (show (va_up Q i π) i 0 = π 0 from xrd rfl) dX5_arrive_5 ?_
  refine lv_if_le (tgt := 17) hx hb dX5_arrive_6 (by decide) (fun c_1 => ?_) (fun c_1 => ?_)
  · skip
    refine lv_aload_n hx hb dX5_arrive_17 rfl (lv_at hl 0 rfl) ?_
    refine x_callV hx hb hml hown hts hK hW hl.1 (c_X5_finishGoal l X G (r := r) (i := i) (hr := hr) (hi := hi) (ho0 := rfl) (ho1 := rfl) (ho2 := rfl)) (xF_walker r hr i hi).1 (xF_walker r hr i hi).2.1 (by decide) rfl xw_415 xw_416 xw_417 xw_50 xw_418 hdV_yX5_finishGoal ⟨Nat.le_of_ble_eq_true rfl, Nat.le_of_ble_eq_true rfl⟩ rfl (Nat.le_of_ble_eq_true rfl) ⟨Nat.le_refl _, Nat.le_refl _⟩ dX5_arrive_18 (fun H locs hW => ?_)
    have hW : XR X G r (xSt f sg L O (va_up Y i (FfinW ω)) (va_up P i (Fshift γ)) (va_up Q i (Fshift π))) H locs := hW
    obtain rfl : (FfinW ω) = ω' := by (rw [← ho0]) <;> (simp [FarrW, FarrP, c_1, Int32.not_lt.mpr c_1])
    obtain rfl : (Fshift γ) = γ' := by (rw [← ho1]) <;> (simp [FarrW, FarrP, c_1, Int32.not_lt.mpr c_1])
    obtain rfl : (Fshift π) = π' := by (rw [← ho2]) <;> (simp [FarrW, FarrP, c_1, Int32.not_lt.mpr c_1])
    rw [hQ0]
    exact x_vret hx hb hret hlocks hW rfl dX5_arrive_21
  · skip
    refine lv_aload_n hx hb dX5_arrive_9 rfl (lv_at hl 0 rfl) ?_
    refine lv_iconst (v := 0) hx hb dX5_arrive_10 (by decide) ?_
    refine r_put hx hb hts hown hK hW (C := RX5) (T := TX5) (xF_walker r hr i hi) inlX5 tyX5 tyX5_ok nmX5 rfl (by decide) 6 (by decide) ((xr_walker r hr i hi).2.2 6 (by decide) (by decide)) xw_137 rfl rfl rfl rfl xSt4f dX5_arrive_11 (fun H locs hW => ?_)
    refine lv_goto (tgt := 21) hx hb dX5_arrive_14 (by decide) ?_
    obtain rfl : (va_up ω 6 0) = ω' := by (rw [← ho0]) <;> (simp [FarrW, FarrP, c_1, Int32.not_le.mp c_1])
    obtain rfl : γ = γ' := by (rw [← ho1]) <;> (simp [FarrW, FarrP, c_1, Int32.not_le.mp c_1])
    obtain rfl : π = π' := by (rw [← ho2]) <;> (simp [FarrW, FarrP, c_1, Int32.not_le.mp c_1])
    rw [hQ0]
    exact x_vret hx hb hret hlocks hW rfl dX5_arrive_21
set_option maxHeartbeats 4000000 in
set_option maxRecDepth 100000 in
theorem c_X5_go (l : Launch) (X : xX) (G : xG) {r i : Nat} {f sg : Nat → Int32} {L O Y P Q : Nat → Nat → Int32} {ω γ π : Nat → Int32}  (hr : r < 11) (hi : i < 8) {ω' : Nat → Int32} (ho0 : (FgoW ω γ π) = ω') {γ' : Nat → Int32} (ho1 : (FgoP ω γ π γ) = γ') {π' : Nat → Int32} (ho2 : (FgoP ω γ π π) = π') : XC l yX5_go cX5_go 3 none 3 80 0 0 X xsh [.ref (xB X + xkey r 4 i)] 603 603 (xval (xB X) (va_up G r (xSt f sg L O (va_up Y i ω) (va_up P i γ) (va_up Q i π)))) (xval (xB X) (va_up G r (xSt f sg L O (va_up Y i ω') (va_up P i γ') (va_up Q i π')))) none := by
  refine XC.of RX5 "go" [(0, .ref (xB X + xkey r 4 i))] (by decide) rfl rfl (Nat.le_of_ble_eq_true rfl) rfl ?_
  intro p e s m args below meth c ls hx hb hret hml hts hown hlocks hnm hK hW hl
  have hW : XR X G r (xSt f sg L O (va_up Y i ω) (va_up P i γ) (va_up Q i π)) s.heap [] := hW
  obtain ⟨Q0, hQ0⟩ : ∃ z, z = MQ below (xQ X xsh 603 (xval (xB X) (va_up G r (xSt f sg L O (va_up Y i ω') (va_up P i γ') (va_up Q i π')))) none) args s 0 0 (fun q => xB X ≤ q) := ⟨_, rfl⟩
  rw [← hQ0]
  refine lv_aload_n hx hb dX5_go_0 rfl (lv_at hl 0 rfl) ?_
  refine r_get hx hb hts hown hK hW (C := RX5) (T := TX5) (xF_walker r hr i hi) inlX5 rfl (by decide) 2 (by decide) ((xr_walker r hr i hi).2.2 2 (by decide) (by decide)) xw_133 rfl (x := ω 2) (show (va_up Y i ω) i 2 = ω 2 from xrd rfl) dX5_go_1 ?_
  refine lv_if_ne (tgt := 8) hx hb dX5_go_4 (by decide) (fun c_1 => ?_) (fun c_1 => ?_)
  · skip
    refine lv_aload_n hx hb dX5_go_8 rfl (lv_at hl 0 rfl) ?_
    refine r_get hx hb hts hown hK hW (C := RX5) (T := TX5) (xF_walker r hr i hi) inlX5 rfl (by decide) 6 (by decide) ((xr_walker r hr i hi).2.2 6 (by decide) (by decide)) xw_137 rfl (x := ω 6) (show (va_up Y i ω) i 6 = ω 6 from xrd rfl) dX5_go_9 ?_
    refine lv_bipush (v := (-6)) hx hb dX5_go_12 (by decide) ?_
    refine lv_icmp_eq (tgt := 45) hx hb dX5_go_14 (by decide) (fun c_2 => ?_) (fun c_2 => ?_)
    · skip
      refine lv_aload_n hx hb dX5_go_45 rfl (lv_at hl 0 rfl) ?_
      refine r_getr (C := RX5) (T := TX5) hx hb hts hown hK hW (xF_walker r hr i hi).1 (xF_walker r hr i hi).2.1 inlX5 rfl (by decide) 0 (by decide) (xr_walker r hr i hi).1 xw_60 rfl dX5_go_46 ?_
      refine lv_iconst (v := 0) hx hb dX5_go_49 (by decide) ?_
      refine r_iald hx hb hK hW (N := 6) (xF_gsteps r hr i hi) 0 (by decide) (by decide) (by decide) (xr_gsteps r hr i hi 0 (by decide)) (x := γ 0) (show (va_up P i γ) i 0 = γ 0 from xrd rfl) dX5_go_50 ?_
      refine lv_aload_n hx hb dX5_go_51 rfl (lv_at hl 0 rfl) ?_
      refine r_get hx hb hts hown hK hW (C := RX5) (T := TX5) (xF_walker r hr i hi) inlX5 rfl (by decide) 3 (by decide) ((xr_walker r hr i hi).2.2 3 (by decide) (by decide)) xw_134 rfl (x := ω 3) (show (va_up Y i ω) i 3 = ω 3 from xrd rfl) dX5_go_52 ?_
      refine lv_isub hx hb dX5_go_55 ?_
      refine lv_istore_n (lv' := [(1, .int ((γ 0) - (ω 3))), (0, .ref (xB X + xkey r 4 i))]) hx hb dX5_go_56 rfl hl (by decide) rfl (fun ls hl => ?_)
      refine lv_aload_n hx hb dX5_go_57 rfl (lv_at hl 1 rfl) ?_
      refine r_get hx hb hts hown hK hW (C := RX5) (T := TX5) (xF_walker r hr i hi) inlX5 rfl (by decide) 4 (by decide) ((xr_walker r hr i hi).2.2 4 (by decide) (by decide)) xw_135 rfl (x := ω 4) (show (va_up Y i ω) i 4 = ω 4 from xrd rfl) dX5_go_58 ?_
      refine lv_ineg hx hb dX5_go_61 ?_
      refine lv_aload_n hx hb dX5_go_62 rfl (lv_at hl 1 rfl) ?_
      refine r_get hx hb hts hown hK hW (C := RX5) (T := TX5) (xF_walker r hr i hi) inlX5 rfl (by decide) 4 (by decide) ((xr_walker r hr i hi).2.2 4 (by decide) (by decide)) xw_135 rfl (x := ω 4) (show (va_up Y i ω) i 4 = ω 4 from xrd rfl) dX5_go_63 ?_
      refine lv_iload_n hx hb dX5_go_66 rfl (lv_at hl 0 rfl) ?_
      refine va_mmin hx hb (hml.trans hl.1.symm) hown (hts _ xw_410) (hts _ xw_152) (hts _ xw_153) (hts _ xw_154) (Nat.le_of_ble_eq_true rfl) (Nat.le_of_ble_eq_true rfl) (Nat.le_refl _) (Nat.le_refl _) dX5_go_67 ?_
      refine lv_eqi (y := xmin (ω 4) ((γ 0) - (ω 3))) rfl ?_
      refine va_mmax hx hb (hml.trans hl.1.symm) hown (hts _ xw_411) (hts _ xw_412) (hts _ xw_153) (hts _ xw_413) (Nat.le_of_ble_eq_true rfl) (Nat.le_of_ble_eq_true rfl) (Nat.le_refl _) (Nat.le_refl _) dX5_go_70 ?_
      refine lv_eqi (y := xmax (-(ω 4)) (xmin (ω 4) ((γ 0) - (ω 3)))) rfl ?_
      refine lv_istore_n (lv' := [(2, .int (xmax (-(ω 4)) (xmin (ω 4) ((γ 0) - (ω 3))))), (1, .int ((γ 0) - (ω 3))), (0, .ref (xB X + xkey r 4 i))]) hx hb dX5_go_73 rfl hl (by decide) rfl (fun ls hl => ?_)
      refine lv_aload_n hx hb dX5_go_74 rfl (lv_at hl 2 rfl) ?_
      refine lv_dup hx hb dX5_go_75 rfl ?_
      refine r_get hx hb hts hown hK hW (C := RX5) (T := TX5) (xF_walker r hr i hi) inlX5 rfl (by decide) 3 (by decide) ((xr_walker r hr i hi).2.2 3 (by decide) (by decide)) xw_134 rfl (x := ω 3) (show (va_up Y i ω) i 3 = ω 3 from xrd rfl) dX5_go_76 ?_
      refine lv_iload_n hx hb dX5_go_79 rfl (lv_at hl 0 rfl) ?_
      refine lv_iadd hx hb dX5_go_80 ?_
      refine r_put hx hb hts hown hK hW (C := RX5) (T := TX5) (xF_walker r hr i hi) inlX5 tyX5 tyX5_ok nmX5 rfl (by decide) 3 (by decide) ((xr_walker r hr i hi).2.2 3 (by decide) (by decide)) xw_134 rfl rfl rfl rfl xSt4f dX5_go_81 (fun H locs hW => ?_)
      refine lv_aload_n hx hb dX5_go_84 rfl (lv_at hl 2 rfl) ?_
      refine lv_dup hx hb dX5_go_85 rfl ?_
      refine r_get hx hb hts hown hK hW (C := RX5) (T := TX5) (xF_walker r hr i hi) inlX5 rfl (by decide) 8 (by decide) ((xr_walker r hr i hi).2.2 8 (by decide) (by decide)) xw_139 rfl (x := ω 8) (show (va_up Y i (va_up ω 3 ((ω 3) + (xmax (-(ω 4)) (xmin (ω 4) ((γ 0) - (ω 3))))))) i 8 = ω 8 from xrd rfl) dX5_go_86 ?_
      refine lv_iload_n hx hb dX5_go_89 rfl (lv_at hl 0 rfl) ?_
      refine va_mabs hx hb (hml.trans hl.1.symm) hown (hts _ xw_414) (hts _ xw_355) (hts _ xw_153) (hts _ xw_356) (Nat.le_of_ble_eq_true rfl) (Nat.le_of_ble_eq_true rfl) (Nat.le_refl _) (Nat.le_refl _) dX5_go_90 ?_
      refine lv_eqi (y := xabs (xmax (-(ω 4)) (xmin (ω 4) ((γ 0) - (ω 3))))) rfl ?_
      refine lv_iadd hx hb dX5_go_93 ?_
      refine r_put hx hb hts hown hK hW (C := RX5) (T := TX5) (xF_walker r hr i hi) inlX5 tyX5 tyX5_ok nmX5 rfl (by decide) 8 (by decide) ((xr_walker r hr i hi).2.2 8 (by decide) (by decide)) xw_139 rfl rfl rfl rfl xSt4f dX5_go_94 (fun H locs hW => ?_)
      refine lv_iload_n hx hb dX5_go_97 rfl (lv_at hl 0 rfl) ?_
      refine lv_iload_n hx hb dX5_go_98 rfl (lv_at hl 1 rfl) ?_
      refine lv_icmp_ne (tgt := 106) hx hb dX5_go_99 (by decide) (fun c_3 => ?_) (fun c_3 => ?_)
      · skip
        obtain rfl : (va_up (va_up ω 3 ((ω 3) + (xmax (-(ω 4)) (xmin (ω 4) ((γ 0) - (ω 3)))))) 8 ((ω 8) + (xabs (xmax (-(ω 4)) (xmin (ω 4) ((γ 0) - (ω 3))))))) = ω' := by (rw [← ho0]) <;> (simp [FgoW, FgoP, Fstep, Fgone, c_1, c_2, c_3])
        obtain rfl : γ = γ' := by (rw [← ho1]) <;> (simp [FgoW, FgoP, Fstep, Fgone, c_1, c_2, c_3])
        obtain rfl : π = π' := by (rw [← ho2]) <;> (simp [FgoW, FgoP, Fstep, Fgone, c_1, c_2, c_3])
        rw [hQ0]
        exact x_vret hx hb hret hlocks hW rfl dX5_go_106
      · skip
        refine lv_aload_n hx hb dX5_go_102 rfl (lv_at hl 2 rfl) ?_
        refine x_callV hx hb hml hown hts hK hW hl.1 (c_X5_arrive l X G (r := r) (i := i) (hr := hr) (hi := hi) (ho0 := rfl) (ho1 := rfl) (ho2 := rfl)) (xF_walker r hr i hi).1 (xF_walker r hr i hi).2.1 (by decide) rfl xw_419 xw_420 xw_421 xw_50 xw_422 hdV_yX5_arrive ⟨Nat.le_of_ble_eq_true rfl, Nat.le_of_ble_eq_true rfl⟩ rfl (Nat.le_of_ble_eq_true rfl) ⟨Nat.le_refl _, Nat.le_refl _⟩ dX5_go_103 (fun H locs hW => ?_)
        have hW : XR X G r (xSt f sg L O (va_up Y i (FarrW (va_up (va_up ω 3 ((ω 3) + (xmax (-(ω 4)) (xmin (ω 4) ((γ 0) - (ω 3)))))) 8 ((ω 8) + (xabs (xmax (-(ω 4)) (xmin (ω 4) ((γ 0) - (ω 3))))))) π)) (va_up P i (FarrP π γ)) (va_up Q i (FarrP π π))) H locs := hW
        obtain rfl : (FarrW (va_up (va_up ω 3 ((ω 3) + (xmax (-(ω 4)) (xmin (ω 4) ((γ 0) - (ω 3)))))) 8 ((ω 8) + (xabs (xmax (-(ω 4)) (xmin (ω 4) ((γ 0) - (ω 3))))))) π) = ω' := by (rw [← ho0]) <;> (simp [FgoW, FgoP, Fstep, Fgone, c_1, c_2, c_3])
        obtain rfl : (FarrP π γ) = γ' := by (rw [← ho1]) <;> (simp [FgoW, FgoP, Fstep, Fgone, c_1, c_2, c_3])
        obtain rfl : (FarrP π π) = π' := by (rw [← ho2]) <;> (simp [FgoW, FgoP, Fstep, Fgone, c_1, c_2, c_3])
        rw [hQ0]
        exact x_vret hx hb hret hlocks hW rfl dX5_go_106
    · skip
      refine lv_aload_n hx hb dX5_go_17 rfl (lv_at hl 0 rfl) ?_
      refine lv_dup hx hb dX5_go_18 rfl ?_
      refine r_get hx hb hts hown hK hW (C := RX5) (T := TX5) (xF_walker r hr i hi) inlX5 rfl (by decide) 6 (by decide) ((xr_walker r hr i hi).2.2 6 (by decide) (by decide)) xw_137 rfl (x := ω 6) (show (va_up Y i ω) i 6 = ω 6 from xrd rfl) dX5_go_19 ?_
      refine lv_iconst (v := 1) hx hb dX5_go_22 (by decide) ?_
      refine lv_iadd hx hb dX5_go_23 ?_
      refine r_put hx hb hts hown hK hW (C := RX5) (T := TX5) (xF_walker r hr i hi) inlX5 tyX5 tyX5_ok nmX5 rfl (by decide) 6 (by decide) ((xr_walker r hr i hi).2.2 6 (by decide) (by decide)) xw_137 rfl rfl rfl rfl xSt4f dX5_go_24 (fun H locs hW => ?_)
      refine lv_aload_n hx hb dX5_go_27 rfl (lv_at hl 0 rfl) ?_
      refine r_get hx hb hts hown hK hW (C := RX5) (T := TX5) (xF_walker r hr i hi) inlX5 rfl (by decide) 6 (by decide) ((xr_walker r hr i hi).2.2 6 (by decide) (by decide)) xw_137 rfl (x := (ω 6) + 1) (show (va_up Y i (va_up ω 6 ((ω 6) + 1))) i 6 = (ω 6) + 1 from xrd rfl) dX5_go_28 ?_
      refine lv_aload_n hx hb dX5_go_31 rfl (lv_at hl 0 rfl) ?_
      refine r_getr (C := RX5) (T := TX5) hx hb hts hown hK hW (xF_walker r hr i hi).1 (xF_walker r hr i hi).2.1 inlX5 rfl (by decide) 1 (by decide) (xr_walker r hr i hi).2.1 xw_61 rfl dX5_go_32 ?_
      refine lv_iconst (v := 0) hx hb dX5_go_35 (by decide) ?_
      refine r_iald hx hb hK hW (N := 6) (xF_gpauses r hr i hi) 0 (by decide) (by decide) (by decide) (xr_gpauses r hr i hi 0 (by decide)) (x := π 0) (show (va_up Q i π) i 0 = π 0 from xrd rfl) dX5_go_36 ?_
      refine lv_icmp_lt (tgt := 44) hx hb dX5_go_37 (by decide) (fun c_4 => ?_) (fun c_4 => ?_)
      · skip
        obtain rfl : (va_up ω 6 ((ω 6) + 1)) = ω' := by (rw [← ho0]) <;> (simp [FgoW, FgoP, Fstep, Fgone, c_1, c_2, c_4, Int32.not_le.mpr c_4])
        obtain rfl : γ = γ' := by (rw [← ho1]) <;> (simp [FgoW, FgoP, Fstep, Fgone, c_1, c_2, c_4, Int32.not_le.mpr c_4])
        obtain rfl : π = π' := by (rw [← ho2]) <;> (simp [FgoW, FgoP, Fstep, Fgone, c_1, c_2, c_4, Int32.not_le.mpr c_4])
        rw [hQ0]
        exact x_vret hx hb hret hlocks hW rfl dX5_go_44
      · skip
        refine lv_aload_n hx hb dX5_go_40 rfl (lv_at hl 0 rfl) ?_
        refine x_callV hx hb hml hown hts hK hW hl.1 (c_X5_finishGoal l X G (r := r) (i := i) (hr := hr) (hi := hi) (ho0 := rfl) (ho1 := rfl) (ho2 := rfl)) (xF_walker r hr i hi).1 (xF_walker r hr i hi).2.1 (by decide) rfl xw_415 xw_416 xw_417 xw_50 xw_418 hdV_yX5_finishGoal ⟨Nat.le_of_ble_eq_true rfl, Nat.le_of_ble_eq_true rfl⟩ rfl (Nat.le_of_ble_eq_true rfl) ⟨Nat.le_refl _, Nat.le_refl _⟩ dX5_go_41 (fun H locs hW => ?_)
        have hW : XR X G r (xSt f sg L O (va_up Y i (FfinW (va_up ω 6 ((ω 6) + 1)))) (va_up P i (Fshift γ)) (va_up Q i (Fshift π))) H locs := hW
        obtain rfl : (FfinW (va_up ω 6 ((ω 6) + 1))) = ω' := by (rw [← ho0]) <;> (simp [FgoW, FgoP, Fstep, Fgone, c_1, c_2, c_4, Int32.not_lt.mp c_4])
        obtain rfl : (Fshift γ) = γ' := by (rw [← ho1]) <;> (simp [FgoW, FgoP, Fstep, Fgone, c_1, c_2, c_4, Int32.not_lt.mp c_4])
        obtain rfl : (Fshift π) = π' := by (rw [← ho2]) <;> (simp [FgoW, FgoP, Fstep, Fgone, c_1, c_2, c_4, Int32.not_lt.mp c_4])
        rw [hQ0]
        exact x_vret hx hb hret hlocks hW rfl dX5_go_44
  · skip
    obtain rfl : ω = ω' := by (rw [← ho0]) <;> (simp [FgoW, FgoP, Fstep, Fgone, c_1])
    obtain rfl : γ = γ' := by (rw [← ho1]) <;> (simp [FgoW, FgoP, Fstep, Fgone, c_1])
    obtain rfl : π = π' := by (rw [← ho2]) <;> (simp [FgoW, FgoP, Fstep, Fgone, c_1])
    rw [hQ0]
    exact x_vret hx hb hret hlocks hW rfl dX5_go_7
set_option maxHeartbeats 4000000 in
set_option maxRecDepth 100000 in
theorem c_X5_addGoal (l : Launch) (X : xX) (G : xG) {r i : Nat} {f sg : Nat → Int32} {L O Y P Q : Nat → Nat → Int32} {ω γ π : Nat → Int32} {a b : Int32} {g : Nat} (hr : r < 11) (hi : i < 8) (hg : ω 2 = nI g) (hg6 : g ≤ 6) {ω' : Nat → Int32} (ho0 : (FaddW ω) = ω') {γ' : Nat → Int32} (ho1 : (FaddP g a ω γ) = γ') {π' : Nat → Int32} (ho2 : (FaddP g b ω π) = π') {res : Int32} (hres : (FaddR ω) = res) : XC l yX5_addGoal cX5_addGoal 3 (some .int) 0 0 0 0 X xsh [.ref (xB X + xkey r 4 i), .int a, .int b] 603 603 (xval (xB X) (va_up G r (xSt f sg L O (va_up Y i ω) (va_up P i γ) (va_up Q i π)))) (xval (xB X) (va_up G r (xSt f sg L O (va_up Y i ω') (va_up P i γ') (va_up Q i π')))) (some (.int res)) := by
  refine XC.of RX5 "addGoal" [(0, .ref (xB X + xkey r 4 i)), (1, .int a), (2, .int b)] (by decide) rfl rfl (Nat.le_of_ble_eq_true rfl) rfl ?_
  intro p e s m args below meth c ls hx hb hret hml hts hown hlocks hnm hK hW hl
  have hW : XR X G r (xSt f sg L O (va_up Y i ω) (va_up P i γ) (va_up Q i π)) s.heap [] := hW
  obtain ⟨Q0, hQ0⟩ : ∃ z, z = MQ below (xQ X xsh 603 (xval (xB X) (va_up G r (xSt f sg L O (va_up Y i ω') (va_up P i γ') (va_up Q i π')))) (some (.int res))) args s 0 0 (fun q => xB X ≤ q) := ⟨_, rfl⟩
  rw [← hQ0]
  refine lv_aload_n hx hb dX5_addGoal_0 rfl (lv_at hl 0 rfl) ?_
  refine r_get hx hb hts hown hK hW (C := RX5) (T := TX5) (xF_walker r hr i hi) inlX5 rfl (by decide) 2 (by decide) ((xr_walker r hr i hi).2.2 2 (by decide) (by decide)) xw_133 rfl (x := ω 2) (show (va_up Y i ω) i 2 = ω 2 from xrd rfl) dX5_addGoal_1 ?_
  refine lv_bipush (v := 6) hx hb dX5_addGoal_4 (by decide) ?_
  refine lv_icmp_lt (tgt := 12) hx hb dX5_addGoal_6 (by decide) (fun c_1 => ?_) (fun c_1 => ?_)
  · skip
    refine lv_aload_n hx hb dX5_addGoal_12 rfl (lv_at hl 0 rfl) ?_
    refine r_get hx hb hts hown hK hW (C := RX5) (T := TX5) (xF_walker r hr i hi) inlX5 rfl (by decide) 5 (by decide) ((xr_walker r hr i hi).2.2 5 (by decide) (by decide)) xw_136 rfl (x := ω 5) (show (va_up Y i ω) i 5 = ω 5 from xrd rfl) dX5_addGoal_13 ?_
    refine lv_if_eq (tgt := 22) hx hb dX5_addGoal_16 (by decide) (fun c_2 => ?_) (fun c_2 => ?_)
    · skip
      refine lv_aload_n hx hb dX5_addGoal_22 rfl (lv_at hl 0 rfl) ?_
      refine r_getr (C := RX5) (T := TX5) hx hb hts hown hK hW (xF_walker r hr i hi).1 (xF_walker r hr i hi).2.1 inlX5 rfl (by decide) 0 (by decide) (xr_walker r hr i hi).1 xw_60 rfl dX5_addGoal_23 ?_
      refine lv_aload_n hx hb dX5_addGoal_26 rfl (lv_at hl 0 rfl) ?_
      refine r_get hx hb hts hown hK hW (C := RX5) (T := TX5) (xF_walker r hr i hi) inlX5 rfl (by decide) 2 (by decide) ((xr_walker r hr i hi).2.2 2 (by decide) (by decide)) xw_133 rfl (x := ω 2) (show (va_up Y i ω) i 2 = ω 2 from xrd rfl) dX5_addGoal_27 ?_
      refine lv_iload_n hx hb dX5_addGoal_30 rfl (lv_at hl 1 rfl) ?_
      refine r_iast hx hb hK hW (N := 6) (xF_gsteps r hr i hi) g (xg6 hg hg6 c_1) (by decide) hg (xr_gsteps r hr i hi g (xg6 hg hg6 c_1)) xSt5f dX5_addGoal_31 (fun H locs hW => ?_)
      refine lv_aload_n hx hb dX5_addGoal_32 rfl (lv_at hl 0 rfl) ?_
      refine r_getr (C := RX5) (T := TX5) hx hb hts hown hK hW (xF_walker r hr i hi).1 (xF_walker r hr i hi).2.1 inlX5 rfl (by decide) 1 (by decide) (xr_walker r hr i hi).2.1 xw_61 rfl dX5_addGoal_33 ?_
      refine lv_aload_n hx hb dX5_addGoal_36 rfl (lv_at hl 0 rfl) ?_
      refine r_get hx hb hts hown hK hW (C := RX5) (T := TX5) (xF_walker r hr i hi) inlX5 rfl (by decide) 2 (by decide) ((xr_walker r hr i hi).2.2 2 (by decide) (by decide)) xw_133 rfl (x := ω 2) (show (va_up Y i ω) i 2 = ω 2 from xrd rfl) dX5_addGoal_37 ?_
      refine lv_iload_n hx hb dX5_addGoal_40 rfl (lv_at hl 2 rfl) ?_
      refine r_iast hx hb hK hW (N := 6) (xF_gpauses r hr i hi) g (xg6 hg hg6 c_1) (by decide) hg (xr_gpauses r hr i hi g (xg6 hg hg6 c_1)) xSt6f dX5_addGoal_41 (fun H locs hW => ?_)
      refine lv_aload_n hx hb dX5_addGoal_42 rfl (lv_at hl 0 rfl) ?_
      refine lv_dup hx hb dX5_addGoal_43 rfl ?_
      refine r_get hx hb hts hown hK hW (C := RX5) (T := TX5) (xF_walker r hr i hi) inlX5 rfl (by decide) 2 (by decide) ((xr_walker r hr i hi).2.2 2 (by decide) (by decide)) xw_133 rfl (x := ω 2) (show (va_up Y i ω) i 2 = ω 2 from xrd rfl) dX5_addGoal_44 ?_
      refine lv_iconst (v := 1) hx hb dX5_addGoal_47 (by decide) ?_
      refine lv_iadd hx hb dX5_addGoal_48 ?_
      refine r_put hx hb hts hown hK hW (C := RX5) (T := TX5) (xF_walker r hr i hi) inlX5 tyX5 tyX5_ok nmX5 rfl (by decide) 2 (by decide) ((xr_walker r hr i hi).2.2 2 (by decide) (by decide)) xw_133 rfl rfl rfl rfl xSt4f dX5_addGoal_49 (fun H locs hW => ?_)
      refine lv_aload_n hx hb dX5_addGoal_52 rfl (lv_at hl 0 rfl) ?_
      refine r_get hx hb hts hown hK hW (C := RX5) (T := TX5) (xF_walker r hr i hi) inlX5 rfl (by decide) 2 (by decide) ((xr_walker r hr i hi).2.2 2 (by decide) (by decide)) xw_133 rfl (x := (ω 2) + 1) (show (va_up Y i (va_up ω 2 ((ω 2) + 1))) i 2 = (ω 2) + 1 from xrd rfl) dX5_addGoal_53 ?_
      obtain rfl : (va_up ω 2 ((ω 2) + 1)) = ω' := by (rw [← ho0]) <;> (simp [FaddW, FaddP, FaddR, c_1, Int32.not_le.mpr c_1, c_2])
      obtain rfl : (va_up γ g a) = γ' := by (rw [← ho1]) <;> (simp [FaddW, FaddP, FaddR, c_1, Int32.not_le.mpr c_1, c_2])
      obtain rfl : (va_up π g b) = π' := by (rw [← ho2]) <;> (simp [FaddW, FaddP, FaddR, c_1, Int32.not_le.mpr c_1, c_2])
      obtain rfl : (ω 2) + 1 = res := by (rw [← hres]) <;> (simp [FaddW, FaddP, FaddR, c_1, Int32.not_le.mpr c_1, c_2])
      rw [hQ0]
      exact x_iret hx hb hret hlocks rfl hW rfl dX5_addGoal_56
    · skip
      refine lv_bipush (v := (-5)) hx hb dX5_addGoal_19 (by decide) ?_
      obtain rfl : ω = ω' := by (rw [← ho0]) <;> (simp [FaddW, FaddP, FaddR, c_1, Int32.not_le.mpr c_1, c_2])
      obtain rfl : γ = γ' := by (rw [← ho1]) <;> (simp [FaddW, FaddP, FaddR, c_1, Int32.not_le.mpr c_1, c_2])
      obtain rfl : π = π' := by (rw [← ho2]) <;> (simp [FaddW, FaddP, FaddR, c_1, Int32.not_le.mpr c_1, c_2])
      obtain rfl : (-5) = res := by (rw [← hres]) <;> (simp [FaddW, FaddP, FaddR, c_1, Int32.not_le.mpr c_1, c_2])
      rw [hQ0]
      exact x_iret hx hb hret hlocks rfl hW rfl dX5_addGoal_21
  · skip
    refine lv_bipush (v := (-4)) hx hb dX5_addGoal_9 (by decide) ?_
    obtain rfl : ω = ω' := by (rw [← ho0]) <;> (simp [FaddW, FaddP, FaddR, c_1, Int32.not_lt.mp c_1])
    obtain rfl : γ = γ' := by (rw [← ho1]) <;> (simp [FaddW, FaddP, FaddR, c_1, Int32.not_lt.mp c_1])
    obtain rfl : π = π' := by (rw [← ho2]) <;> (simp [FaddW, FaddP, FaddR, c_1, Int32.not_lt.mp c_1])
    obtain rfl : (-4) = res := by (rw [← hres]) <;> (simp [FaddW, FaddP, FaddR, c_1, Int32.not_lt.mp c_1])
    rw [hQ0]
    exact x_iret hx hb hret hlocks rfl hW rfl dX5_addGoal_11
set_option maxHeartbeats 4000000 in
set_option maxRecDepth 100000 in
theorem c_X1_place (l : Launch) (X : xX) (G : xG) {r i : Nat} {f sg : Nat → Int32} {L O Y P Q : Nat → Nat → Int32} {ℓ : Nat → Int32} {a : Int32} (hr : r < 11) (hi : i < 8)  : XC l yX1_place cX1_place 2 none 0 0 0 0 X xsh [.ref (xB X + xkey r 3 i), .int a] 603 603 (xval (xB X) (va_up G r (xSt f sg L (va_up O i ℓ) Y P Q))) (xval (xB X) (va_up G r (xSt f sg L (va_up O i (va_up (va_up ℓ 0 a) 1 0)) Y P Q))) none := by
  refine XC.of RX1 "place" [(0, .ref (xB X + xkey r 3 i)), (1, .int a)] (by decide) rfl rfl (Nat.le_of_ble_eq_true rfl) rfl ?_
  intro p e s m args below meth c ls hx hb hret hml hts hown hlocks hnm hK hW hl
  have hW : XR X G r (xSt f sg L (va_up O i ℓ) Y P Q) s.heap [] := hW
  obtain ⟨Q0, hQ0⟩ : ∃ z, z = MQ below (xQ X xsh 603 (xval (xB X) (va_up G r (xSt f sg L (va_up O i (va_up (va_up ℓ 0 a) 1 0)) Y P Q))) none) args s 0 0 (fun q => xB X ≤ q) := ⟨_, rfl⟩
  rw [← hQ0]
  refine lv_aload_n hx hb dX1_place_0 rfl (lv_at hl 0 rfl) ?_
  refine lv_iload_n hx hb dX1_place_1 rfl (lv_at hl 1 rfl) ?_
  refine r_put hx hb hts hown hK hW (C := RX1) (T := TX1) (xF_house r hr i hi) inlX1 tyX1 tyX1_ok nmX1 rfl (by decide) 0 (by decide) (xr_house r hr i hi 0 (by decide)) xw_126 rfl rfl rfl rfl xSt3f dX1_place_2 (fun H locs hW => ?_)
  refine lv_aload_n hx hb dX1_place_5 rfl (lv_at hl 0 rfl) ?_
  refine lv_iconst (v := 0) hx hb dX1_place_6 (by decide) ?_
  refine r_put hx hb hts hown hK hW (C := RX1) (T := TX1) (xF_house r hr i hi) inlX1 tyX1 tyX1_ok nmX1 rfl (by decide) 1 (by decide) (xr_house r hr i hi 1 (by decide)) xw_127 rfl rfl rfl rfl xSt3f dX1_place_7 (fun H locs hW => ?_)
  rw [hQ0]
  exact x_vret hx hb hret hlocks hW rfl dX1_place_10
