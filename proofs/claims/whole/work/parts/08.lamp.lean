/-! ===== what a lamp's methods do to its row ===== -/
def Fdist (ℓ : Nat → Int32) (x : Int32) : Int32 := xabs (ℓ 0 - x)
def Flights (ℓ : Nat → Int32) (x : Int32) : Int32 := if ℓ 2 = 0 then 0 else if Fdist ℓ x ≤ (if ℓ 2 = 2 then ℓ 1 else ℓ 1 / 2) then 1 else 0
def Fdisturbs (ℓ : Nat → Int32) (x : Int32) : Int32 := if ℓ 2 = 2 then (if Fdist ℓ x ≤ ℓ 1 / 3 then 1 else 0) else 0
def Fforget (ℓ : Nat → Int32) : Nat → Int32 := va_up (va_up ℓ 11 0) 12 0
def Fwake (aw : Int32) (ℓ : Nat → Int32) : Nat → Int32 := va_up (va_up (va_up ℓ 2 2) 4 aw) 11 1
def Fhear (rk : Int32) (s ℓ : Nat → Int32) : Nat → Int32 := if rk < s 5 ∧ ℓ 5 = -6 ∧ ℓ 12 = 0 then va_up (va_up (Fwake (s 2) (va_up ℓ 9 (ℓ 9 + 1))) 5 (s 4)) 6 (rk + 1) else Fwake (s 2) (va_up ℓ 9 (ℓ 9 + 1))
def Fturn (ℓ : Nat → Int32) : Nat → Int32 := va_up (va_up ℓ 5 (-6)) 12 1
def Ffade (dim : Int32) (ℓ : Nat → Int32) : Nat → Int32 := if ℓ 2 = 0 then ℓ else if ¬ ℓ 11 = 0 then ℓ else if 0 < ℓ 4 - 1 then va_up ℓ 4 (ℓ 4 - 1) else if ℓ 2 = 2 ∧ 0 < dim then va_up (va_up (va_up ℓ 4 (ℓ 4 - 1)) 2 1) 4 dim else va_up (va_up ℓ 4 (ℓ 4 - 1)) 2 0
def Fuse (ℓ : Nat → Int32) : Nat → Int32 := if ℓ 2 = 2 then va_up ℓ 7 (ℓ 7 + 4) else if ℓ 2 = 1 then va_up ℓ 7 (ℓ 7 + 1) else ℓ
def Fbecomes (how : Int32) (ℓ : Nat → Int32) : Nat → Int32 := if how = 2 then va_up (va_up (va_up (va_up ℓ 3 how) 2 0) 4 0) 5 (-6) else va_up ℓ 3 how
def Ftell (ℓ : Nat → Int32) (x : Int32) : Int32 := if x = 0 then ℓ 0 else if x = 1 then ℓ 1 else if x = 2 then ℓ 2 else if x = 3 then ℓ 3 else if x = 4 then ℓ 4 else if x = 5 then ℓ 5 else if x = 6 then (if ℓ 5 = -6 then -6 else ℓ 6) else if x = 7 then ℓ 7 else if x = 8 then ℓ 8 else if x = 9 then ℓ 9 else if x = 10 then ℓ 10 else -2
def Fplace (a b : Int32) (ℓ : Nat → Int32) : Nat → Int32 := va_up (va_up (va_up (va_up (va_up (va_up (va_up (va_up (va_up (va_up (va_up ℓ 0 a) 1 b) 2 0) 3 0) 4 0) 5 (-6)) 6 0) 7 0) 8 0) 9 0) 10 0
theorem hdV_yX2_distanceTo : yX2_distanceTo.cls = RX2 ∧ yX2_distanceTo.cls ≠ "java/lang/invoke/MethodHandle" ∧ yX2_distanceTo.cls ≠ "java/lang/invoke/VarHandle" ∧ (parseMethodDescriptor yX2_distanceTo.desc).map (fun d => d.parameters.length) = some 1 := by decide +kernel
theorem hdV_yX2_forgetTick : yX2_forgetTick.cls = RX2 ∧ yX2_forgetTick.cls ≠ "java/lang/invoke/MethodHandle" ∧ yX2_forgetTick.cls ≠ "java/lang/invoke/VarHandle" ∧ (parseMethodDescriptor yX2_forgetTick.desc).map (fun d => d.parameters.length) = some 0 := by decide +kernel
theorem hdV_yX2_lights : yX2_lights.cls = RX2 ∧ yX2_lights.cls ≠ "java/lang/invoke/MethodHandle" ∧ yX2_lights.cls ≠ "java/lang/invoke/VarHandle" ∧ (parseMethodDescriptor yX2_lights.desc).map (fun d => d.parameters.length) = some 1 := by decide +kernel
theorem hdV_yX2_disturbs : yX2_disturbs.cls = RX2 ∧ yX2_disturbs.cls ≠ "java/lang/invoke/MethodHandle" ∧ yX2_disturbs.cls ≠ "java/lang/invoke/VarHandle" ∧ (parseMethodDescriptor yX2_disturbs.desc).map (fun d => d.parameters.length) = some 1 := by decide +kernel
theorem hdV_yX2_wake : yX2_wake.cls = RX2 ∧ yX2_wake.cls ≠ "java/lang/invoke/MethodHandle" ∧ yX2_wake.cls ≠ "java/lang/invoke/VarHandle" ∧ (parseMethodDescriptor yX2_wake.desc).map (fun d => d.parameters.length) = some 1 := by decide +kernel
theorem hdV_yX2_hear : yX2_hear.cls = RX2 ∧ yX2_hear.cls ≠ "java/lang/invoke/MethodHandle" ∧ yX2_hear.cls ≠ "java/lang/invoke/VarHandle" ∧ (parseMethodDescriptor yX2_hear.desc).map (fun d => d.parameters.length) = some 2 := by decide +kernel
theorem hdV_yX2_takeTurn : yX2_takeTurn.cls = RX2 ∧ yX2_takeTurn.cls ≠ "java/lang/invoke/MethodHandle" ∧ yX2_takeTurn.cls ≠ "java/lang/invoke/VarHandle" ∧ (parseMethodDescriptor yX2_takeTurn.desc).map (fun d => d.parameters.length) = some 0 := by decide +kernel
theorem hdV_yX2_fade : yX2_fade.cls = RX2 ∧ yX2_fade.cls ≠ "java/lang/invoke/MethodHandle" ∧ yX2_fade.cls ≠ "java/lang/invoke/VarHandle" ∧ (parseMethodDescriptor yX2_fade.desc).map (fun d => d.parameters.length) = some 1 := by decide +kernel
theorem hdV_yX2_useLight : yX2_useLight.cls = RX2 ∧ yX2_useLight.cls ≠ "java/lang/invoke/MethodHandle" ∧ yX2_useLight.cls ≠ "java/lang/invoke/VarHandle" ∧ (parseMethodDescriptor yX2_useLight.desc).map (fun d => d.parameters.length) = some 0 := by decide +kernel
theorem hdV_yX2_becomes : yX2_becomes.cls = RX2 ∧ yX2_becomes.cls ≠ "java/lang/invoke/MethodHandle" ∧ yX2_becomes.cls ≠ "java/lang/invoke/VarHandle" ∧ (parseMethodDescriptor yX2_becomes.desc).map (fun d => d.parameters.length) = some 1 := by decide +kernel
theorem hdV_yX2_tell : yX2_tell.cls = RX2 ∧ yX2_tell.cls ≠ "java/lang/invoke/MethodHandle" ∧ yX2_tell.cls ≠ "java/lang/invoke/VarHandle" ∧ (parseMethodDescriptor yX2_tell.desc).map (fun d => d.parameters.length) = some 1 := by decide +kernel
theorem hdV_yX2_place : yX2_place.cls = RX2 ∧ yX2_place.cls ≠ "java/lang/invoke/MethodHandle" ∧ yX2_place.cls ≠ "java/lang/invoke/VarHandle" ∧ (parseMethodDescriptor yX2_place.desc).map (fun d => d.parameters.length) = some 2 := by decide +kernel
set_option maxHeartbeats 4000000 in
set_option maxRecDepth 100000 in
theorem c_X2_distanceTo (l : Launch) (X : xX) (G : xG) {r i : Nat} {f sg : Nat → Int32} {L O Y P Q : Nat → Nat → Int32} {ℓ : Nat → Int32} {x : Int32} (hr : r < 11) (hi : i < 16) {res : Int32} (hres : (Fdist ℓ x) = res) : XC l yX2_distanceTo cX2_distanceTo 2 (some .int) 1 21 0 0 X xsh [.ref (xB X + xkey r 2 i), .int x] 603 603 (xval (xB X) (va_up G r (xSt f sg (va_up L i ℓ) O Y P Q))) (xval (xB X) (va_up G r (xSt f sg (va_up L i ℓ) O Y P Q))) (some (.int res)) := by
  refine XC.of RX2 "distanceTo" [(0, .ref (xB X + xkey r 2 i)), (1, .int x)] (by decide) rfl rfl (Nat.le_of_ble_eq_true rfl) rfl ?_
  intro p e s m args below meth c ls hx hb hret hml hts hown hlocks hnm hK hW hl
  have hW : XR X G r (xSt f sg (va_up L i ℓ) O Y P Q) s.heap [] := hW
  obtain ⟨Q0, hQ0⟩ : ∃ z, z = MQ below (xQ X xsh 603 (xval (xB X) (va_up G r (xSt f sg (va_up L i ℓ) O Y P Q))) (some (.int res))) args s 0 0 (fun q => xB X ≤ q) := ⟨_, rfl⟩
  rw [← hQ0]
  refine lv_aload_n hx hb dX2_distanceTo_0 rfl (lv_at hl 0 rfl) ?_
  refine r_get hx hb hts hown hK hW (C := RX2) (T := TX2) (xF_lamp r hr i hi) inlX2 rfl (by decide) 0 (by decide) (xr_lamp r hr i hi 0 (by decide)) xw_111 rfl (x := ℓ 0) (show (va_up L i ℓ) i 0 = ℓ 0 from xrd rfl) dX2_distanceTo_1 ?_
  refine lv_iload_n hx hb dX2_distanceTo_4 rfl (lv_at hl 1 rfl) ?_
  refine lv_isub hx hb dX2_distanceTo_5 ?_
  refine va_mabs hx hb (hml.trans hl.1.symm) hown (hts _ xw_354) (hts _ xw_355) (hts _ xw_153) (hts _ xw_356) (Nat.le_of_ble_eq_true rfl) (Nat.le_of_ble_eq_true rfl) (Nat.le_refl _) (Nat.le_refl _) dX2_distanceTo_6 ?_
  refine lv_eqi (y := xabs ((ℓ 0) - x)) rfl ?_
  obtain rfl : xabs ((ℓ 0) - x) = res := by (rw [← hres]) <;> (simp [Fdist])
  rw [hQ0]
  exact x_iret hx hb hret hlocks rfl hW rfl dX2_distanceTo_9
set_option maxHeartbeats 4000000 in
set_option maxRecDepth 100000 in
theorem c_X2_forgetTick (l : Launch) (X : xX) (G : xG) {r i : Nat} {f sg : Nat → Int32} {L O Y P Q : Nat → Nat → Int32} {ℓ : Nat → Int32}  (hr : r < 11) (hi : i < 16)  : XC l yX2_forgetTick cX2_forgetTick 1 none 0 0 0 0 X xsh [.ref (xB X + xkey r 2 i)] 603 603 (xval (xB X) (va_up G r (xSt f sg (va_up L i ℓ) O Y P Q))) (xval (xB X) (va_up G r (xSt f sg (va_up L i (va_up (va_up ℓ 11 0) 12 0)) O Y P Q))) none := by
  refine XC.of RX2 "forgetTick" [(0, .ref (xB X + xkey r 2 i))] (by decide) rfl rfl (Nat.le_of_ble_eq_true rfl) rfl ?_
  intro p e s m args below meth c ls hx hb hret hml hts hown hlocks hnm hK hW hl
  have hW : XR X G r (xSt f sg (va_up L i ℓ) O Y P Q) s.heap [] := hW
  obtain ⟨Q0, hQ0⟩ : ∃ z, z = MQ below (xQ X xsh 603 (xval (xB X) (va_up G r (xSt f sg (va_up L i (va_up (va_up ℓ 11 0) 12 0)) O Y P Q))) none) args s 0 0 (fun q => xB X ≤ q) := ⟨_, rfl⟩
  rw [← hQ0]
  refine lv_aload_n hx hb dX2_forgetTick_0 rfl (lv_at hl 0 rfl) ?_
  refine lv_iconst (v := 0) hx hb dX2_forgetTick_1 (by decide) ?_
  refine r_put hx hb hts hown hK hW (C := RX2) (T := TX2) (xF_lamp r hr i hi) inlX2 tyX2 tyX2_ok nmX2 rfl (by decide) 11 (by decide) (xr_lamp r hr i hi 11 (by decide)) xw_339 rfl rfl rfl rfl xSt2f dX2_forgetTick_2 (fun H locs hW => ?_)
  refine lv_aload_n hx hb dX2_forgetTick_5 rfl (lv_at hl 0 rfl) ?_
  refine lv_iconst (v := 0) hx hb dX2_forgetTick_6 (by decide) ?_
  refine r_put hx hb hts hown hK hW (C := RX2) (T := TX2) (xF_lamp r hr i hi) inlX2 tyX2 tyX2_ok nmX2 rfl (by decide) 12 (by decide) (xr_lamp r hr i hi 12 (by decide)) xw_340 rfl rfl rfl rfl xSt2f dX2_forgetTick_7 (fun H locs hW => ?_)
  rw [hQ0]
  exact x_vret hx hb hret hlocks hW rfl dX2_forgetTick_10
set_option maxHeartbeats 4000000 in
set_option maxRecDepth 100000 in
theorem c_X2_lights (l : Launch) (X : xX) (G : xG) {r i : Nat} {f sg : Nat → Int32} {L O Y P Q : Nat → Nat → Int32} {ℓ : Nat → Int32} {x : Int32} (hr : r < 11) (hi : i < 16) {res : Int32} (hres : (Flights ℓ x) = res) : XC l yX2_lights cX2_lights 2 (some .boolean) 2 42 0 0 X xsh [.ref (xB X + xkey r 2 i), .int x] 603 603 (xval (xB X) (va_up G r (xSt f sg (va_up L i ℓ) O Y P Q))) (xval (xB X) (va_up G r (xSt f sg (va_up L i ℓ) O Y P Q))) (some (.int res)) := by
  refine XC.of RX2 "lights" [(0, .ref (xB X + xkey r 2 i)), (1, .int x)] (by decide) rfl rfl (Nat.le_of_ble_eq_true rfl) rfl ?_
  intro p e s m args below meth c ls hx hb hret hml hts hown hlocks hnm hK hW hl
  have hW : XR X G r (xSt f sg (va_up L i ℓ) O Y P Q) s.heap [] := hW
  obtain ⟨Q0, hQ0⟩ : ∃ z, z = MQ below (xQ X xsh 603 (xval (xB X) (va_up G r (xSt f sg (va_up L i ℓ) O Y P Q))) (some (.int res))) args s 0 0 (fun q => xB X ≤ q) := ⟨_, rfl⟩
  rw [← hQ0]
  refine lv_aload_n hx hb dX2_lights_0 rfl (lv_at hl 0 rfl) ?_
  refine r_get hx hb hts hown hK hW (C := RX2) (T := TX2) (xF_lamp r hr i hi) inlX2 rfl (by decide) 2 (by decide) (xr_lamp r hr i hi 2 (by decide)) xw_113 rfl (x := ℓ 2) (show (va_up L i ℓ) i 2 = ℓ 2 from xrd rfl) dX2_lights_1 ?_
  refine lv_if_ne (tgt := 9) hx hb dX2_lights_4 (by decide) (fun c_1 => ?_) (fun c_1 => ?_)
  · skip
    refine lv_aload_n hx hb dX2_lights_9 rfl (lv_at hl 0 rfl) ?_
    refine lv_iload_n hx hb dX2_lights_10 rfl (lv_at hl 1 rfl) ?_
    refine x_callV hx hb hml hown hts hK hW hl.1 (c_X2_distanceTo l X G (r := r) (i := i) (x := x) (hr := hr) (hi := hi) (hres := rfl)) (xF_lamp r hr i hi).1 (xF_lamp r hr i hi).2.1 (by decide) rfl xw_475 xw_351 xw_352 xw_46 xw_353 hdV_yX2_distanceTo ⟨Nat.le_of_ble_eq_true rfl, Nat.le_of_ble_eq_true rfl⟩ rfl (Nat.le_of_ble_eq_true rfl) ⟨Nat.le_refl _, Nat.le_refl _⟩ dX2_lights_11 (fun H locs hW => ?_)
    refine lv_aload_n hx hb dX2_lights_14 rfl (lv_at hl 0 rfl) ?_
    refine r_get hx hb hts hown hK hW (C := RX2) (T := TX2) (xF_lamp r hr i hi) inlX2 rfl (by decide) 2 (by decide) (xr_lamp r hr i hi 2 (by decide)) xw_113 rfl (x := ℓ 2) (show (va_up L i ℓ) i 2 = ℓ 2 from xrd rfl) dX2_lights_15 ?_
    refine lv_iconst (v := 2) hx hb dX2_lights_18 (by decide) ?_
    refine lv_icmp_ne (tgt := 29) hx hb dX2_lights_19 (by decide) (fun c_2 => ?_) (fun c_2 => ?_)
    · skip
      refine lv_aload_n hx hb dX2_lights_29 rfl (lv_at hl 0 rfl) ?_
      refine r_get hx hb hts hown hK hW (C := RX2) (T := TX2) (xF_lamp r hr i hi) inlX2 rfl (by decide) 1 (by decide) (xr_lamp r hr i hi 1 (by decide)) xw_112 rfl (x := ℓ 1) (show (va_up L i ℓ) i 1 = ℓ 1 from xrd rfl) dX2_lights_30 ?_
      refine lv_iconst (v := 2) hx hb dX2_lights_33 (by decide) ?_
      refine lv_idiv hx hb dX2_lights_34 (by decide) ?_
      refine lv_icmp_gt (tgt := 42) hx hb dX2_lights_35 (by decide) (fun c_3 => ?_) (fun c_3 => ?_)
      · skip
        refine lv_iconst (v := 0) hx hb dX2_lights_42 (by decide) ?_
        obtain rfl : 0 = res := by (rw [← hres]) <;> (simp [Flights, c_1, c_2, c_3, Int32.not_le.mpr c_3])
        rw [hQ0]
        exact x_iret hx hb hret hlocks rfl hW rfl dX2_lights_43
      · skip
        refine lv_iconst (v := 1) hx hb dX2_lights_38 (by decide) ?_
        refine lv_goto (tgt := 43) hx hb dX2_lights_39 (by decide) ?_
        obtain rfl : 1 = res := by (rw [← hres]) <;> (simp [Flights, c_1, c_2, c_3, Int32.not_lt.mp c_3])
        rw [hQ0]
        exact x_iret hx hb hret hlocks rfl hW rfl dX2_lights_43
    · skip
      refine lv_aload_n hx hb dX2_lights_22 rfl (lv_at hl 0 rfl) ?_
      refine r_get hx hb hts hown hK hW (C := RX2) (T := TX2) (xF_lamp r hr i hi) inlX2 rfl (by decide) 1 (by decide) (xr_lamp r hr i hi 1 (by decide)) xw_112 rfl (x := ℓ 1) (show (va_up L i ℓ) i 1 = ℓ 1 from xrd rfl) dX2_lights_23 ?_
      refine lv_goto (tgt := 35) hx hb dX2_lights_26 (by decide) ?_
      refine lv_icmp_gt (tgt := 42) hx hb dX2_lights_35 (by decide) (fun c_4 => ?_) (fun c_4 => ?_)
      · skip
        refine lv_iconst (v := 0) hx hb dX2_lights_42 (by decide) ?_
        obtain rfl : 0 = res := by (rw [← hres]) <;> (simp [Flights, c_1, c_2, c_4, Int32.not_le.mpr c_4])
        rw [hQ0]
        exact x_iret hx hb hret hlocks rfl hW rfl dX2_lights_43
      · skip
        refine lv_iconst (v := 1) hx hb dX2_lights_38 (by decide) ?_
        refine lv_goto (tgt := 43) hx hb dX2_lights_39 (by decide) ?_
        obtain rfl : 1 = res := by (rw [← hres]) <;> (simp [Flights, c_1, c_2, c_4, Int32.not_lt.mp c_4])
        rw [hQ0]
        exact x_iret hx hb hret hlocks rfl hW rfl dX2_lights_43
  · skip
    refine lv_iconst (v := 0) hx hb dX2_lights_7 (by decide) ?_
    obtain rfl : 0 = res := by (rw [← hres]) <;> (simp [Flights, c_1])
    rw [hQ0]
    exact x_iret hx hb hret hlocks rfl hW rfl dX2_lights_8
set_option maxHeartbeats 4000000 in
set_option maxRecDepth 100000 in
theorem c_X2_disturbs (l : Launch) (X : xX) (G : xG) {r i : Nat} {f sg : Nat → Int32} {L O Y P Q : Nat → Nat → Int32} {ℓ : Nat → Int32} {x : Int32} (hr : r < 11) (hi : i < 16) {res : Int32} (hres : (Fdisturbs ℓ x) = res) : XC l yX2_disturbs cX2_disturbs 2 (some .boolean) 2 42 0 0 X xsh [.ref (xB X + xkey r 2 i), .int x] 603 603 (xval (xB X) (va_up G r (xSt f sg (va_up L i ℓ) O Y P Q))) (xval (xB X) (va_up G r (xSt f sg (va_up L i ℓ) O Y P Q))) (some (.int res)) := by
  refine XC.of RX2 "disturbs" [(0, .ref (xB X + xkey r 2 i)), (1, .int x)] (by decide) rfl rfl (Nat.le_of_ble_eq_true rfl) rfl ?_
  intro p e s m args below meth c ls hx hb hret hml hts hown hlocks hnm hK hW hl
  have hW : XR X G r (xSt f sg (va_up L i ℓ) O Y P Q) s.heap [] := hW
  obtain ⟨Q0, hQ0⟩ : ∃ z, z = MQ below (xQ X xsh 603 (xval (xB X) (va_up G r (xSt f sg (va_up L i ℓ) O Y P Q))) (some (.int res))) args s 0 0 (fun q => xB X ≤ q) := ⟨_, rfl⟩
  rw [← hQ0]
  refine lv_aload_n hx hb dX2_disturbs_0 rfl (lv_at hl 0 rfl) ?_
  refine r_get hx hb hts hown hK hW (C := RX2) (T := TX2) (xF_lamp r hr i hi) inlX2 rfl (by decide) 2 (by decide) (xr_lamp r hr i hi 2 (by decide)) xw_113 rfl (x := ℓ 2) (show (va_up L i ℓ) i 2 = ℓ 2 from xrd rfl) dX2_disturbs_1 ?_
  refine lv_iconst (v := 2) hx hb dX2_disturbs_4 (by decide) ?_
  refine lv_icmp_ne (tgt := 26) hx hb dX2_disturbs_5 (by decide) (fun c_1 => ?_) (fun c_1 => ?_)
  · skip
    refine lv_iconst (v := 0) hx hb dX2_disturbs_26 (by decide) ?_
    obtain rfl : 0 = res := by (rw [← hres]) <;> (simp [Fdisturbs, c_1])
    rw [hQ0]
    exact x_iret hx hb hret hlocks rfl hW rfl dX2_disturbs_27
  · skip
    refine lv_aload_n hx hb dX2_disturbs_8 rfl (lv_at hl 0 rfl) ?_
    refine lv_iload_n hx hb dX2_disturbs_9 rfl (lv_at hl 1 rfl) ?_
    refine x_callV hx hb hml hown hts hK hW hl.1 (c_X2_distanceTo l X G (r := r) (i := i) (x := x) (hr := hr) (hi := hi) (hres := rfl)) (xF_lamp r hr i hi).1 (xF_lamp r hr i hi).2.1 (by decide) rfl xw_475 xw_351 xw_352 xw_46 xw_353 hdV_yX2_distanceTo ⟨Nat.le_of_ble_eq_true rfl, Nat.le_of_ble_eq_true rfl⟩ rfl (Nat.le_of_ble_eq_true rfl) ⟨Nat.le_refl _, Nat.le_refl _⟩ dX2_disturbs_10 (fun H locs hW => ?_)
    refine lv_aload_n hx hb dX2_disturbs_13 rfl (lv_at hl 0 rfl) ?_
    refine r_get hx hb hts hown hK hW (C := RX2) (T := TX2) (xF_lamp r hr i hi) inlX2 rfl (by decide) 1 (by decide) (xr_lamp r hr i hi 1 (by decide)) xw_112 rfl (x := ℓ 1) (show (va_up L i ℓ) i 1 = ℓ 1 from xrd rfl) dX2_disturbs_14 ?_
    refine lv_iconst (v := 3) hx hb dX2_disturbs_17 (by decide) ?_
    refine lv_idiv hx hb dX2_disturbs_18 (by decide) ?_
    refine lv_icmp_gt (tgt := 26) hx hb dX2_disturbs_19 (by decide) (fun c_2 => ?_) (fun c_2 => ?_)
    · skip
      refine lv_iconst (v := 0) hx hb dX2_disturbs_26 (by decide) ?_
      obtain rfl : 0 = res := by (rw [← hres]) <;> (simp [Fdisturbs, c_1, c_2, Int32.not_le.mpr c_2])
      rw [hQ0]
      exact x_iret hx hb hret hlocks rfl hW rfl dX2_disturbs_27
    · skip
      refine lv_iconst (v := 1) hx hb dX2_disturbs_22 (by decide) ?_
      refine lv_goto (tgt := 27) hx hb dX2_disturbs_23 (by decide) ?_
      obtain rfl : 1 = res := by (rw [← hres]) <;> (simp [Fdisturbs, c_1, c_2, Int32.not_lt.mp c_2])
      rw [hQ0]
      exact x_iret hx hb hret hlocks rfl hW rfl dX2_disturbs_27
set_option maxHeartbeats 4000000 in
set_option maxRecDepth 100000 in
theorem c_X2_wake (l : Launch) (X : xX) (G : xG) {r i : Nat} {f sg : Nat → Int32} {L O Y P Q : Nat → Nat → Int32} {ℓ : Nat → Int32} {aw : Int32} (hr : r < 11) (hi : i < 16)  : XC l yX2_wake cX2_wake 2 none 0 0 0 0 X xsh [.ref (xB X + xkey r 2 i), .int aw] 603 603 (xval (xB X) (va_up G r (xSt f sg (va_up L i ℓ) O Y P Q))) (xval (xB X) (va_up G r (xSt f sg (va_up L i (va_up (va_up (va_up ℓ 2 2) 4 aw) 11 1)) O Y P Q))) none := by
  refine XC.of RX2 "wake" [(0, .ref (xB X + xkey r 2 i)), (1, .int aw)] (by decide) rfl rfl (Nat.le_of_ble_eq_true rfl) rfl ?_
  intro p e s m args below meth c ls hx hb hret hml hts hown hlocks hnm hK hW hl
  have hW : XR X G r (xSt f sg (va_up L i ℓ) O Y P Q) s.heap [] := hW
  obtain ⟨Q0, hQ0⟩ : ∃ z, z = MQ below (xQ X xsh 603 (xval (xB X) (va_up G r (xSt f sg (va_up L i (va_up (va_up (va_up ℓ 2 2) 4 aw) 11 1)) O Y P Q))) none) args s 0 0 (fun q => xB X ≤ q) := ⟨_, rfl⟩
  rw [← hQ0]
  refine lv_aload_n hx hb dX2_wake_0 rfl (lv_at hl 0 rfl) ?_
  refine lv_iconst (v := 2) hx hb dX2_wake_1 (by decide) ?_
  refine r_put hx hb hts hown hK hW (C := RX2) (T := TX2) (xF_lamp r hr i hi) inlX2 tyX2 tyX2_ok nmX2 rfl (by decide) 2 (by decide) (xr_lamp r hr i hi 2 (by decide)) xw_113 rfl rfl rfl rfl xSt2f dX2_wake_2 (fun H locs hW => ?_)
  refine lv_aload_n hx hb dX2_wake_5 rfl (lv_at hl 0 rfl) ?_
  refine lv_iload_n hx hb dX2_wake_6 rfl (lv_at hl 1 rfl) ?_
  refine r_put hx hb hts hown hK hW (C := RX2) (T := TX2) (xF_lamp r hr i hi) inlX2 tyX2 tyX2_ok nmX2 rfl (by decide) 4 (by decide) (xr_lamp r hr i hi 4 (by decide)) xw_115 rfl rfl rfl rfl xSt2f dX2_wake_7 (fun H locs hW => ?_)
  refine lv_aload_n hx hb dX2_wake_10 rfl (lv_at hl 0 rfl) ?_
  refine lv_iconst (v := 1) hx hb dX2_wake_11 (by decide) ?_
  refine r_put hx hb hts hown hK hW (C := RX2) (T := TX2) (xF_lamp r hr i hi) inlX2 tyX2 tyX2_ok nmX2 rfl (by decide) 11 (by decide) (xr_lamp r hr i hi 11 (by decide)) xw_339 rfl rfl rfl rfl xSt2f dX2_wake_12 (fun H locs hW => ?_)
  rw [hQ0]
  exact x_vret hx hb hret hlocks hW rfl dX2_wake_15
set_option maxHeartbeats 4000000 in
set_option maxRecDepth 100000 in
theorem c_X2_hear (l : Launch) (X : xX) (G : xG) {r i : Nat} {f sg : Nat → Int32} {L O Y P Q : Nat → Nat → Int32} {ℓ : Nat → Int32} {rk : Int32} (hr : r < 11) (hi : i < 16) {ℓ' : Nat → Int32} (ho0 : (Fhear rk sg ℓ) = ℓ') : XC l yX2_hear cX2_hear 3 none 1 21 0 0 X xsh [.ref (xB X + xkey r 2 i), .int rk, .ref (xB X + xkey r 1 0)] 603 603 (xval (xB X) (va_up G r (xSt f sg (va_up L i ℓ) O Y P Q))) (xval (xB X) (va_up G r (xSt f sg (va_up L i ℓ') O Y P Q))) none := by
  refine XC.of RX2 "hear" [(0, .ref (xB X + xkey r 2 i)), (1, .int rk), (2, .ref (xB X + xkey r 1 0))] (by decide) rfl rfl (Nat.le_of_ble_eq_true rfl) rfl ?_
  intro p e s m args below meth c ls hx hb hret hml hts hown hlocks hnm hK hW hl
  have hW : XR X G r (xSt f sg (va_up L i ℓ) O Y P Q) s.heap [] := hW
  obtain ⟨Q0, hQ0⟩ : ∃ z, z = MQ below (xQ X xsh 603 (xval (xB X) (va_up G r (xSt f sg (va_up L i ℓ') O Y P Q))) none) args s 0 0 (fun q => xB X ≤ q) := ⟨_, rfl⟩
  rw [← hQ0]
  refine lv_aload_n hx hb dX2_hear_0 rfl (lv_at hl 0 rfl) ?_
  refine lv_dup hx hb dX2_hear_1 rfl ?_
  refine r_get hx hb hts hown hK hW (C := RX2) (T := TX2) (xF_lamp r hr i hi) inlX2 rfl (by decide) 9 (by decide) (xr_lamp r hr i hi 9 (by decide)) xw_120 rfl (x := ℓ 9) (show (va_up L i ℓ) i 9 = ℓ 9 from xrd rfl) dX2_hear_2 ?_
  refine lv_iconst (v := 1) hx hb dX2_hear_5 (by decide) ?_
  refine lv_iadd hx hb dX2_hear_6 ?_
  refine r_put hx hb hts hown hK hW (C := RX2) (T := TX2) (xF_lamp r hr i hi) inlX2 tyX2 tyX2_ok nmX2 rfl (by decide) 9 (by decide) (xr_lamp r hr i hi 9 (by decide)) xw_120 rfl rfl rfl rfl xSt2f dX2_hear_7 (fun H locs hW => ?_)
  refine lv_aload_n hx hb dX2_hear_10 rfl (lv_at hl 0 rfl) ?_
  refine lv_aload_n hx hb dX2_hear_11 rfl (lv_at hl 2 rfl) ?_
  refine lv_iconst (v := 2) hx hb dX2_hear_12 (by decide) ?_
  refine r_iald hx hb hK hW (N := 6) (xF_sett r hr) 2 (by decide) (by decide) (by decide) (xr_sett r hr 2 (by decide)) (x := sg 2) rfl dX2_hear_13 ?_
  refine x_callV hx hb hml hown hts hK hW hl.1 (c_X2_wake l X G (r := r) (i := i) (aw := sg 2) (hr := hr) (hi := hi) ) (xF_lamp r hr i hi).1 (xF_lamp r hr i hi).2.1 (by decide) rfl xw_361 xw_362 xw_363 xw_46 xw_364 hdV_yX2_wake ⟨Nat.le_of_ble_eq_true rfl, Nat.le_of_ble_eq_true rfl⟩ rfl (Nat.le_of_ble_eq_true rfl) ⟨Nat.le_refl _, Nat.le_refl _⟩ dX2_hear_14 (fun H locs hW => ?_)
  have hW : XR X G r (xSt f sg (va_up L i (va_up (va_up (va_up (va_up ℓ 9 ((ℓ 9) + 1)) 2 2) 4 (sg 2)) 11 1)) O Y P Q) H locs := hW
  refine lv_iload_n hx hb dX2_hear_17 rfl (lv_at hl 1 rfl) ?_
  refine lv_aload_n hx hb dX2_hear_18 rfl (lv_at hl 2 rfl) ?_
  refine lv_iconst (v := 5) hx hb dX2_hear_19 (by decide) ?_
  refine r_iald hx hb hK hW (N := 6) (xF_sett r hr) 5 (by decide) (by decide) (by decide) (xr_sett r hr 5 (by decide)) (x := sg 5) rfl dX2_hear_20 ?_
  refine lv_icmp_ge (tgt := 54) hx hb dX2_hear_21 (by decide) (fun c_1 => ?_) (fun c_1 => ?_)
  · skip
    obtain rfl : (va_up (va_up (va_up (va_up ℓ 9 ((ℓ 9) + 1)) 2 2) 4 (sg 2)) 11 1) = ℓ' := by (rw [← ho0]) <;> (simp [Fhear, Fwake, c_1, Int32.not_lt.mpr c_1])
    rw [hQ0]
    exact x_vret hx hb hret hlocks hW rfl dX2_hear_54
  · skip
    refine lv_aload_n hx hb dX2_hear_24 rfl (lv_at hl 0 rfl) ?_
    refine r_get hx hb hts hown hK hW (C := RX2) (T := TX2) (xF_lamp r hr i hi) inlX2 rfl (by decide) 5 (by decide) (xr_lamp r hr i hi 5 (by decide)) xw_116 rfl (x := ℓ 5) (show (va_up L i (va_up (va_up (va_up (va_up ℓ 9 ((ℓ 9) + 1)) 2 2) 4 (sg 2)) 11 1)) i 5 = ℓ 5 from xrd rfl) dX2_hear_25 ?_
    refine lv_bipush (v := (-6)) hx hb dX2_hear_28 (by decide) ?_
    refine lv_icmp_ne (tgt := 54) hx hb dX2_hear_30 (by decide) (fun c_2 => ?_) (fun c_2 => ?_)
    · skip
      obtain rfl : (va_up (va_up (va_up (va_up ℓ 9 ((ℓ 9) + 1)) 2 2) 4 (sg 2)) 11 1) = ℓ' := by (rw [← ho0]) <;> (simp [Fhear, Fwake, c_1, Int32.not_le.mp c_1, c_2])
      rw [hQ0]
      exact x_vret hx hb hret hlocks hW rfl dX2_hear_54
    · skip
      refine lv_aload_n hx hb dX2_hear_33 rfl (lv_at hl 0 rfl) ?_
      refine r_get hx hb hts hown hK hW (C := RX2) (T := TX2) (xF_lamp r hr i hi) inlX2 rfl (by decide) 12 (by decide) (xr_lamp r hr i hi 12 (by decide)) xw_340 rfl (x := ℓ 12) (show (va_up L i (va_up (va_up (va_up (va_up ℓ 9 ((ℓ 9) + 1)) 2 2) 4 (sg 2)) 11 1)) i 12 = ℓ 12 from xrd rfl) dX2_hear_34 ?_
      refine lv_if_ne (tgt := 54) hx hb dX2_hear_37 (by decide) (fun c_3 => ?_) (fun c_3 => ?_)
      · skip
        obtain rfl : (va_up (va_up (va_up (va_up ℓ 9 ((ℓ 9) + 1)) 2 2) 4 (sg 2)) 11 1) = ℓ' := by (rw [← ho0]) <;> (simp [Fhear, Fwake, c_1, Int32.not_le.mp c_1, c_2, c_3])
        rw [hQ0]
        exact x_vret hx hb hret hlocks hW rfl dX2_hear_54
      · skip
        refine lv_aload_n hx hb dX2_hear_40 rfl (lv_at hl 0 rfl) ?_
        refine lv_aload_n hx hb dX2_hear_41 rfl (lv_at hl 2 rfl) ?_
        refine lv_iconst (v := 4) hx hb dX2_hear_42 (by decide) ?_
        refine r_iald hx hb hK hW (N := 6) (xF_sett r hr) 4 (by decide) (by decide) (by decide) (xr_sett r hr 4 (by decide)) (x := sg 4) rfl dX2_hear_43 ?_
        refine r_put hx hb hts hown hK hW (C := RX2) (T := TX2) (xF_lamp r hr i hi) inlX2 tyX2 tyX2_ok nmX2 rfl (by decide) 5 (by decide) (xr_lamp r hr i hi 5 (by decide)) xw_116 rfl rfl rfl rfl xSt2f dX2_hear_44 (fun H locs hW => ?_)
        refine lv_aload_n hx hb dX2_hear_47 rfl (lv_at hl 0 rfl) ?_
        refine lv_iload_n hx hb dX2_hear_48 rfl (lv_at hl 1 rfl) ?_
        refine lv_iconst (v := 1) hx hb dX2_hear_49 (by decide) ?_
        refine lv_iadd hx hb dX2_hear_50 ?_
        refine r_put hx hb hts hown hK hW (C := RX2) (T := TX2) (xF_lamp r hr i hi) inlX2 tyX2 tyX2_ok nmX2 rfl (by decide) 6 (by decide) (xr_lamp r hr i hi 6 (by decide)) xw_117 rfl rfl rfl rfl xSt2f dX2_hear_51 (fun H locs hW => ?_)
        obtain rfl : (va_up (va_up (va_up (va_up (va_up (va_up ℓ 9 ((ℓ 9) + 1)) 2 2) 4 (sg 2)) 11 1) 5 (sg 4)) 6 (rk + 1)) = ℓ' := by (rw [← ho0]) <;> (simp [Fhear, Fwake, c_1, Int32.not_le.mp c_1, c_2, c_3])
        rw [hQ0]
        exact x_vret hx hb hret hlocks hW rfl dX2_hear_54
set_option maxHeartbeats 4000000 in
set_option maxRecDepth 100000 in
theorem c_X2_takeTurn (l : Launch) (X : xX) (G : xG) {r i : Nat} {f sg : Nat → Int32} {L O Y P Q : Nat → Nat → Int32} {ℓ : Nat → Int32}  (hr : r < 11) (hi : i < 16)  : XC l yX2_takeTurn cX2_takeTurn 1 none 0 0 0 0 X xsh [.ref (xB X + xkey r 2 i)] 603 603 (xval (xB X) (va_up G r (xSt f sg (va_up L i ℓ) O Y P Q))) (xval (xB X) (va_up G r (xSt f sg (va_up L i (va_up (va_up ℓ 5 (-6)) 12 1)) O Y P Q))) none := by
  refine XC.of RX2 "takeTurn" [(0, .ref (xB X + xkey r 2 i))] (by decide) rfl rfl (Nat.le_of_ble_eq_true rfl) rfl ?_
  intro p e s m args below meth c ls hx hb hret hml hts hown hlocks hnm hK hW hl
  have hW : XR X G r (xSt f sg (va_up L i ℓ) O Y P Q) s.heap [] := hW
  obtain ⟨Q0, hQ0⟩ : ∃ z, z = MQ below (xQ X xsh 603 (xval (xB X) (va_up G r (xSt f sg (va_up L i (va_up (va_up ℓ 5 (-6)) 12 1)) O Y P Q))) none) args s 0 0 (fun q => xB X ≤ q) := ⟨_, rfl⟩
  rw [← hQ0]
  refine lv_aload_n hx hb dX2_takeTurn_0 rfl (lv_at hl 0 rfl) ?_
  refine lv_bipush (v := (-6)) hx hb dX2_takeTurn_1 (by decide) ?_
  refine r_put hx hb hts hown hK hW (C := RX2) (T := TX2) (xF_lamp r hr i hi) inlX2 tyX2 tyX2_ok nmX2 rfl (by decide) 5 (by decide) (xr_lamp r hr i hi 5 (by decide)) xw_116 rfl rfl rfl rfl xSt2f dX2_takeTurn_3 (fun H locs hW => ?_)
  refine lv_aload_n hx hb dX2_takeTurn_6 rfl (lv_at hl 0 rfl) ?_
  refine lv_iconst (v := 1) hx hb dX2_takeTurn_7 (by decide) ?_
  refine r_put hx hb hts hown hK hW (C := RX2) (T := TX2) (xF_lamp r hr i hi) inlX2 tyX2 tyX2_ok nmX2 rfl (by decide) 12 (by decide) (xr_lamp r hr i hi 12 (by decide)) xw_340 rfl rfl rfl rfl xSt2f dX2_takeTurn_8 (fun H locs hW => ?_)
  rw [hQ0]
  exact x_vret hx hb hret hlocks hW rfl dX2_takeTurn_11
set_option maxHeartbeats 4000000 in
set_option maxRecDepth 100000 in
theorem c_X2_fade (l : Launch) (X : xX) (G : xG) {r i : Nat} {f sg : Nat → Int32} {L O Y P Q : Nat → Nat → Int32} {ℓ : Nat → Int32} {dim : Int32} (hr : r < 11) (hi : i < 16) {ℓ' : Nat → Int32} (ho0 : (Ffade dim ℓ) = ℓ') : XC l yX2_fade cX2_fade 2 none 0 0 0 0 X xsh [.ref (xB X + xkey r 2 i), .int dim] 603 603 (xval (xB X) (va_up G r (xSt f sg (va_up L i ℓ) O Y P Q))) (xval (xB X) (va_up G r (xSt f sg (va_up L i ℓ') O Y P Q))) none := by
  refine XC.of RX2 "fade" [(0, .ref (xB X + xkey r 2 i)), (1, .int dim)] (by decide) rfl rfl (Nat.le_of_ble_eq_true rfl) rfl ?_
  intro p e s m args below meth c ls hx hb hret hml hts hown hlocks hnm hK hW hl
  have hW : XR X G r (xSt f sg (va_up L i ℓ) O Y P Q) s.heap [] := hW
  obtain ⟨Q0, hQ0⟩ : ∃ z, z = MQ below (xQ X xsh 603 (xval (xB X) (va_up G r (xSt f sg (va_up L i ℓ') O Y P Q))) none) args s 0 0 (fun q => xB X ≤ q) := ⟨_, rfl⟩
  rw [← hQ0]
  refine lv_aload_n hx hb dX2_fade_0 rfl (lv_at hl 0 rfl) ?_
  refine r_get hx hb hts hown hK hW (C := RX2) (T := TX2) (xF_lamp r hr i hi) inlX2 rfl (by decide) 2 (by decide) (xr_lamp r hr i hi 2 (by decide)) xw_113 rfl (x := ℓ 2) (show (va_up L i ℓ) i 2 = ℓ 2 from xrd rfl) dX2_fade_1 ?_
  refine lv_if_eq (tgt := 14) hx hb dX2_fade_4 (by decide) (fun c_1 => ?_) (fun c_1 => ?_)
  · skip
    obtain rfl : ℓ = ℓ' := by (rw [← ho0]) <;> (simp [Ffade, c_1])
    rw [hQ0]
    exact x_vret hx hb hret hlocks hW rfl dX2_fade_14
  · skip
    refine lv_aload_n hx hb dX2_fade_7 rfl (lv_at hl 0 rfl) ?_
    refine r_get hx hb hts hown hK hW (C := RX2) (T := TX2) (xF_lamp r hr i hi) inlX2 rfl (by decide) 11 (by decide) (xr_lamp r hr i hi 11 (by decide)) xw_339 rfl (x := ℓ 11) (show (va_up L i ℓ) i 11 = ℓ 11 from xrd rfl) dX2_fade_8 ?_
    refine lv_if_eq (tgt := 15) hx hb dX2_fade_11 (by decide) (fun c_2 => ?_) (fun c_2 => ?_)
    · skip
      refine lv_aload_n hx hb dX2_fade_15 rfl (lv_at hl 0 rfl) ?_
      refine lv_dup hx hb dX2_fade_16 rfl ?_
      refine r_get hx hb hts hown hK hW (C := RX2) (T := TX2) (xF_lamp r hr i hi) inlX2 rfl (by decide) 4 (by decide) (xr_lamp r hr i hi 4 (by decide)) xw_115 rfl (x := ℓ 4) (show (va_up L i ℓ) i 4 = ℓ 4 from xrd rfl) dX2_fade_17 ?_
      refine lv_iconst (v := 1) hx hb dX2_fade_20 (by decide) ?_
      refine lv_isub hx hb dX2_fade_21 ?_
      refine r_put hx hb hts hown hK hW (C := RX2) (T := TX2) (xF_lamp r hr i hi) inlX2 tyX2 tyX2_ok nmX2 rfl (by decide) 4 (by decide) (xr_lamp r hr i hi 4 (by decide)) xw_115 rfl rfl rfl rfl xSt2f dX2_fade_22 (fun H locs hW => ?_)
      refine lv_aload_n hx hb dX2_fade_25 rfl (lv_at hl 0 rfl) ?_
      refine r_get hx hb hts hown hK hW (C := RX2) (T := TX2) (xF_lamp r hr i hi) inlX2 rfl (by decide) 4 (by decide) (xr_lamp r hr i hi 4 (by decide)) xw_115 rfl (x := (ℓ 4) - 1) (show (va_up L i (va_up ℓ 4 ((ℓ 4) - 1))) i 4 = (ℓ 4) - 1 from xrd rfl) dX2_fade_26 ?_
      refine lv_if_le (tgt := 33) hx hb dX2_fade_29 (by decide) (fun c_3 => ?_) (fun c_3 => ?_)
      · skip
        refine lv_aload_n hx hb dX2_fade_33 rfl (lv_at hl 0 rfl) ?_
        refine r_get hx hb hts hown hK hW (C := RX2) (T := TX2) (xF_lamp r hr i hi) inlX2 rfl (by decide) 2 (by decide) (xr_lamp r hr i hi 2 (by decide)) xw_113 rfl (x := ℓ 2) (show (va_up L i (va_up ℓ 4 ((ℓ 4) - 1))) i 2 = ℓ 2 from xrd rfl) dX2_fade_34 ?_
        refine lv_iconst (v := 2) hx hb dX2_fade_37 (by decide) ?_
        refine lv_icmp_ne (tgt := 58) hx hb dX2_fade_38 (by decide) (fun c_4 => ?_) (fun c_4 => ?_)
        · skip
          refine lv_aload_n hx hb dX2_fade_58 rfl (lv_at hl 0 rfl) ?_
          refine lv_iconst (v := 0) hx hb dX2_fade_59 (by decide) ?_
          refine r_put hx hb hts hown hK hW (C := RX2) (T := TX2) (xF_lamp r hr i hi) inlX2 tyX2 tyX2_ok nmX2 rfl (by decide) 2 (by decide) (xr_lamp r hr i hi 2 (by decide)) xw_113 rfl rfl rfl rfl xSt2f dX2_fade_60 (fun H locs hW => ?_)
          obtain rfl : (va_up (va_up ℓ 4 ((ℓ 4) - 1)) 2 0) = ℓ' := by (rw [← ho0]) <;> (simp [Ffade, c_1, c_2, c_3, Int32.not_lt.mpr c_3, c_4])
          rw [hQ0]
          exact x_vret hx hb hret hlocks hW rfl dX2_fade_63
        · skip
          refine lv_iload_n hx hb dX2_fade_41 rfl (lv_at hl 1 rfl) ?_
          refine lv_if_le (tgt := 58) hx hb dX2_fade_42 (by decide) (fun c_5 => ?_) (fun c_5 => ?_)
          · skip
            refine lv_aload_n hx hb dX2_fade_58 rfl (lv_at hl 0 rfl) ?_
            refine lv_iconst (v := 0) hx hb dX2_fade_59 (by decide) ?_
            refine r_put hx hb hts hown hK hW (C := RX2) (T := TX2) (xF_lamp r hr i hi) inlX2 tyX2 tyX2_ok nmX2 rfl (by decide) 2 (by decide) (xr_lamp r hr i hi 2 (by decide)) xw_113 rfl rfl rfl rfl xSt2f dX2_fade_60 (fun H locs hW => ?_)
            obtain rfl : (va_up (va_up ℓ 4 ((ℓ 4) - 1)) 2 0) = ℓ' := by (rw [← ho0]) <;> (simp [Ffade, c_1, c_2, c_3, Int32.not_lt.mpr c_3, c_4, c_5, Int32.not_lt.mpr c_5])
            rw [hQ0]
            exact x_vret hx hb hret hlocks hW rfl dX2_fade_63
          · skip
            refine lv_aload_n hx hb dX2_fade_45 rfl (lv_at hl 0 rfl) ?_
            refine lv_iconst (v := 1) hx hb dX2_fade_46 (by decide) ?_
            refine r_put hx hb hts hown hK hW (C := RX2) (T := TX2) (xF_lamp r hr i hi) inlX2 tyX2 tyX2_ok nmX2 rfl (by decide) 2 (by decide) (xr_lamp r hr i hi 2 (by decide)) xw_113 rfl rfl rfl rfl xSt2f dX2_fade_47 (fun H locs hW => ?_)
            refine lv_aload_n hx hb dX2_fade_50 rfl (lv_at hl 0 rfl) ?_
            refine lv_iload_n hx hb dX2_fade_51 rfl (lv_at hl 1 rfl) ?_
            refine r_put hx hb hts hown hK hW (C := RX2) (T := TX2) (xF_lamp r hr i hi) inlX2 tyX2 tyX2_ok nmX2 rfl (by decide) 4 (by decide) (xr_lamp r hr i hi 4 (by decide)) xw_115 rfl rfl rfl rfl xSt2f dX2_fade_52 (fun H locs hW => ?_)
            refine lv_goto (tgt := 63) hx hb dX2_fade_55 (by decide) ?_
            obtain rfl : (va_up (va_up (va_up ℓ 4 ((ℓ 4) - 1)) 2 1) 4 dim) = ℓ' := by (rw [← ho0]) <;> (simp [Ffade, c_1, c_2, c_3, Int32.not_lt.mpr c_3, c_4, c_5, Int32.not_le.mp c_5])
            rw [hQ0]
            exact x_vret hx hb hret hlocks hW rfl dX2_fade_63
      · skip
        obtain rfl : (va_up ℓ 4 ((ℓ 4) - 1)) = ℓ' := by (rw [← ho0]) <;> (simp [Ffade, c_1, c_2, c_3, Int32.not_le.mp c_3])
        rw [hQ0]
        exact x_vret hx hb hret hlocks hW rfl dX2_fade_32
    · skip
      obtain rfl : ℓ = ℓ' := by (rw [← ho0]) <;> (simp [Ffade, c_1, c_2])
      rw [hQ0]
      exact x_vret hx hb hret hlocks hW rfl dX2_fade_14
set_option maxHeartbeats 4000000 in
set_option maxRecDepth 100000 in
theorem c_X2_useLight (l : Launch) (X : xX) (G : xG) {r i : Nat} {f sg : Nat → Int32} {L O Y P Q : Nat → Nat → Int32} {ℓ : Nat → Int32}  (hr : r < 11) (hi : i < 16) {ℓ' : Nat → Int32} (ho0 : (Fuse ℓ) = ℓ') : XC l yX2_useLight cX2_useLight 1 none 0 0 0 0 X xsh [.ref (xB X + xkey r 2 i)] 603 603 (xval (xB X) (va_up G r (xSt f sg (va_up L i ℓ) O Y P Q))) (xval (xB X) (va_up G r (xSt f sg (va_up L i ℓ') O Y P Q))) none := by
  refine XC.of RX2 "useLight" [(0, .ref (xB X + xkey r 2 i))] (by decide) rfl rfl (Nat.le_of_ble_eq_true rfl) rfl ?_
  intro p e s m args below meth c ls hx hb hret hml hts hown hlocks hnm hK hW hl
  have hW : XR X G r (xSt f sg (va_up L i ℓ) O Y P Q) s.heap [] := hW
  obtain ⟨Q0, hQ0⟩ : ∃ z, z = MQ below (xQ X xsh 603 (xval (xB X) (va_up G r (xSt f sg (va_up L i ℓ') O Y P Q))) none) args s 0 0 (fun q => xB X ≤ q) := ⟨_, rfl⟩
  rw [← hQ0]
  refine lv_aload_n hx hb dX2_useLight_0 rfl (lv_at hl 0 rfl) ?_
  refine r_get hx hb hts hown hK hW (C := RX2) (T := TX2) (xF_lamp r hr i hi) inlX2 rfl (by decide) 2 (by decide) (xr_lamp r hr i hi 2 (by decide)) xw_113 rfl (x := ℓ 2) (show (va_up L i ℓ) i 2 = ℓ 2 from xrd rfl) dX2_useLight_1 ?_
  refine lv_iconst (v := 2) hx hb dX2_useLight_4 (by decide) ?_
  refine lv_icmp_ne (tgt := 21) hx hb dX2_useLight_5 (by decide) (fun c_1 => ?_) (fun c_1 => ?_)
  · skip
    refine lv_aload_n hx hb dX2_useLight_21 rfl (lv_at hl 0 rfl) ?_
    refine r_get hx hb hts hown hK hW (C := RX2) (T := TX2) (xF_lamp r hr i hi) inlX2 rfl (by decide) 2 (by decide) (xr_lamp r hr i hi 2 (by decide)) xw_113 rfl (x := ℓ 2) (show (va_up L i ℓ) i 2 = ℓ 2 from xrd rfl) dX2_useLight_22 ?_
    refine lv_iconst (v := 1) hx hb dX2_useLight_25 (by decide) ?_
    refine lv_icmp_ne (tgt := 39) hx hb dX2_useLight_26 (by decide) (fun c_2 => ?_) (fun c_2 => ?_)
    · skip
      obtain rfl : ℓ = ℓ' := by (rw [← ho0]) <;> (simp [Fuse, c_1, c_2])
      rw [hQ0]
      exact x_vret hx hb hret hlocks hW rfl dX2_useLight_39
    · skip
      refine lv_aload_n hx hb dX2_useLight_29 rfl (lv_at hl 0 rfl) ?_
      refine lv_dup hx hb dX2_useLight_30 rfl ?_
      refine r_get hx hb hts hown hK hW (C := RX2) (T := TX2) (xF_lamp r hr i hi) inlX2 rfl (by decide) 7 (by decide) (xr_lamp r hr i hi 7 (by decide)) xw_118 rfl (x := ℓ 7) (show (va_up L i ℓ) i 7 = ℓ 7 from xrd rfl) dX2_useLight_31 ?_
      refine lv_iconst (v := 1) hx hb dX2_useLight_34 (by decide) ?_
      refine lv_iadd hx hb dX2_useLight_35 ?_
      refine r_put hx hb hts hown hK hW (C := RX2) (T := TX2) (xF_lamp r hr i hi) inlX2 tyX2 tyX2_ok nmX2 rfl (by decide) 7 (by decide) (xr_lamp r hr i hi 7 (by decide)) xw_118 rfl rfl rfl rfl xSt2f dX2_useLight_36 (fun H locs hW => ?_)
      obtain rfl : (va_up ℓ 7 ((ℓ 7) + 1)) = ℓ' := by (rw [← ho0]) <;> (simp [Fuse, c_1, c_2])
      rw [hQ0]
      exact x_vret hx hb hret hlocks hW rfl dX2_useLight_39
  · skip
    refine lv_aload_n hx hb dX2_useLight_8 rfl (lv_at hl 0 rfl) ?_
    refine lv_dup hx hb dX2_useLight_9 rfl ?_
    refine r_get hx hb hts hown hK hW (C := RX2) (T := TX2) (xF_lamp r hr i hi) inlX2 rfl (by decide) 7 (by decide) (xr_lamp r hr i hi 7 (by decide)) xw_118 rfl (x := ℓ 7) (show (va_up L i ℓ) i 7 = ℓ 7 from xrd rfl) dX2_useLight_10 ?_
    refine lv_iconst (v := 4) hx hb dX2_useLight_13 (by decide) ?_
    refine lv_iadd hx hb dX2_useLight_14 ?_
    refine r_put hx hb hts hown hK hW (C := RX2) (T := TX2) (xF_lamp r hr i hi) inlX2 tyX2 tyX2_ok nmX2 rfl (by decide) 7 (by decide) (xr_lamp r hr i hi 7 (by decide)) xw_118 rfl rfl rfl rfl xSt2f dX2_useLight_15 (fun H locs hW => ?_)
    refine lv_goto (tgt := 39) hx hb dX2_useLight_18 (by decide) ?_
    obtain rfl : (va_up ℓ 7 ((ℓ 7) + 4)) = ℓ' := by (rw [← ho0]) <;> (simp [Fuse, c_1])
    rw [hQ0]
    exact x_vret hx hb hret hlocks hW rfl dX2_useLight_39
set_option maxHeartbeats 4000000 in
set_option maxRecDepth 100000 in
theorem c_X2_becomes (l : Launch) (X : xX) (G : xG) {r i : Nat} {f sg : Nat → Int32} {L O Y P Q : Nat → Nat → Int32} {ℓ : Nat → Int32} {how : Int32} (hr : r < 11) (hi : i < 16) {ℓ' : Nat → Int32} (ho0 : (Fbecomes how ℓ) = ℓ') : XC l yX2_becomes cX2_becomes 2 none 0 0 0 0 X xsh [.ref (xB X + xkey r 2 i), .int how] 603 603 (xval (xB X) (va_up G r (xSt f sg (va_up L i ℓ) O Y P Q))) (xval (xB X) (va_up G r (xSt f sg (va_up L i ℓ') O Y P Q))) none := by
  refine XC.of RX2 "becomes" [(0, .ref (xB X + xkey r 2 i)), (1, .int how)] (by decide) rfl rfl (Nat.le_of_ble_eq_true rfl) rfl ?_
  intro p e s m args below meth c ls hx hb hret hml hts hown hlocks hnm hK hW hl
  have hW : XR X G r (xSt f sg (va_up L i ℓ) O Y P Q) s.heap [] := hW
  obtain ⟨Q0, hQ0⟩ : ∃ z, z = MQ below (xQ X xsh 603 (xval (xB X) (va_up G r (xSt f sg (va_up L i ℓ') O Y P Q))) none) args s 0 0 (fun q => xB X ≤ q) := ⟨_, rfl⟩
  rw [← hQ0]
  refine lv_aload_n hx hb dX2_becomes_0 rfl (lv_at hl 0 rfl) ?_
  refine lv_iload_n hx hb dX2_becomes_1 rfl (lv_at hl 1 rfl) ?_
  refine r_put hx hb hts hown hK hW (C := RX2) (T := TX2) (xF_lamp r hr i hi) inlX2 tyX2 tyX2_ok nmX2 rfl (by decide) 3 (by decide) (xr_lamp r hr i hi 3 (by decide)) xw_114 rfl rfl rfl rfl xSt2f dX2_becomes_2 (fun H locs hW => ?_)
  refine lv_aload_n hx hb dX2_becomes_5 rfl (lv_at hl 0 rfl) ?_
  refine r_get hx hb hts hown hK hW (C := RX2) (T := TX2) (xF_lamp r hr i hi) inlX2 rfl (by decide) 3 (by decide) (xr_lamp r hr i hi 3 (by decide)) xw_114 rfl (x := how) (show (va_up L i (va_up ℓ 3 how)) i 3 = how from xrd rfl) dX2_becomes_6 ?_
  refine lv_iconst (v := 2) hx hb dX2_becomes_9 (by decide) ?_
  refine lv_icmp_ne (tgt := 29) hx hb dX2_becomes_10 (by decide) (fun c_1 => ?_) (fun c_1 => ?_)
  · skip
    obtain rfl : (va_up ℓ 3 how) = ℓ' := by (rw [← ho0]) <;> (simp [Fbecomes, c_1])
    rw [hQ0]
    exact x_vret hx hb hret hlocks hW rfl dX2_becomes_29
  · skip
    refine lv_aload_n hx hb dX2_becomes_13 rfl (lv_at hl 0 rfl) ?_
    refine lv_iconst (v := 0) hx hb dX2_becomes_14 (by decide) ?_
    refine r_put hx hb hts hown hK hW (C := RX2) (T := TX2) (xF_lamp r hr i hi) inlX2 tyX2 tyX2_ok nmX2 rfl (by decide) 2 (by decide) (xr_lamp r hr i hi 2 (by decide)) xw_113 rfl rfl rfl rfl xSt2f dX2_becomes_15 (fun H locs hW => ?_)
    refine lv_aload_n hx hb dX2_becomes_18 rfl (lv_at hl 0 rfl) ?_
    refine lv_iconst (v := 0) hx hb dX2_becomes_19 (by decide) ?_
    refine r_put hx hb hts hown hK hW (C := RX2) (T := TX2) (xF_lamp r hr i hi) inlX2 tyX2 tyX2_ok nmX2 rfl (by decide) 4 (by decide) (xr_lamp r hr i hi 4 (by decide)) xw_115 rfl rfl rfl rfl xSt2f dX2_becomes_20 (fun H locs hW => ?_)
    refine lv_aload_n hx hb dX2_becomes_23 rfl (lv_at hl 0 rfl) ?_
    refine lv_bipush (v := (-6)) hx hb dX2_becomes_24 (by decide) ?_
    refine r_put hx hb hts hown hK hW (C := RX2) (T := TX2) (xF_lamp r hr i hi) inlX2 tyX2 tyX2_ok nmX2 rfl (by decide) 5 (by decide) (xr_lamp r hr i hi 5 (by decide)) xw_116 rfl rfl rfl rfl xSt2f dX2_becomes_26 (fun H locs hW => ?_)
    obtain rfl : (va_up (va_up (va_up (va_up ℓ 3 how) 2 0) 4 0) 5 (-6)) = ℓ' := by (rw [← ho0]) <;> (simp [Fbecomes, c_1])
    rw [hQ0]
    exact x_vret hx hb hret hlocks hW rfl dX2_becomes_29
set_option maxHeartbeats 4000000 in
set_option maxRecDepth 100000 in
theorem c_X2_tell (l : Launch) (X : xX) (G : xG) {r i : Nat} {f sg : Nat → Int32} {L O Y P Q : Nat → Nat → Int32} {ℓ : Nat → Int32} {x : Int32} (hr : r < 11) (hi : i < 16) {res : Int32} (hres : (Ftell ℓ x) = res) : XC l yX2_tell cX2_tell 2 (some .int) 0 0 0 0 X xsh [.ref (xB X + xkey r 2 i), .int x] 603 603 (xval (xB X) (va_up G r (xSt f sg (va_up L i ℓ) O Y P Q))) (xval (xB X) (va_up G r (xSt f sg (va_up L i ℓ) O Y P Q))) (some (.int res)) := by
  refine XC.of RX2 "tell" [(0, .ref (xB X + xkey r 2 i)), (1, .int x)] (by decide) rfl rfl (Nat.le_of_ble_eq_true rfl) rfl ?_
  intro p e s m args below meth c ls hx hb hret hml hts hown hlocks hnm hK hW hl
  have hW : XR X G r (xSt f sg (va_up L i ℓ) O Y P Q) s.heap [] := hW
  obtain ⟨Q0, hQ0⟩ : ∃ z, z = MQ below (xQ X xsh 603 (xval (xB X) (va_up G r (xSt f sg (va_up L i ℓ) O Y P Q))) (some (.int res))) args s 0 0 (fun q => xB X ≤ q) := ⟨_, rfl⟩
  rw [← hQ0]
  refine lv_iload_n hx hb dX2_tell_0 rfl (lv_at hl 1 rfl) ?_
  by_cases c_1 : x = 0
  · skip
    refine lv_tableIn (off := 59) (tgt := 60) hx hb dX2_tell_1 (by rw [c_1]; decide) (by rw [c_1]; decide) (by rw [c_1]; decide) (by decide) ?_
    refine lv_aload_n hx hb dX2_tell_60 rfl (lv_at hl 0 rfl) ?_
    refine r_get hx hb hts hown hK hW (C := RX2) (T := TX2) (xF_lamp r hr i hi) inlX2 rfl (by decide) 0 (by decide) (xr_lamp r hr i hi 0 (by decide)) xw_111 rfl (x := ℓ 0) (show (va_up L i ℓ) i 0 = ℓ 0 from xrd rfl) dX2_tell_61 ?_
    obtain rfl : ℓ 0 = res := by (rw [← hres]) <;> (simp [Ftell, c_1])
    rw [hQ0]
    exact x_iret hx hb hret hlocks rfl hW rfl dX2_tell_64
  · skip
    by_cases c_2 : x = 1
    · skip
      refine lv_tableIn (off := 64) (tgt := 65) hx hb dX2_tell_1 (by rw [c_2]; decide) (by rw [c_2]; decide) (by rw [c_2]; decide) (by decide) ?_
      refine lv_aload_n hx hb dX2_tell_65 rfl (lv_at hl 0 rfl) ?_
      refine r_get hx hb hts hown hK hW (C := RX2) (T := TX2) (xF_lamp r hr i hi) inlX2 rfl (by decide) 1 (by decide) (xr_lamp r hr i hi 1 (by decide)) xw_112 rfl (x := ℓ 1) (show (va_up L i ℓ) i 1 = ℓ 1 from xrd rfl) dX2_tell_66 ?_
      obtain rfl : ℓ 1 = res := by (rw [← hres]) <;> (simp [Ftell, c_1, c_2])
      rw [hQ0]
      exact x_iret hx hb hret hlocks rfl hW rfl dX2_tell_69
    · skip
      by_cases c_3 : x = 2
      · skip
        refine lv_tableIn (off := 69) (tgt := 70) hx hb dX2_tell_1 (by rw [c_3]; decide) (by rw [c_3]; decide) (by rw [c_3]; decide) (by decide) ?_
        refine lv_aload_n hx hb dX2_tell_70 rfl (lv_at hl 0 rfl) ?_
        refine r_get hx hb hts hown hK hW (C := RX2) (T := TX2) (xF_lamp r hr i hi) inlX2 rfl (by decide) 2 (by decide) (xr_lamp r hr i hi 2 (by decide)) xw_113 rfl (x := ℓ 2) (show (va_up L i ℓ) i 2 = ℓ 2 from xrd rfl) dX2_tell_71 ?_
        obtain rfl : ℓ 2 = res := by (rw [← hres]) <;> (simp [Ftell, c_1, c_2, c_3])
        rw [hQ0]
        exact x_iret hx hb hret hlocks rfl hW rfl dX2_tell_74
      · skip
        by_cases c_4 : x = 3
        · skip
          refine lv_tableIn (off := 74) (tgt := 75) hx hb dX2_tell_1 (by rw [c_4]; decide) (by rw [c_4]; decide) (by rw [c_4]; decide) (by decide) ?_
          refine lv_aload_n hx hb dX2_tell_75 rfl (lv_at hl 0 rfl) ?_
          refine r_get hx hb hts hown hK hW (C := RX2) (T := TX2) (xF_lamp r hr i hi) inlX2 rfl (by decide) 3 (by decide) (xr_lamp r hr i hi 3 (by decide)) xw_114 rfl (x := ℓ 3) (show (va_up L i ℓ) i 3 = ℓ 3 from xrd rfl) dX2_tell_76 ?_
          obtain rfl : ℓ 3 = res := by (rw [← hres]) <;> (simp [Ftell, c_1, c_2, c_3, c_4])
          rw [hQ0]
          exact x_iret hx hb hret hlocks rfl hW rfl dX2_tell_79
        · skip
          by_cases c_5 : x = 4
          · skip
            refine lv_tableIn (off := 79) (tgt := 80) hx hb dX2_tell_1 (by rw [c_5]; decide) (by rw [c_5]; decide) (by rw [c_5]; decide) (by decide) ?_
            refine lv_aload_n hx hb dX2_tell_80 rfl (lv_at hl 0 rfl) ?_
            refine r_get hx hb hts hown hK hW (C := RX2) (T := TX2) (xF_lamp r hr i hi) inlX2 rfl (by decide) 4 (by decide) (xr_lamp r hr i hi 4 (by decide)) xw_115 rfl (x := ℓ 4) (show (va_up L i ℓ) i 4 = ℓ 4 from xrd rfl) dX2_tell_81 ?_
            obtain rfl : ℓ 4 = res := by (rw [← hres]) <;> (simp [Ftell, c_1, c_2, c_3, c_4, c_5])
            rw [hQ0]
            exact x_iret hx hb hret hlocks rfl hW rfl dX2_tell_84
          · skip
            by_cases c_6 : x = 5
            · skip
              refine lv_tableIn (off := 84) (tgt := 85) hx hb dX2_tell_1 (by rw [c_6]; decide) (by rw [c_6]; decide) (by rw [c_6]; decide) (by decide) ?_
              refine lv_aload_n hx hb dX2_tell_85 rfl (lv_at hl 0 rfl) ?_
              refine r_get hx hb hts hown hK hW (C := RX2) (T := TX2) (xF_lamp r hr i hi) inlX2 rfl (by decide) 5 (by decide) (xr_lamp r hr i hi 5 (by decide)) xw_116 rfl (x := ℓ 5) (show (va_up L i ℓ) i 5 = ℓ 5 from xrd rfl) dX2_tell_86 ?_
              obtain rfl : ℓ 5 = res := by (rw [← hres]) <;> (simp [Ftell, c_1, c_2, c_3, c_4, c_5, c_6])
              rw [hQ0]
              exact x_iret hx hb hret hlocks rfl hW rfl dX2_tell_89
            · skip
              by_cases c_7 : x = 6
              · skip
                refine lv_tableIn (off := 89) (tgt := 90) hx hb dX2_tell_1 (by rw [c_7]; decide) (by rw [c_7]; decide) (by rw [c_7]; decide) (by decide) ?_
                refine lv_aload_n hx hb dX2_tell_90 rfl (lv_at hl 0 rfl) ?_
                refine r_get hx hb hts hown hK hW (C := RX2) (T := TX2) (xF_lamp r hr i hi) inlX2 rfl (by decide) 5 (by decide) (xr_lamp r hr i hi 5 (by decide)) xw_116 rfl (x := ℓ 5) (show (va_up L i ℓ) i 5 = ℓ 5 from xrd rfl) dX2_tell_91 ?_
                refine lv_bipush (v := (-6)) hx hb dX2_tell_94 (by decide) ?_
                refine lv_icmp_ne (tgt := 104) hx hb dX2_tell_96 (by decide) (fun c_8 => ?_) (fun c_8 => ?_)
                · skip
                  refine lv_aload_n hx hb dX2_tell_104 rfl (lv_at hl 0 rfl) ?_
                  refine r_get hx hb hts hown hK hW (C := RX2) (T := TX2) (xF_lamp r hr i hi) inlX2 rfl (by decide) 6 (by decide) (xr_lamp r hr i hi 6 (by decide)) xw_117 rfl (x := ℓ 6) (show (va_up L i ℓ) i 6 = ℓ 6 from xrd rfl) dX2_tell_105 ?_
                  obtain rfl : ℓ 6 = res := by (rw [← hres]) <;> (simp [Ftell, c_1, c_2, c_3, c_4, c_5, c_6, c_7, c_8])
                  rw [hQ0]
                  exact x_iret hx hb hret hlocks rfl hW rfl dX2_tell_108
                · skip
                  refine lv_bipush (v := (-6)) hx hb dX2_tell_99 (by decide) ?_
                  refine lv_goto (tgt := 108) hx hb dX2_tell_101 (by decide) ?_
                  obtain rfl : (-6) = res := by (rw [← hres]) <;> (simp [Ftell, c_1, c_2, c_3, c_4, c_5, c_6, c_7, c_8])
                  rw [hQ0]
                  exact x_iret hx hb hret hlocks rfl hW rfl dX2_tell_108
              · skip
                by_cases c_9 : x = 7
                · skip
                  refine lv_tableIn (off := 108) (tgt := 109) hx hb dX2_tell_1 (by rw [c_9]; decide) (by rw [c_9]; decide) (by rw [c_9]; decide) (by decide) ?_
                  refine lv_aload_n hx hb dX2_tell_109 rfl (lv_at hl 0 rfl) ?_
                  refine r_get hx hb hts hown hK hW (C := RX2) (T := TX2) (xF_lamp r hr i hi) inlX2 rfl (by decide) 7 (by decide) (xr_lamp r hr i hi 7 (by decide)) xw_118 rfl (x := ℓ 7) (show (va_up L i ℓ) i 7 = ℓ 7 from xrd rfl) dX2_tell_110 ?_
                  obtain rfl : ℓ 7 = res := by (rw [← hres]) <;> (simp [Ftell, c_1, c_2, c_3, c_4, c_5, c_6, c_7, c_9])
                  rw [hQ0]
                  exact x_iret hx hb hret hlocks rfl hW rfl dX2_tell_113
                · skip
                  by_cases c_10 : x = 8
                  · skip
                    refine lv_tableIn (off := 113) (tgt := 114) hx hb dX2_tell_1 (by rw [c_10]; decide) (by rw [c_10]; decide) (by rw [c_10]; decide) (by decide) ?_
                    refine lv_aload_n hx hb dX2_tell_114 rfl (lv_at hl 0 rfl) ?_
                    refine r_get hx hb hts hown hK hW (C := RX2) (T := TX2) (xF_lamp r hr i hi) inlX2 rfl (by decide) 8 (by decide) (xr_lamp r hr i hi 8 (by decide)) xw_119 rfl (x := ℓ 8) (show (va_up L i ℓ) i 8 = ℓ 8 from xrd rfl) dX2_tell_115 ?_
                    obtain rfl : ℓ 8 = res := by (rw [← hres]) <;> (simp [Ftell, c_1, c_2, c_3, c_4, c_5, c_6, c_7, c_9, c_10])
                    rw [hQ0]
                    exact x_iret hx hb hret hlocks rfl hW rfl dX2_tell_118
                  · skip
                    by_cases c_11 : x = 9
                    · skip
                      refine lv_tableIn (off := 118) (tgt := 119) hx hb dX2_tell_1 (by rw [c_11]; decide) (by rw [c_11]; decide) (by rw [c_11]; decide) (by decide) ?_
                      refine lv_aload_n hx hb dX2_tell_119 rfl (lv_at hl 0 rfl) ?_
                      refine r_get hx hb hts hown hK hW (C := RX2) (T := TX2) (xF_lamp r hr i hi) inlX2 rfl (by decide) 9 (by decide) (xr_lamp r hr i hi 9 (by decide)) xw_120 rfl (x := ℓ 9) (show (va_up L i ℓ) i 9 = ℓ 9 from xrd rfl) dX2_tell_120 ?_
                      obtain rfl : ℓ 9 = res := by (rw [← hres]) <;> (simp [Ftell, c_1, c_2, c_3, c_4, c_5, c_6, c_7, c_9, c_10, c_11])
                      rw [hQ0]
                      exact x_iret hx hb hret hlocks rfl hW rfl dX2_tell_123
                    · skip
                      by_cases c_12 : x = 10
                      · skip
                        refine lv_tableIn (off := 123) (tgt := 124) hx hb dX2_tell_1 (by rw [c_12]; decide) (by rw [c_12]; decide) (by rw [c_12]; decide) (by decide) ?_
                        refine lv_aload_n hx hb dX2_tell_124 rfl (lv_at hl 0 rfl) ?_
                        refine r_get hx hb hts hown hK hW (C := RX2) (T := TX2) (xF_lamp r hr i hi) inlX2 rfl (by decide) 10 (by decide) (xr_lamp r hr i hi 10 (by decide)) xw_121 rfl (x := ℓ 10) (show (va_up L i ℓ) i 10 = ℓ 10 from xrd rfl) dX2_tell_125 ?_
                        obtain rfl : ℓ 10 = res := by (rw [← hres]) <;> (simp [Ftell, c_1, c_2, c_3, c_4, c_5, c_6, c_7, c_9, c_10, c_11, c_12])
                        rw [hQ0]
                        exact x_iret hx hb hret hlocks rfl hW rfl dX2_tell_128
                      · skip
                        refine lv_tableOut (x := x) (tgt := 129) hx hb dX2_tell_1 (x_tabout (x := x) (lo := 0) (hi := 10) (fun z h1 h2 => (fun h => h.elim (fun h => by rw [h]; exact x_nt c_1 (by decide)) (fun h => h.elim (fun h => by rw [h]; exact x_nt c_2 (by decide)) (fun h => h.elim (fun h => by rw [h]; exact x_nt c_3 (by decide)) (fun h => h.elim (fun h => by rw [h]; exact x_nt c_4 (by decide)) (fun h => h.elim (fun h => by rw [h]; exact x_nt c_5 (by decide)) (fun h => h.elim (fun h => by rw [h]; exact x_nt c_6 (by decide)) (fun h => h.elim (fun h => by rw [h]; exact x_nt c_7 (by decide)) (fun h => h.elim (fun h => by rw [h]; exact x_nt c_9 (by decide)) (fun h => h.elim (fun h => by rw [h]; exact x_nt c_10 (by decide)) (fun h => h.elim (fun h => by rw [h]; exact x_nt c_11 (by decide)) (fun h => by rw [h]; exact x_nt c_12 (by decide)))))))))))) (show z = 0 ∨ z = 1 ∨ z = 2 ∨ z = 3 ∨ z = 4 ∨ z = 5 ∨ z = 6 ∨ z = 7 ∨ z = 8 ∨ z = 9 ∨ z = 10 by omega))) (by decide) ?_
                        refine lv_bipush (v := (-2)) hx hb dX2_tell_129 (by decide) ?_
                        obtain rfl : (-2) = res := by (rw [← hres]) <;> (simp [Ftell, c_1, c_2, c_3, c_4, c_5, c_6, c_7, c_9, c_10, c_11, c_12])
                        rw [hQ0]
                        exact x_iret hx hb hret hlocks rfl hW rfl dX2_tell_131
set_option maxHeartbeats 4000000 in
set_option maxRecDepth 100000 in
theorem c_X2_place (l : Launch) (X : xX) (G : xG) {r i : Nat} {f sg : Nat → Int32} {L O Y P Q : Nat → Nat → Int32} {ℓ : Nat → Int32} {a b : Int32} (hr : r < 11) (hi : i < 16) {ℓ' : Nat → Int32} (ho0 : (Fplace a b ℓ) = ℓ') : XC l yX2_place cX2_place 3 none 0 0 0 0 X xsh [.ref (xB X + xkey r 2 i), .int a, .int b] 603 603 (xval (xB X) (va_up G r (xSt f sg (va_up L i ℓ) O Y P Q))) (xval (xB X) (va_up G r (xSt f sg (va_up L i ℓ') O Y P Q))) none := by
  refine XC.of RX2 "place" [(0, .ref (xB X + xkey r 2 i)), (1, .int a), (2, .int b)] (by decide) rfl rfl (Nat.le_of_ble_eq_true rfl) rfl ?_
  intro p e s m args below meth c ls hx hb hret hml hts hown hlocks hnm hK hW hl
  have hW : XR X G r (xSt f sg (va_up L i ℓ) O Y P Q) s.heap [] := hW
  obtain ⟨Q0, hQ0⟩ : ∃ z, z = MQ below (xQ X xsh 603 (xval (xB X) (va_up G r (xSt f sg (va_up L i ℓ') O Y P Q))) none) args s 0 0 (fun q => xB X ≤ q) := ⟨_, rfl⟩
  rw [← hQ0]
  refine lv_aload_n hx hb dX2_place_0 rfl (lv_at hl 0 rfl) ?_
  refine lv_iload_n hx hb dX2_place_1 rfl (lv_at hl 1 rfl) ?_
  refine r_put hx hb hts hown hK hW (C := RX2) (T := TX2) (xF_lamp r hr i hi) inlX2 tyX2 tyX2_ok nmX2 rfl (by decide) 0 (by decide) (xr_lamp r hr i hi 0 (by decide)) xw_111 rfl rfl rfl rfl xSt2f dX2_place_2 (fun H locs hW => ?_)
  refine lv_aload_n hx hb dX2_place_5 rfl (lv_at hl 0 rfl) ?_
  refine lv_iload_n hx hb dX2_place_6 rfl (lv_at hl 2 rfl) ?_
  refine r_put hx hb hts hown hK hW (C := RX2) (T := TX2) (xF_lamp r hr i hi) inlX2 tyX2 tyX2_ok nmX2 rfl (by decide) 1 (by decide) (xr_lamp r hr i hi 1 (by decide)) xw_112 rfl rfl rfl rfl xSt2f dX2_place_7 (fun H locs hW => ?_)
  refine lv_aload_n hx hb dX2_place_10 rfl (lv_at hl 0 rfl) ?_
  refine lv_iconst (v := 0) hx hb dX2_place_11 (by decide) ?_
  refine r_put hx hb hts hown hK hW (C := RX2) (T := TX2) (xF_lamp r hr i hi) inlX2 tyX2 tyX2_ok nmX2 rfl (by decide) 2 (by decide) (xr_lamp r hr i hi 2 (by decide)) xw_113 rfl rfl rfl rfl xSt2f dX2_place_12 (fun H locs hW => ?_)
  refine lv_aload_n hx hb dX2_place_15 rfl (lv_at hl 0 rfl) ?_
  refine lv_iconst (v := 0) hx hb dX2_place_16 (by decide) ?_
  refine r_put hx hb hts hown hK hW (C := RX2) (T := TX2) (xF_lamp r hr i hi) inlX2 tyX2 tyX2_ok nmX2 rfl (by decide) 3 (by decide) (xr_lamp r hr i hi 3 (by decide)) xw_114 rfl rfl rfl rfl xSt2f dX2_place_17 (fun H locs hW => ?_)
  refine lv_aload_n hx hb dX2_place_20 rfl (lv_at hl 0 rfl) ?_
  refine lv_iconst (v := 0) hx hb dX2_place_21 (by decide) ?_
  refine r_put hx hb hts hown hK hW (C := RX2) (T := TX2) (xF_lamp r hr i hi) inlX2 tyX2 tyX2_ok nmX2 rfl (by decide) 4 (by decide) (xr_lamp r hr i hi 4 (by decide)) xw_115 rfl rfl rfl rfl xSt2f dX2_place_22 (fun H locs hW => ?_)
  refine lv_aload_n hx hb dX2_place_25 rfl (lv_at hl 0 rfl) ?_
  refine lv_bipush (v := (-6)) hx hb dX2_place_26 (by decide) ?_
  refine r_put hx hb hts hown hK hW (C := RX2) (T := TX2) (xF_lamp r hr i hi) inlX2 tyX2 tyX2_ok nmX2 rfl (by decide) 5 (by decide) (xr_lamp r hr i hi 5 (by decide)) xw_116 rfl rfl rfl rfl xSt2f dX2_place_28 (fun H locs hW => ?_)
  refine lv_aload_n hx hb dX2_place_31 rfl (lv_at hl 0 rfl) ?_
  refine lv_iconst (v := 0) hx hb dX2_place_32 (by decide) ?_
  refine r_put hx hb hts hown hK hW (C := RX2) (T := TX2) (xF_lamp r hr i hi) inlX2 tyX2 tyX2_ok nmX2 rfl (by decide) 6 (by decide) (xr_lamp r hr i hi 6 (by decide)) xw_117 rfl rfl rfl rfl xSt2f dX2_place_33 (fun H locs hW => ?_)
  refine lv_aload_n hx hb dX2_place_36 rfl (lv_at hl 0 rfl) ?_
  refine lv_iconst (v := 0) hx hb dX2_place_37 (by decide) ?_
  refine r_put hx hb hts hown hK hW (C := RX2) (T := TX2) (xF_lamp r hr i hi) inlX2 tyX2 tyX2_ok nmX2 rfl (by decide) 7 (by decide) (xr_lamp r hr i hi 7 (by decide)) xw_118 rfl rfl rfl rfl xSt2f dX2_place_38 (fun H locs hW => ?_)
  refine lv_aload_n hx hb dX2_place_41 rfl (lv_at hl 0 rfl) ?_
  refine lv_iconst (v := 0) hx hb dX2_place_42 (by decide) ?_
  refine r_put hx hb hts hown hK hW (C := RX2) (T := TX2) (xF_lamp r hr i hi) inlX2 tyX2 tyX2_ok nmX2 rfl (by decide) 8 (by decide) (xr_lamp r hr i hi 8 (by decide)) xw_119 rfl rfl rfl rfl xSt2f dX2_place_43 (fun H locs hW => ?_)
  refine lv_aload_n hx hb dX2_place_46 rfl (lv_at hl 0 rfl) ?_
  refine lv_iconst (v := 0) hx hb dX2_place_47 (by decide) ?_
  refine r_put hx hb hts hown hK hW (C := RX2) (T := TX2) (xF_lamp r hr i hi) inlX2 tyX2 tyX2_ok nmX2 rfl (by decide) 9 (by decide) (xr_lamp r hr i hi 9 (by decide)) xw_120 rfl rfl rfl rfl xSt2f dX2_place_48 (fun H locs hW => ?_)
  refine lv_aload_n hx hb dX2_place_51 rfl (lv_at hl 0 rfl) ?_
  refine lv_iconst (v := 0) hx hb dX2_place_52 (by decide) ?_
  refine r_put hx hb hts hown hK hW (C := RX2) (T := TX2) (xF_lamp r hr i hi) inlX2 tyX2 tyX2_ok nmX2 rfl (by decide) 10 (by decide) (xr_lamp r hr i hi 10 (by decide)) xw_121 rfl rfl rfl rfl xSt2f dX2_place_53 (fun H locs hW => ?_)
  obtain rfl : (va_up (va_up (va_up (va_up (va_up (va_up (va_up (va_up (va_up (va_up (va_up ℓ 0 a) 1 b) 2 0) 3 0) 4 0) 5 (-6)) 6 0) 7 0) 8 0) 9 0) 10 0) = ℓ' := by (rw [← ho0]) <;> (simp [Fplace])
  rw [hQ0]
  exact x_vret hx hb hret hlocks hW rfl dX2_place_56
