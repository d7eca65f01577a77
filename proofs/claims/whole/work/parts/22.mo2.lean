/-! ===== the model: lights, hears, coughs ===== -/
def Mstr (r : Nat → Int32) : Int32 := if r 2 = 0 then 1 else 0
def Mlights (ℓ : Nat → Int32) (x : Int32) : Int32 := if ℓ 2 = 2 ∧ Mfar (ℓ 0) x ≤ ℓ 1 then 1 else if ℓ 2 = 1 ∧ Mfar (ℓ 0) x ≤ ℓ 1 / 2 then 1 else 0
def Mlit (n : Nat) (x : Int32) (L : Nat → Nat → Int32) : Int32 := xloop (fun i s => if Mlights (L i) x = 0 then s else s ||| xbit i) n 0 0
def Mshine (sg ℓ : Nat → Int32) : Nat → Int32 := va_up (va_up (va_up ℓ 2 2) 4 (sg 2)) 12 1
def Mhears (sg : Nat → Int32) (L : Nat → Nat → Int32) (i j : Nat) : Int32 := if nI i = nI j then 0 else if L i 3 = 2 then 0 else if Mfar (L i 0) (L j 0) ≤ sg 1 then 1 else 0
def Mhear (rk : Int32) (sg ℓ : Nat → Int32) : Nat → Int32 :=
  if rk < sg 5 ∧ ℓ 5 = 0 ∧ ℓ 11 = 0 then va_up (va_up (Mshine sg (va_up ℓ 9 (ℓ 9 + 1))) 5 (sg 4)) 6 (rk + 1) else Mshine sg (va_up ℓ 9 (ℓ 9 + 1))
def Mspread (n : Nat) (sg : Nat → Int32) (a : Nat) (rk : Int32) (L : Nat → Nat → Int32) : (Nat → Nat → Int32) × Int32 :=
  xloop (fun i (q : (Nat → Nat → Int32) × Int32) => if Mhears sg q.1 i a = 0 then q else (va_up q.1 i (Mhear rk sg (q.1 i)), q.2 + 1)) n 0 (va_up L a (va_up (L a) 8 (L a 8 + 1)), 0)
def MfinW0 (ω : Nat → Int32) : Nat → Int32 := va_up (va_up ω 4 (-6)) 2 (if ω 3 = 0 then 1 else 0)
def Mdist (nh : Nat) (L : Nat → Nat → Int32) (x : Int32) (n : Nat) : Int32 := xloop (fun i s => if L i 2 = 2 ∧ Mfar (L i 0) x ≤ L i 1 / 3 then s ||| 1 else s ||| 0) n 0 0
def Mnear (x : Int32) (n : Nat) (L : Nat → Nat → Int32) : Int32 := xloop (fun i (s : Int32) => if s < 0 ∨ Mfar (L i 0) x < Mfar (L s.toNatClampNeg 0) x then nI i else s) n 0 (-6)
theorem hdV_yX7_isLamp : yX7_isLamp.cls = RX7 ∧ yX7_isLamp.cls ≠ "java/lang/invoke/MethodHandle" ∧ yX7_isLamp.cls ≠ "java/lang/invoke/VarHandle" ∧ (parseMethodDescriptor yX7_isLamp.desc).map (fun d => d.parameters.length) = some 1 := by decide +kernel
theorem hdV_yX7_isWalker : yX7_isWalker.cls = RX7 ∧ yX7_isWalker.cls ≠ "java/lang/invoke/MethodHandle" ∧ yX7_isWalker.cls ≠ "java/lang/invoke/VarHandle" ∧ (parseMethodDescriptor yX7_isWalker.desc).map (fun d => d.parameters.length) = some 1 := by decide +kernel
theorem hdV_yX7_isInStreet : yX7_isInStreet.cls = RX7 ∧ yX7_isInStreet.cls ≠ "java/lang/invoke/MethodHandle" ∧ yX7_isInStreet.cls ≠ "java/lang/invoke/VarHandle" ∧ (parseMethodDescriptor yX7_isInStreet.desc).map (fun d => d.parameters.length) = some 1 := by decide +kernel
theorem hdV_yX7_lights : yX7_lights.cls = RX7 ∧ yX7_lights.cls ≠ "java/lang/invoke/MethodHandle" ∧ yX7_lights.cls ≠ "java/lang/invoke/VarHandle" ∧ (parseMethodDescriptor yX7_lights.desc).map (fun d => d.parameters.length) = some 2 := by decide +kernel
theorem hdV_yX7_shine : yX7_shine.cls = RX7 ∧ yX7_shine.cls ≠ "java/lang/invoke/MethodHandle" ∧ yX7_shine.cls ≠ "java/lang/invoke/VarHandle" ∧ (parseMethodDescriptor yX7_shine.desc).map (fun d => d.parameters.length) = some 1 := by decide +kernel
theorem hdV_yX7_stopWaiting : yX7_stopWaiting.cls = RX7 ∧ yX7_stopWaiting.cls ≠ "java/lang/invoke/MethodHandle" ∧ yX7_stopWaiting.cls ≠ "java/lang/invoke/VarHandle" ∧ (parseMethodDescriptor yX7_stopWaiting.desc).map (fun d => d.parameters.length) = some 1 := by decide +kernel
theorem hdV_yX7_lightOn : yX7_lightOn.cls = RX7 ∧ yX7_lightOn.cls ≠ "java/lang/invoke/MethodHandle" ∧ yX7_lightOn.cls ≠ "java/lang/invoke/VarHandle" ∧ (parseMethodDescriptor yX7_lightOn.desc).map (fun d => d.parameters.length) = some 1 := by decide +kernel
theorem hdV_yX7_hears : yX7_hears.cls = RX7 ∧ yX7_hears.cls ≠ "java/lang/invoke/MethodHandle" ∧ yX7_hears.cls ≠ "java/lang/invoke/VarHandle" ∧ (parseMethodDescriptor yX7_hears.desc).map (fun d => d.parameters.length) = some 2 := by decide +kernel
theorem hdV_yX7_coughs : yX7_coughs.cls = RX7 ∧ yX7_coughs.cls ≠ "java/lang/invoke/MethodHandle" ∧ yX7_coughs.cls ≠ "java/lang/invoke/VarHandle" ∧ (parseMethodDescriptor yX7_coughs.desc).map (fun d => d.parameters.length) = some 2 := by decide +kernel
set_option maxHeartbeats 4000000 in
set_option maxRecDepth 100000 in
theorem c_X7_isLamp (l : Launch) (X : xX) (G : xG) {f sg pb pc pd pe pg ph pp pq pt pu : Nat → Int32} {L O Y : Nat → Nat → Int32} {x : Int32}  {res : Int32} (hres : (Fin3 x 0 (sg 7 - 1)) = res) : XC l yX7_isLamp cX7_isLamp 2 (some .boolean) 1 22 0 0 X xsh [.ref (xB X + xkey 12 0 0), .int x] 603 603 (xval (xB X) (va_up G 12 (xMa f sg L O Y pb pc pd pe pg ph pp pq pt pu))) (xval (xB X) (va_up G 12 (xMa f sg L O Y pb pc pd pe pg ph pp pq pt pu))) (some (.int res)) := by
  refine XC.of RX7 "isLamp" [(0, .ref (xB X + xkey 12 0 0)), (1, .int x)] (by decide) rfl rfl (Nat.le_of_ble_eq_true rfl) rfl ?_
  intro p e s m args below meth c ls hx hb hret hml hts hown hlocks hnm hK hW hl
  have hW : XR X G 12 (xMa f sg L O Y pb pc pd pe pg ph pp pq pt pu) s.heap [] := hW
  obtain ⟨Q0, hQ0⟩ : ∃ z, z = MQ below (xQ X xsh 603 (xval (xB X) (va_up G 12 (xMa f sg L O Y pb pc pd pe pg ph pp pq pt pu))) (some (.int res))) args s 0 0 (fun q => xB X ≤ q) := ⟨_, rfl⟩
  rw [← hQ0]
  refine lv_iload_n hx hb dX7_isLamp_0 rfl (lv_at hl 1 rfl) ?_
  refine lv_iconst (v := 0) hx hb dX7_isLamp_1 (by decide) ?_
  refine lv_aload_n hx hb dX7_isLamp_2 rfl (lv_at hl 0 rfl) ?_
  refine r_getr (C := RX7) (T := TX7) hx hb hts hown hK hW (xF_mo0).1 (xF_mo0).2.1 inlX7 rfl (by decide) 0 (by decide) (show xro (xkey 12 0 0) 0 = some (xkey 12 1 0) from by decide +kernel) xw_79 rfl dX7_isLamp_3 ?_
  refine lv_bipush (v := 7) hx hb dX7_isLamp_6 (by decide) ?_
  refine r_iald hx hb hK hW (N := 440) (xF_mo1) 7 (by decide) (by decide) (by decide) (xr_model 1 (by decide) (by decide) 7) (x := sg 7) (xat_s (sg := sg) (L := L) (O := O) (Y := Y) (k := 7) (by omega)) dX7_isLamp_8 ?_
  refine lv_iconst (v := 1) hx hb dX7_isLamp_9 (by decide) ?_
  refine lv_isub hx hb dX7_isLamp_10 ?_
  refine x_callS hx hb hml hown hts hK hW hl.1 (c_X7_in l X _ (v := x) (lo := 0) (hi := (sg 7) - 1) (hres := rfl)) xw_159 xw_160 xw_5 xw_161 hdS_yX7_in ⟨Nat.le_of_ble_eq_true rfl, Nat.le_of_ble_eq_true rfl⟩ rfl (Nat.le_of_ble_eq_true rfl) ⟨Nat.le_refl _, Nat.le_refl _⟩ dX7_isLamp_11 (fun H locs hW => ?_)
  obtain rfl : Fin3 x 0 ((sg 7) - 1) = res := by (rw [← hres]) <;> (skip)
  rw [hQ0]
  exact x_iret hx hb hret hlocks (xb_nar (Fin3_01 ..)) hW rfl dX7_isLamp_14
set_option maxHeartbeats 4000000 in
set_option maxRecDepth 100000 in
theorem c_X7_isWalker (l : Launch) (X : xX) (G : xG) {f sg pb pc pd pe pg ph pp pq pt pu : Nat → Int32} {L O Y : Nat → Nat → Int32} {x : Int32}  {res : Int32} (hres : (Fin3 x 0 (sg 9 - 1)) = res) : XC l yX7_isWalker cX7_isWalker 2 (some .boolean) 1 22 0 0 X xsh [.ref (xB X + xkey 12 0 0), .int x] 603 603 (xval (xB X) (va_up G 12 (xMa f sg L O Y pb pc pd pe pg ph pp pq pt pu))) (xval (xB X) (va_up G 12 (xMa f sg L O Y pb pc pd pe pg ph pp pq pt pu))) (some (.int res)) := by
  refine XC.of RX7 "isWalker" [(0, .ref (xB X + xkey 12 0 0)), (1, .int x)] (by decide) rfl rfl (Nat.le_of_ble_eq_true rfl) rfl ?_
  intro p e s m args below meth c ls hx hb hret hml hts hown hlocks hnm hK hW hl
  have hW : XR X G 12 (xMa f sg L O Y pb pc pd pe pg ph pp pq pt pu) s.heap [] := hW
  obtain ⟨Q0, hQ0⟩ : ∃ z, z = MQ below (xQ X xsh 603 (xval (xB X) (va_up G 12 (xMa f sg L O Y pb pc pd pe pg ph pp pq pt pu))) (some (.int res))) args s 0 0 (fun q => xB X ≤ q) := ⟨_, rfl⟩
  rw [← hQ0]
  refine lv_iload_n hx hb dX7_isWalker_0 rfl (lv_at hl 1 rfl) ?_
  refine lv_iconst (v := 0) hx hb dX7_isWalker_1 (by decide) ?_
  refine lv_aload_n hx hb dX7_isWalker_2 rfl (lv_at hl 0 rfl) ?_
  refine r_getr (C := RX7) (T := TX7) hx hb hts hown hK hW (xF_mo0).1 (xF_mo0).2.1 inlX7 rfl (by decide) 0 (by decide) (show xro (xkey 12 0 0) 0 = some (xkey 12 1 0) from by decide +kernel) xw_79 rfl dX7_isWalker_3 ?_
  refine lv_bipush (v := 9) hx hb dX7_isWalker_6 (by decide) ?_
  refine r_iald hx hb hK hW (N := 440) (xF_mo1) 9 (by decide) (by decide) (by decide) (xr_model 1 (by decide) (by decide) 9) (x := sg 9) (xat_s (sg := sg) (L := L) (O := O) (Y := Y) (k := 9) (by omega)) dX7_isWalker_8 ?_
  refine lv_iconst (v := 1) hx hb dX7_isWalker_9 (by decide) ?_
  refine lv_isub hx hb dX7_isWalker_10 ?_
  refine x_callS hx hb hml hown hts hK hW hl.1 (c_X7_in l X _ (v := x) (lo := 0) (hi := (sg 9) - 1) (hres := rfl)) xw_159 xw_160 xw_5 xw_161 hdS_yX7_in ⟨Nat.le_of_ble_eq_true rfl, Nat.le_of_ble_eq_true rfl⟩ rfl (Nat.le_of_ble_eq_true rfl) ⟨Nat.le_refl _, Nat.le_refl _⟩ dX7_isWalker_11 (fun H locs hW => ?_)
  obtain rfl : Fin3 x 0 ((sg 9) - 1) = res := by (rw [← hres]) <;> (skip)
  rw [hQ0]
  exact x_iret hx hb hret hlocks (xb_nar (Fin3_01 ..)) hW rfl dX7_isWalker_14
set_option maxHeartbeats 4000000 in
set_option maxRecDepth 100000 in
theorem c_X7_isInStreet (l : Launch) (X : xX) (G : xG) {f sg pb pc pd pe pg ph pp pq pt pu : Nat → Int32} {L O Y : Nat → Nat → Int32} {i : Nat} (hi : i < 8) {res : Int32} (hres : (Mstr (Y i)) = res) : XC l yX7_isInStreet cX7_isInStreet 2 (some .boolean) 1 22 0 0 X xsh [.ref (xB X + xkey 12 0 0), .int (nI i)] 603 603 (xval (xB X) (va_up G 12 (xMa f sg L O Y pb pc pd pe pg ph pp pq pt pu))) (xval (xB X) (va_up G 12 (xMa f sg L O Y pb pc pd pe pg ph pp pq pt pu))) (some (.int res)) := by
  refine XC.of RX7 "isInStreet" [(0, .ref (xB X + xkey 12 0 0)), (1, .int (nI i))] (by decide) rfl rfl (Nat.le_of_ble_eq_true rfl) rfl ?_
  intro p e s m args below meth c ls hx hb hret hml hts hown hlocks hnm hK hW hl
  have hW : XR X G 12 (xMa f sg L O Y pb pc pd pe pg ph pp pq pt pu) s.heap [] := hW
  obtain ⟨Q0, hQ0⟩ : ∃ z, z = MQ below (xQ X xsh 603 (xval (xB X) (va_up G 12 (xMa f sg L O Y pb pc pd pe pg ph pp pq pt pu))) (some (.int res))) args s 0 0 (fun q => xB X ≤ q) := ⟨_, rfl⟩
  rw [← hQ0]
  refine lv_aload_n hx hb dX7_isInStreet_0 rfl (lv_at hl 0 rfl) ?_
  refine lv_iload_n hx hb dX7_isInStreet_1 rfl (lv_at hl 1 rfl) ?_
  refine lv_iconst (v := 2) hx hb dX7_isInStreet_2 (by decide) ?_
  refine x_callV hx hb hml hown hts hK hW hl.1 (c_X7_ofW l X G (i := i) (w := 2) (hi := hi) (hw := (by decide)) (hres := rfl)) (xF_mo0).1 (xF_mo0).2.1 (by decide) rfl xw_278 xw_279 xw_280 xw_5 xw_281 hdV_yX7_ofW ⟨Nat.le_of_ble_eq_true rfl, Nat.le_of_ble_eq_true rfl⟩ rfl (Nat.le_of_ble_eq_true rfl) ⟨Nat.le_refl _, Nat.le_refl _⟩ dX7_isInStreet_3 (fun H locs hW => ?_)
  refine lv_if_ne (tgt := 13) hx hb dX7_isInStreet_6 (by decide) (fun c_1 => ?_) (fun c_1 => ?_)
  · skip
    refine lv_iconst (v := 0) hx hb dX7_isInStreet_13 (by decide) ?_
    obtain rfl : 0 = res := by (rw [← hres]) <;> (simp [Mstr, c_1])
    rw [hQ0]
    exact x_iret hx hb hret hlocks rfl hW rfl dX7_isInStreet_14
  · skip
    refine lv_iconst (v := 1) hx hb dX7_isInStreet_9 (by decide) ?_
    refine lv_goto (tgt := 14) hx hb dX7_isInStreet_10 (by decide) ?_
    obtain rfl : 1 = res := by (rw [← hres]) <;> (simp [Mstr, c_1])
    rw [hQ0]
    exact x_iret hx hb hret hlocks rfl hW rfl dX7_isInStreet_14
set_option maxHeartbeats 4000000 in
set_option maxRecDepth 100000 in
theorem c_X7_lights (l : Launch) (X : xX) (G : xG) {f sg pb pc pd pe pg ph pp pq pt pu : Nat → Int32} {L O Y : Nat → Nat → Int32} {i : Nat} {x : Int32} (hi : i < 16) {res : Int32} (hres : (Mlights (L i) x) = res) : XC l yX7_lights cX7_lights 5 (some .boolean) 1 22 0 0 X xsh [.ref (xB X + xkey 12 0 0), .int (nI i), .int x] 603 603 (xval (xB X) (va_up G 12 (xMa f sg L O Y pb pc pd pe pg ph pp pq pt pu))) (xval (xB X) (va_up G 12 (xMa f sg L O Y pb pc pd pe pg ph pp pq pt pu))) (some (.int res)) := by
  refine XC.of RX7 "lights" [(0, .ref (xB X + xkey 12 0 0)), (1, .int (nI i)), (2, .int x)] (by decide) rfl rfl (Nat.le_of_ble_eq_true rfl) rfl ?_
  intro p e s m args below meth c ls hx hb hret hml hts hown hlocks hnm hK hW hl
  have hW : XR X G 12 (xMa f sg L O Y pb pc pd pe pg ph pp pq pt pu) s.heap [] := hW
  obtain ⟨Q0, hQ0⟩ : ∃ z, z = MQ below (xQ X xsh 603 (xval (xB X) (va_up G 12 (xMa f sg L O Y pb pc pd pe pg ph pp pq pt pu))) (some (.int res))) args s 0 0 (fun q => xB X ≤ q) := ⟨_, rfl⟩
  rw [← hQ0]
  refine lv_aload_n hx hb dX7_lights_0 rfl (lv_at hl 0 rfl) ?_
  refine lv_iload_n hx hb dX7_lights_1 rfl (lv_at hl 1 rfl) ?_
  refine lv_iconst (v := 0) hx hb dX7_lights_2 (by decide) ?_
  refine x_callV hx hb hml hown hts hK hW hl.1 (c_X7_ofL l X G (i := i) (w := 0) (hi := hi) (hw := (by decide)) (hres := rfl)) (xF_mo0).1 (xF_mo0).2.1 (by decide) rfl xw_198 xw_199 xw_200 xw_5 xw_201 hdV_yX7_ofL ⟨Nat.le_of_ble_eq_true rfl, Nat.le_of_ble_eq_true rfl⟩ rfl (Nat.le_of_ble_eq_true rfl) ⟨Nat.le_refl _, Nat.le_refl _⟩ dX7_lights_3 (fun H locs hW => ?_)
  refine lv_iload_n hx hb dX7_lights_6 rfl (lv_at hl 2 rfl) ?_
  refine x_callS hx hb hml hown hts hK hW hl.1 (c_X7_far l X _ (a := L i 0) (b := x) (hres := rfl)) xw_385 xw_386 xw_5 xw_387 hdS_yX7_far ⟨Nat.le_of_ble_eq_true rfl, Nat.le_of_ble_eq_true rfl⟩ rfl (Nat.le_of_ble_eq_true rfl) ⟨Nat.le_refl _, Nat.le_refl _⟩ dX7_lights_7 (fun H locs hW => ?_)
  refine lv_istore_n (lv' := [(3, .int (Mfar (L i 0) x)), (0, .ref (xB X + xkey 12 0 0)), (1, .int (nI i)), (2, .int x)]) hx hb dX7_lights_10 rfl hl (by decide) rfl (fun ls hl => ?_)
  refine lv_aload_n hx hb dX7_lights_11 rfl (lv_at hl 1 rfl) ?_
  refine lv_iload_n hx hb dX7_lights_12 rfl (lv_at hl 2 rfl) ?_
  refine lv_iconst (v := 2) hx hb dX7_lights_13 (by decide) ?_
  refine x_callV hx hb hml hown hts hK hW hl.1 (c_X7_ofL l X G (i := i) (w := 2) (hi := hi) (hw := (by decide)) (hres := rfl)) (xF_mo0).1 (xF_mo0).2.1 (by decide) rfl xw_198 xw_199 xw_200 xw_5 xw_201 hdV_yX7_ofL ⟨Nat.le_of_ble_eq_true rfl, Nat.le_of_ble_eq_true rfl⟩ rfl (Nat.le_of_ble_eq_true rfl) ⟨Nat.le_refl _, Nat.le_refl _⟩ dX7_lights_14 (fun H locs hW => ?_)
  refine lv_istore (lv' := [(4, .int (L i 2)), (3, .int (Mfar (L i 0) x)), (0, .ref (xB X + xkey 12 0 0)), (1, .int (nI i)), (2, .int x)]) hx hb dX7_lights_17 hl (by decide) rfl (fun ls hl => ?_)
  refine lv_iload hx hb dX7_lights_19 (lv_at hl 0 rfl) ?_
  refine lv_iconst (v := 2) hx hb dX7_lights_21 (by decide) ?_
  refine lv_icmp_ne (tgt := 35) hx hb dX7_lights_22 (by decide) (fun c_1 => ?_) (fun c_1 => ?_)
  · skip
    refine lv_iload hx hb dX7_lights_35 (lv_at hl 0 rfl) ?_
    refine lv_iconst (v := 1) hx hb dX7_lights_37 (by decide) ?_
    refine lv_icmp_ne (tgt := 57) hx hb dX7_lights_38 (by decide) (fun c_2 => ?_) (fun c_2 => ?_)
    · skip
      refine lv_iconst (v := 0) hx hb dX7_lights_57 (by decide) ?_
      obtain rfl : 0 = res := by (rw [← hres]) <;> ((simp [Mlights, c_1, c_2]) <;> exact absurd (c_1.symm.trans c_5) (by decide))
      rw [hQ0]
      exact x_iret hx hb hret hlocks rfl hW rfl dX7_lights_58
    · skip
      refine lv_iload_n hx hb dX7_lights_41 rfl (lv_at hl 1 rfl) ?_
      refine lv_aload_n hx hb dX7_lights_42 rfl (lv_at hl 2 rfl) ?_
      refine lv_iload_n hx hb dX7_lights_43 rfl (lv_at hl 3 rfl) ?_
      refine lv_iconst (v := 1) hx hb dX7_lights_44 (by decide) ?_
      refine x_callV hx hb hml hown hts hK hW hl.1 (c_X7_ofL l X G (i := i) (w := 1) (hi := hi) (hw := (by decide)) (hres := rfl)) (xF_mo0).1 (xF_mo0).2.1 (by decide) rfl xw_198 xw_199 xw_200 xw_5 xw_201 hdV_yX7_ofL ⟨Nat.le_of_ble_eq_true rfl, Nat.le_of_ble_eq_true rfl⟩ rfl (Nat.le_of_ble_eq_true rfl) ⟨Nat.le_refl _, Nat.le_refl _⟩ dX7_lights_45 (fun H locs hW => ?_)
      refine lv_iconst (v := 2) hx hb dX7_lights_48 (by decide) ?_
      refine lv_idiv hx hb dX7_lights_49 (by decide) ?_
      refine lv_icmp_gt (tgt := 57) hx hb dX7_lights_50 (by decide) (fun c_3 => ?_) (fun c_3 => ?_)
      · skip
        refine lv_iconst (v := 0) hx hb dX7_lights_57 (by decide) ?_
        obtain rfl : 0 = res := by (rw [← hres]) <;> ((simp [Mlights, c_1, c_2, c_3, Int32.not_le.mpr c_3]) <;> exact absurd (c_1.symm.trans c_5) (by decide))
        rw [hQ0]
        exact x_iret hx hb hret hlocks rfl hW rfl dX7_lights_58
      · skip
        refine lv_iconst (v := 1) hx hb dX7_lights_53 (by decide) ?_
        refine lv_goto (tgt := 58) hx hb dX7_lights_54 (by decide) ?_
        obtain rfl : 1 = res := by (rw [← hres]) <;> ((simp [Mlights, c_1, c_2, c_3, Int32.not_lt.mp c_3]) <;> exact absurd (c_1.symm.trans c_5) (by decide))
        rw [hQ0]
        exact x_iret hx hb hret hlocks rfl hW rfl dX7_lights_58
  · skip
    refine lv_iload_n hx hb dX7_lights_25 rfl (lv_at hl 1 rfl) ?_
    refine lv_aload_n hx hb dX7_lights_26 rfl (lv_at hl 2 rfl) ?_
    refine lv_iload_n hx hb dX7_lights_27 rfl (lv_at hl 3 rfl) ?_
    refine lv_iconst (v := 1) hx hb dX7_lights_28 (by decide) ?_
    refine x_callV hx hb hml hown hts hK hW hl.1 (c_X7_ofL l X G (i := i) (w := 1) (hi := hi) (hw := (by decide)) (hres := rfl)) (xF_mo0).1 (xF_mo0).2.1 (by decide) rfl xw_198 xw_199 xw_200 xw_5 xw_201 hdV_yX7_ofL ⟨Nat.le_of_ble_eq_true rfl, Nat.le_of_ble_eq_true rfl⟩ rfl (Nat.le_of_ble_eq_true rfl) ⟨Nat.le_refl _, Nat.le_refl _⟩ dX7_lights_29 (fun H locs hW => ?_)
    refine lv_icmp_le (tgt := 53) hx hb dX7_lights_32 (by decide) (fun c_4 => ?_) (fun c_4 => ?_)
    · skip
      refine lv_iconst (v := 1) hx hb dX7_lights_53 (by decide) ?_
      refine lv_goto (tgt := 58) hx hb dX7_lights_54 (by decide) ?_
      obtain rfl : 1 = res := by (rw [← hres]) <;> ((simp [Mlights, c_1, c_4, Int32.not_lt.mpr c_4]) <;> exact absurd (c_1.symm.trans c_5) (by decide))
      rw [hQ0]
      exact x_iret hx hb hret hlocks rfl hW rfl dX7_lights_58
    · skip
      refine lv_iload hx hb dX7_lights_35 (lv_at hl 0 rfl) ?_
      refine lv_iconst (v := 1) hx hb dX7_lights_37 (by decide) ?_
      refine lv_icmp_ne (tgt := 57) hx hb dX7_lights_38 (by decide) (fun c_5 => ?_) (fun c_5 => ?_)
      · skip
        refine lv_iconst (v := 0) hx hb dX7_lights_57 (by decide) ?_
        obtain rfl : 0 = res := by (rw [← hres]) <;> ((simp [Mlights, c_1, c_4, Int32.not_le.mp c_4, c_5]) <;> exact absurd (c_1.symm.trans c_5) (by decide))
        rw [hQ0]
        exact x_iret hx hb hret hlocks rfl hW rfl dX7_lights_58
      · skip
        refine lv_iload_n hx hb dX7_lights_41 rfl (lv_at hl 1 rfl) ?_
        refine lv_aload_n hx hb dX7_lights_42 rfl (lv_at hl 2 rfl) ?_
        refine lv_iload_n hx hb dX7_lights_43 rfl (lv_at hl 3 rfl) ?_
        refine lv_iconst (v := 1) hx hb dX7_lights_44 (by decide) ?_
        refine x_callV hx hb hml hown hts hK hW hl.1 (c_X7_ofL l X G (i := i) (w := 1) (hi := hi) (hw := (by decide)) (hres := rfl)) (xF_mo0).1 (xF_mo0).2.1 (by decide) rfl xw_198 xw_199 xw_200 xw_5 xw_201 hdV_yX7_ofL ⟨Nat.le_of_ble_eq_true rfl, Nat.le_of_ble_eq_true rfl⟩ rfl (Nat.le_of_ble_eq_true rfl) ⟨Nat.le_refl _, Nat.le_refl _⟩ dX7_lights_45 (fun H locs hW => ?_)
        refine lv_iconst (v := 2) hx hb dX7_lights_48 (by decide) ?_
        refine lv_idiv hx hb dX7_lights_49 (by decide) ?_
        refine lv_icmp_gt (tgt := 57) hx hb dX7_lights_50 (by decide) (fun c_6 => ?_) (fun c_6 => ?_)
        · skip
          refine lv_iconst (v := 0) hx hb dX7_lights_57 (by decide) ?_
          obtain rfl : 0 = res := by (rw [← hres]) <;> ((simp [Mlights, c_1, c_4, Int32.not_le.mp c_4, c_5, c_6, Int32.not_le.mpr c_6]) <;> exact absurd (c_1.symm.trans c_5) (by decide))
          rw [hQ0]
          exact x_iret hx hb hret hlocks rfl hW rfl dX7_lights_58
        · skip
          refine lv_iconst (v := 1) hx hb dX7_lights_53 (by decide) ?_
          refine lv_goto (tgt := 58) hx hb dX7_lights_54 (by decide) ?_
          obtain rfl : 1 = res := by (rw [← hres]) <;> ((simp [Mlights, c_1, c_4, Int32.not_le.mp c_4, c_5, c_6, Int32.not_lt.mp c_6]) <;> exact absurd (c_1.symm.trans c_5) (by decide))
          rw [hQ0]
          exact x_iret hx hb hret hlocks rfl hW rfl dX7_lights_58
set_option maxHeartbeats 4000000 in
set_option maxRecDepth 100000 in
theorem c_X7_shine (l : Launch) (X : xX) (G : xG) {f sg pb pc pd pe pg ph pp pq pt pu : Nat → Int32} {L O Y : Nat → Nat → Int32} {i : Nat} {ℓ : Nat → Int32} (hi : i < 16) {ℓ' : Nat → Int32} (ho0 : (Mshine sg ℓ) = ℓ') : XC l yX7_shine cX7_shine 2 none 1 23 0 0 X xsh [.ref (xB X + xkey 12 0 0), .int (nI i)] 603 603 (xval (xB X) (va_up G 12 (xMa f sg (va_up L i ℓ) O Y pb pc pd pe pg ph pp pq pt pu))) (xval (xB X) (va_up G 12 (xMa f sg (va_up L i ℓ') O Y pb pc pd pe pg ph pp pq pt pu))) none := by
  refine XC.of RX7 "shine" [(0, .ref (xB X + xkey 12 0 0)), (1, .int (nI i))] (by decide) rfl rfl (Nat.le_of_ble_eq_true rfl) rfl ?_
  intro p e s m args below meth c ls hx hb hret hml hts hown hlocks hnm hK hW hl
  have hW : XR X G 12 (xMa f sg (va_up L i ℓ) O Y pb pc pd pe pg ph pp pq pt pu) s.heap [] := hW
  obtain ⟨Q0, hQ0⟩ : ∃ z, z = MQ below (xQ X xsh 603 (xval (xB X) (va_up G 12 (xMa f sg (va_up L i ℓ') O Y pb pc pd pe pg ph pp pq pt pu))) none) args s 0 0 (fun q => xB X ≤ q) := ⟨_, rfl⟩
  rw [← hQ0]
  refine lv_aload_n hx hb dX7_shine_0 rfl (lv_at hl 0 rfl) ?_
  refine lv_iload_n hx hb dX7_shine_1 rfl (lv_at hl 1 rfl) ?_
  refine lv_iconst (v := 2) hx hb dX7_shine_2 (by decide) ?_
  refine lv_iconst (v := 2) hx hb dX7_shine_3 (by decide) ?_
  refine x_callV hx hb hml hown hts hK hW hl.1 (c_X7_layL l X G (i := i) (w := 2) (v := 2) (hi := hi) (hw := (by decide)) ) (xF_mo0).1 (xF_mo0).2.1 (by decide) rfl xw_202 xw_203 xw_204 xw_5 xw_205 hdV_yX7_layL ⟨Nat.le_of_ble_eq_true rfl, Nat.le_of_ble_eq_true rfl⟩ rfl (Nat.le_of_ble_eq_true rfl) ⟨Nat.le_refl _, Nat.le_refl _⟩ dX7_shine_4 (fun H locs hW => ?_)
  have hW : XR X G 12 (xMa f sg (va_up L i (va_up ℓ 2 2)) O Y pb pc pd pe pg ph pp pq pt pu) H locs := hW
  refine lv_aload_n hx hb dX7_shine_7 rfl (lv_at hl 0 rfl) ?_
  refine lv_iload_n hx hb dX7_shine_8 rfl (lv_at hl 1 rfl) ?_
  refine lv_iconst (v := 4) hx hb dX7_shine_9 (by decide) ?_
  refine lv_aload_n hx hb dX7_shine_10 rfl (lv_at hl 0 rfl) ?_
  refine r_getr (C := RX7) (T := TX7) hx hb hts hown hK hW (xF_mo0).1 (xF_mo0).2.1 inlX7 rfl (by decide) 0 (by decide) (show xro (xkey 12 0 0) 0 = some (xkey 12 1 0) from by decide +kernel) xw_79 rfl dX7_shine_11 ?_
  refine lv_iconst (v := 2) hx hb dX7_shine_14 (by decide) ?_
  refine r_iald hx hb hK hW (N := 440) (xF_mo1) 2 (by decide) (by decide) (by decide) (xr_model 1 (by decide) (by decide) 2) (x := sg 2) (xat_s (sg := sg) (L := (va_up L i (va_up ℓ 2 2))) (O := O) (Y := Y) (k := 2) (by omega)) dX7_shine_15 ?_
  refine x_callV hx hb hml hown hts hK hW hl.1 (c_X7_layL l X G (i := i) (w := 4) (v := sg 2) (hi := hi) (hw := (by decide)) ) (xF_mo0).1 (xF_mo0).2.1 (by decide) rfl xw_202 xw_203 xw_204 xw_5 xw_205 hdV_yX7_layL ⟨Nat.le_of_ble_eq_true rfl, Nat.le_of_ble_eq_true rfl⟩ rfl (Nat.le_of_ble_eq_true rfl) ⟨Nat.le_refl _, Nat.le_refl _⟩ dX7_shine_16 (fun H locs hW => ?_)
  have hW : XR X G 12 (xMa f sg (va_up L i (va_up (va_up ℓ 2 2) 4 (sg 2))) O Y pb pc pd pe pg ph pp pq pt pu) H locs := hW
  refine lv_aload_n hx hb dX7_shine_19 rfl (lv_at hl 0 rfl) ?_
  refine lv_iload_n hx hb dX7_shine_20 rfl (lv_at hl 1 rfl) ?_
  refine lv_bipush (v := 12) hx hb dX7_shine_21 (by decide) ?_
  refine lv_iconst (v := 1) hx hb dX7_shine_23 (by decide) ?_
  refine x_callV hx hb hml hown hts hK hW hl.1 (c_X7_layL l X G (i := i) (w := 12) (v := 1) (hi := hi) (hw := (by decide)) ) (xF_mo0).1 (xF_mo0).2.1 (by decide) rfl xw_202 xw_203 xw_204 xw_5 xw_205 hdV_yX7_layL ⟨Nat.le_of_ble_eq_true rfl, Nat.le_of_ble_eq_true rfl⟩ rfl (Nat.le_of_ble_eq_true rfl) ⟨Nat.le_refl _, Nat.le_refl _⟩ dX7_shine_24 (fun H locs hW => ?_)
  have hW : XR X G 12 (xMa f sg (va_up L i (va_up (va_up (va_up ℓ 2 2) 4 (sg 2)) 12 1)) O Y pb pc pd pe pg ph pp pq pt pu) H locs := hW
  obtain rfl : (va_up (va_up (va_up ℓ 2 2) 4 (sg 2)) 12 1) = ℓ' := by (rw [← ho0]) <;> (rfl)
  rw [hQ0]
  exact x_vret hx hb hret hlocks hW rfl dX7_shine_27
set_option maxHeartbeats 4000000 in
set_option maxRecDepth 100000 in
theorem c_X7_stopWaiting (l : Launch) (X : xX) (G : xG) {f sg pb pc pd pe pg ph pp pq pt pu : Nat → Int32} {L O Y : Nat → Nat → Int32} {i : Nat} {ℓ : Nat → Int32} (hi : i < 16)  : XC l yX7_stopWaiting cX7_stopWaiting 2 none 1 23 0 0 X xsh [.ref (xB X + xkey 12 0 0), .int (nI i)] 603 603 (xval (xB X) (va_up G 12 (xMa f sg (va_up L i ℓ) O Y pb pc pd pe pg ph pp pq pt pu))) (xval (xB X) (va_up G 12 (xMa f sg (va_up L i (va_up (va_up ℓ 5 0) 6 0)) O Y pb pc pd pe pg ph pp pq pt pu))) none := by
  refine XC.of RX7 "stopWaiting" [(0, .ref (xB X + xkey 12 0 0)), (1, .int (nI i))] (by decide) rfl rfl (Nat.le_of_ble_eq_true rfl) rfl ?_
  intro p e s m args below meth c ls hx hb hret hml hts hown hlocks hnm hK hW hl
  have hW : XR X G 12 (xMa f sg (va_up L i ℓ) O Y pb pc pd pe pg ph pp pq pt pu) s.heap [] := hW
  obtain ⟨Q0, hQ0⟩ : ∃ z, z = MQ below (xQ X xsh 603 (xval (xB X) (va_up G 12 (xMa f sg (va_up L i (va_up (va_up ℓ 5 0) 6 0)) O Y pb pc pd pe pg ph pp pq pt pu))) none) args s 0 0 (fun q => xB X ≤ q) := ⟨_, rfl⟩
  rw [← hQ0]
  refine lv_aload_n hx hb dX7_stopWaiting_0 rfl (lv_at hl 0 rfl) ?_
  refine lv_iload_n hx hb dX7_stopWaiting_1 rfl (lv_at hl 1 rfl) ?_
  refine lv_iconst (v := 5) hx hb dX7_stopWaiting_2 (by decide) ?_
  refine lv_iconst (v := 0) hx hb dX7_stopWaiting_3 (by decide) ?_
  refine x_callV hx hb hml hown hts hK hW hl.1 (c_X7_layL l X G (i := i) (w := 5) (v := 0) (hi := hi) (hw := (by decide)) ) (xF_mo0).1 (xF_mo0).2.1 (by decide) rfl xw_202 xw_203 xw_204 xw_5 xw_205 hdV_yX7_layL ⟨Nat.le_of_ble_eq_true rfl, Nat.le_of_ble_eq_true rfl⟩ rfl (Nat.le_of_ble_eq_true rfl) ⟨Nat.le_refl _, Nat.le_refl _⟩ dX7_stopWaiting_4 (fun H locs hW => ?_)
  have hW : XR X G 12 (xMa f sg (va_up L i (va_up ℓ 5 0)) O Y pb pc pd pe pg ph pp pq pt pu) H locs := hW
  refine lv_aload_n hx hb dX7_stopWaiting_7 rfl (lv_at hl 0 rfl) ?_
  refine lv_iload_n hx hb dX7_stopWaiting_8 rfl (lv_at hl 1 rfl) ?_
  refine lv_bipush (v := 6) hx hb dX7_stopWaiting_9 (by decide) ?_
  refine lv_iconst (v := 0) hx hb dX7_stopWaiting_11 (by decide) ?_
  refine x_callV hx hb hml hown hts hK hW hl.1 (c_X7_layL l X G (i := i) (w := 6) (v := 0) (hi := hi) (hw := (by decide)) ) (xF_mo0).1 (xF_mo0).2.1 (by decide) rfl xw_202 xw_203 xw_204 xw_5 xw_205 hdV_yX7_layL ⟨Nat.le_of_ble_eq_true rfl, Nat.le_of_ble_eq_true rfl⟩ rfl (Nat.le_of_ble_eq_true rfl) ⟨Nat.le_refl _, Nat.le_refl _⟩ dX7_stopWaiting_12 (fun H locs hW => ?_)
  have hW : XR X G 12 (xMa f sg (va_up L i (va_up (va_up ℓ 5 0) 6 0)) O Y pb pc pd pe pg ph pp pq pt pu) H locs := hW
  rw [hQ0]
  exact x_vret hx hb hret hlocks hW rfl dX7_stopWaiting_15
set_option maxHeartbeats 4000000 in
set_option maxRecDepth 100000 in
theorem c_X7_lightOn (l : Launch) (X : xX) (G : xG) {f sg pb pc pd pe pg ph pp pq pt pu : Nat → Int32} {L O Y : Nat → Nat → Int32} {n : Nat} {x : Int32} (hn : sg 7 = nI n) (hn16 : n ≤ 16) {res : Int32} (hres : (Mlit n x L) = res) : XC l yX7_lightOn cX7_lightOn 4 (some .int) 2 46 0 0 X xsh [.ref (xB X + xkey 12 0 0), .int x] 603 603 (xval (xB X) (va_up G 12 (xMa f sg L O Y pb pc pd pe pg ph pp pq pt pu))) (xval (xB X) (va_up G 12 (xMa f sg L O Y pb pc pd pe pg ph pp pq pt pu))) (some (.int res)) := by
  refine XC.of RX7 "lightOn" [(0, .ref (xB X + xkey 12 0 0)), (1, .int x)] (by decide) rfl rfl (Nat.le_of_ble_eq_true rfl) rfl ?_
  intro p e s m args below meth c ls hx hb hret hml hts hown hlocks hnm hK hW hl
  have hW : XR X G 12 (xMa f sg L O Y pb pc pd pe pg ph pp pq pt pu) s.heap [] := hW
  obtain ⟨Q0, hQ0⟩ : ∃ z, z = MQ below (xQ X xsh 603 (xval (xB X) (va_up G 12 (xMa f sg L O Y pb pc pd pe pg ph pp pq pt pu))) (some (.int res))) args s 0 0 (fun q => xB X ≤ q) := ⟨_, rfl⟩
  rw [← hQ0]
  refine lv_iconst (v := 0) hx hb dX7_lightOn_0 (by decide) ?_
  refine lv_istore_n (lv' := [(2, .int 0), (0, .ref (xB X + xkey 12 0 0)), (1, .int x)]) hx hb dX7_lightOn_1 rfl hl (by decide) rfl (fun ls hl => ?_)
  refine lv_iconst (v := nI 0) hx hb dX7_lightOn_2 (by decide) ?_
  refine lv_istore_n (lv' := [(3, .int (nI 0)), (2, .int 0), (0, .ref (xB X + xkey 12 0 0)), (1, .int x)]) hx hb dX7_lightOn_3 rfl hl (by decide) rfl (fun ls hl => ?_)
  have loop_4 : ∀ (k_4 i : Nat) (da : Int32), i + k_4 = n → xloop (fun i s => if Mlights (L i) x = 0 then s else s ||| xbit i) k_4 i da = xloop (fun i s => if Mlights (L i) x = 0 then s else s ||| xbit i) n 0 0 → ∀ (H : Heap) (locs : List Loc) (ls : Array Slot), XR X G 12 (xMa f sg L O Y pb pc pd pe pg ph pp pq pt pu) H locs → lv_has ls 4 [(0, .ref (xB X + xkey 12 0 0)), (1, .int x), (2, .int da), (3, .int (nI i))] → W p l e { frames := 2, cells := 0, slots := 0, locals := 46 } s m args below meth c H locs 0 0 Q0 (F0 m 4 ls []) := by
    intro k_4
    induction k_4 with
    | zero =>
      intro i da hik_4  hsp_4 H locs ls hW hl
      refine lv_iload_n hx hb dX7_lightOn_4 rfl (lv_at hl 3 rfl) ?_
      refine lv_aload_n hx hb dX7_lightOn_5 rfl (lv_at hl 0 rfl) ?_
      refine r_getr (C := RX7) (T := TX7) hx hb hts hown hK hW (xF_mo0).1 (xF_mo0).2.1 inlX7 rfl (by decide) 0 (by decide) (show xro (xkey 12 0 0) 0 = some (xkey 12 1 0) from by decide +kernel) xw_79 rfl dX7_lightOn_6 ?_
      refine lv_bipush (v := 7) hx hb dX7_lightOn_9 (by decide) ?_
      refine r_iald hx hb hK hW (N := 440) (xF_mo1) 7 (by decide) (by decide) (by decide) (xr_model 1 (by decide) (by decide) 7) (x := nI n) ((xat_s (sg := sg) (L := L) (O := O) (Y := Y) (k := 7) (by omega)).trans hn) dX7_lightOn_11 ?_
      refine lv_icmp_ge (tgt := 40) hx hb dX7_lightOn_12 (by decide) (fun c_1 => ?_) (fun c_1 => absurd (xge_refl (by omega)) c_1)
      refine lv_iload_n hx hb dX7_lightOn_40 rfl (lv_at hl 2 rfl) ?_
      obtain rfl : da = res := by (rw [← hres]) <;> (exact hsp_4)
      rw [hQ0]
      exact x_iret hx hb hret hlocks rfl hW rfl dX7_lightOn_41
    | succ k_4 ih_4 =>
      intro i da hik_4  hsp_4 H locs ls hW hl
      refine lv_iload_n hx hb dX7_lightOn_4 rfl (lv_at hl 3 rfl) ?_
      refine lv_aload_n hx hb dX7_lightOn_5 rfl (lv_at hl 0 rfl) ?_
      refine r_getr (C := RX7) (T := TX7) hx hb hts hown hK hW (xF_mo0).1 (xF_mo0).2.1 inlX7 rfl (by decide) 0 (by decide) (show xro (xkey 12 0 0) 0 = some (xkey 12 1 0) from by decide +kernel) xw_79 rfl dX7_lightOn_6 ?_
      refine lv_bipush (v := 7) hx hb dX7_lightOn_9 (by decide) ?_
      refine r_iald hx hb hK hW (N := 440) (xF_mo1) 7 (by decide) (by decide) (by decide) (xr_model 1 (by decide) (by decide) 7) (x := nI n) ((xat_s (sg := sg) (L := L) (O := O) (Y := Y) (k := 7) (by omega)).trans hn) dX7_lightOn_11 ?_
      refine lv_icmp_ge (tgt := 40) hx hb dX7_lightOn_12 (by decide) (fun c_2 => absurd c_2 (nI_ge (by omega) (by omega))) (fun c_2 => ?_)
      refine lv_iload_n hx hb dX7_lightOn_15 rfl (lv_at hl 2 rfl) ?_
      refine lv_aload_n hx hb dX7_lightOn_16 rfl (lv_at hl 0 rfl) ?_
      refine lv_iload_n hx hb dX7_lightOn_17 rfl (lv_at hl 3 rfl) ?_
      refine lv_iload_n hx hb dX7_lightOn_18 rfl (lv_at hl 1 rfl) ?_
      refine x_callV hx hb hml hown hts hK hW hl.1 (c_X7_lights l X G (i := i) (x := x) (hi := (by omega)) (hres := rfl)) (xF_mo0).1 (xF_mo0).2.1 (by decide) rfl xw_538 xw_539 xw_540 xw_5 xw_541 hdV_yX7_lights ⟨Nat.le_of_ble_eq_true rfl, Nat.le_of_ble_eq_true rfl⟩ rfl (Nat.le_of_ble_eq_true rfl) ⟨Nat.le_refl _, Nat.le_refl _⟩ dX7_lightOn_19 (fun H locs hW => ?_)
      refine lv_if_eq (tgt := 31) hx hb dX7_lightOn_22 (by decide) (fun c_3 => ?_) (fun c_3 => ?_)
      · skip
        refine lv_iconst (v := 0) hx hb dX7_lightOn_31 (by decide) ?_
        refine lv_ior hx hb dX7_lightOn_32 ?_
        refine lv_istore_n (lv' := [(2, .int (da ||| 0)), (0, .ref (xB X + xkey 12 0 0)), (1, .int x), (3, .int (nI i))]) hx hb dX7_lightOn_33 rfl hl (by decide) rfl (fun ls hl => ?_)
        refine lv_iinc (v := nI (i + 1)) (lv' := [(3, .int (nI (i + 1))), (2, .int (da ||| 0)), (0, .ref (xB X + xkey 12 0 0)), (1, .int x)]) hx hb dX7_lightOn_34 hl (k := 3) rfl (nI_1 i) (by decide) rfl (fun ls hl => ?_)
        refine lv_goto (tgt := 4) hx hb dX7_lightOn_37 (by decide) ?_
        refine ih_4 (i + 1) (da ||| 0) (by omega)  ?_ H locs ls hW (lv_sub hl [2, 3, 1, 0] rfl)
        rw [← hsp_4]; simp [xloop, xfind, xloop, c_2, c_3]
      · skip
        refine lv_iconst (v := 1) hx hb dX7_lightOn_25 (by decide) ?_
        refine lv_iload_n hx hb dX7_lightOn_26 rfl (lv_at hl 3 rfl) ?_
        refine lv_ishl hx hb dX7_lightOn_27 ?_
        refine lv_eqi (y := xbit i) rfl ?_
        refine lv_goto (tgt := 32) hx hb dX7_lightOn_28 (by decide) ?_
        refine lv_ior hx hb dX7_lightOn_32 ?_
        refine lv_istore_n (lv' := [(2, .int (da ||| (xbit i))), (0, .ref (xB X + xkey 12 0 0)), (1, .int x), (3, .int (nI i))]) hx hb dX7_lightOn_33 rfl hl (by decide) rfl (fun ls hl => ?_)
        refine lv_iinc (v := nI (i + 1)) (lv' := [(3, .int (nI (i + 1))), (2, .int (da ||| (xbit i))), (0, .ref (xB X + xkey 12 0 0)), (1, .int x)]) hx hb dX7_lightOn_34 hl (k := 3) rfl (nI_1 i) (by decide) rfl (fun ls hl => ?_)
        refine lv_goto (tgt := 4) hx hb dX7_lightOn_37 (by decide) ?_
        refine ih_4 (i + 1) (da ||| (xbit i)) (by omega)  ?_ H locs ls hW (lv_sub hl [2, 3, 1, 0] rfl)
        rw [← hsp_4]; simp [xloop, xfind, xloop, c_2, c_3]
  exact loop_4 n 0 0 (by omega)  rfl _ _ _ hW (lv_sub hl [2, 3, 1, 0] rfl)
set_option maxHeartbeats 4000000 in
set_option maxRecDepth 100000 in
theorem c_X7_hears (l : Launch) (X : xX) (G : xG) {f sg pb pc pd pe pg ph pp pq pt pu : Nat → Int32} {L O Y : Nat → Nat → Int32} {i j : Nat} (hi : i < 16) (hj : j < 16) {res : Int32} (hres : (Mhears sg L i j) = res) : XC l yX7_hears cX7_hears 3 (some .boolean) 1 22 0 0 X xsh [.ref (xB X + xkey 12 0 0), .int (nI i), .int (nI j)] 603 603 (xval (xB X) (va_up G 12 (xMa f sg L O Y pb pc pd pe pg ph pp pq pt pu))) (xval (xB X) (va_up G 12 (xMa f sg L O Y pb pc pd pe pg ph pp pq pt pu))) (some (.int res)) := by
  refine XC.of RX7 "hears" [(0, .ref (xB X + xkey 12 0 0)), (1, .int (nI i)), (2, .int (nI j))] (by decide) rfl rfl (Nat.le_of_ble_eq_true rfl) rfl ?_
  intro p e s m args below meth c ls hx hb hret hml hts hown hlocks hnm hK hW hl
  have hW : XR X G 12 (xMa f sg L O Y pb pc pd pe pg ph pp pq pt pu) s.heap [] := hW
  obtain ⟨Q0, hQ0⟩ : ∃ z, z = MQ below (xQ X xsh 603 (xval (xB X) (va_up G 12 (xMa f sg L O Y pb pc pd pe pg ph pp pq pt pu))) (some (.int res))) args s 0 0 (fun q => xB X ≤ q) := ⟨_, rfl⟩
  rw [← hQ0]
  refine lv_iload_n hx hb dX7_hears_0 rfl (lv_at hl 1 rfl) ?_
  refine lv_iload_n hx hb dX7_hears_1 rfl (lv_at hl 2 rfl) ?_
  refine lv_icmp_eq (tgt := 43) hx hb dX7_hears_2 (by decide) (fun c_1 => ?_) (fun c_1 => ?_)
  · skip
    refine lv_iconst (v := 0) hx hb dX7_hears_43 (by decide) ?_
    obtain rfl : 0 = res := by (rw [← hres]) <;> ((simp [Mhears, c_1]))
    rw [hQ0]
    exact x_iret hx hb hret hlocks rfl hW rfl dX7_hears_44
  · skip
    refine lv_aload_n hx hb dX7_hears_5 rfl (lv_at hl 0 rfl) ?_
    refine lv_iload_n hx hb dX7_hears_6 rfl (lv_at hl 1 rfl) ?_
    refine lv_iconst (v := 3) hx hb dX7_hears_7 (by decide) ?_
    refine x_callV hx hb hml hown hts hK hW hl.1 (c_X7_ofL l X G (i := i) (w := 3) (hi := hi) (hw := (by decide)) (hres := rfl)) (xF_mo0).1 (xF_mo0).2.1 (by decide) rfl xw_198 xw_199 xw_200 xw_5 xw_201 hdV_yX7_ofL ⟨Nat.le_of_ble_eq_true rfl, Nat.le_of_ble_eq_true rfl⟩ rfl (Nat.le_of_ble_eq_true rfl) ⟨Nat.le_refl _, Nat.le_refl _⟩ dX7_hears_8 (fun H locs hW => ?_)
    refine lv_iconst (v := 2) hx hb dX7_hears_11 (by decide) ?_
    refine lv_icmp_eq (tgt := 43) hx hb dX7_hears_12 (by decide) (fun c_2 => ?_) (fun c_2 => ?_)
    · skip
      refine lv_iconst (v := 0) hx hb dX7_hears_43 (by decide) ?_
      obtain rfl : 0 = res := by (rw [← hres]) <;> ((simp [Mhears, c_1, c_2]))
      rw [hQ0]
      exact x_iret hx hb hret hlocks rfl hW rfl dX7_hears_44
    · skip
      refine lv_aload_n hx hb dX7_hears_15 rfl (lv_at hl 0 rfl) ?_
      refine lv_iload_n hx hb dX7_hears_16 rfl (lv_at hl 1 rfl) ?_
      refine lv_iconst (v := 0) hx hb dX7_hears_17 (by decide) ?_
      refine x_callV hx hb hml hown hts hK hW hl.1 (c_X7_ofL l X G (i := i) (w := 0) (hi := hi) (hw := (by decide)) (hres := rfl)) (xF_mo0).1 (xF_mo0).2.1 (by decide) rfl xw_198 xw_199 xw_200 xw_5 xw_201 hdV_yX7_ofL ⟨Nat.le_of_ble_eq_true rfl, Nat.le_of_ble_eq_true rfl⟩ rfl (Nat.le_of_ble_eq_true rfl) ⟨Nat.le_refl _, Nat.le_refl _⟩ dX7_hears_18 (fun H locs hW => ?_)
      refine lv_aload_n hx hb dX7_hears_21 rfl (lv_at hl 0 rfl) ?_
      refine lv_iload_n hx hb dX7_hears_22 rfl (lv_at hl 2 rfl) ?_
      refine lv_iconst (v := 0) hx hb dX7_hears_23 (by decide) ?_
      refine x_callV hx hb hml hown hts hK hW hl.1 (c_X7_ofL l X G (i := j) (w := 0) (hi := hj) (hw := (by decide)) (hres := rfl)) (xF_mo0).1 (xF_mo0).2.1 (by decide) rfl xw_198 xw_199 xw_200 xw_5 xw_201 hdV_yX7_ofL ⟨Nat.le_of_ble_eq_true rfl, Nat.le_of_ble_eq_true rfl⟩ rfl (Nat.le_of_ble_eq_true rfl) ⟨Nat.le_refl _, Nat.le_refl _⟩ dX7_hears_24 (fun H locs hW => ?_)
      refine x_callS hx hb hml hown hts hK hW hl.1 (c_X7_far l X _ (a := L i 0) (b := L j 0) (hres := rfl)) xw_385 xw_386 xw_5 xw_387 hdS_yX7_far ⟨Nat.le_of_ble_eq_true rfl, Nat.le_of_ble_eq_true rfl⟩ rfl (Nat.le_of_ble_eq_true rfl) ⟨Nat.le_refl _, Nat.le_refl _⟩ dX7_hears_27 (fun H locs hW => ?_)
      refine lv_aload_n hx hb dX7_hears_30 rfl (lv_at hl 0 rfl) ?_
      refine r_getr (C := RX7) (T := TX7) hx hb hts hown hK hW (xF_mo0).1 (xF_mo0).2.1 inlX7 rfl (by decide) 0 (by decide) (show xro (xkey 12 0 0) 0 = some (xkey 12 1 0) from by decide +kernel) xw_79 rfl dX7_hears_31 ?_
      refine lv_iconst (v := 1) hx hb dX7_hears_34 (by decide) ?_
      refine r_iald hx hb hK hW (N := 440) (xF_mo1) 1 (by decide) (by decide) (by decide) (xr_model 1 (by decide) (by decide) 1) (x := sg 1) (xat_s (sg := sg) (L := L) (O := O) (Y := Y) (k := 1) (by omega)) dX7_hears_35 ?_
      refine lv_icmp_gt (tgt := 43) hx hb dX7_hears_36 (by decide) (fun c_3 => ?_) (fun c_3 => ?_)
      · skip
        refine lv_iconst (v := 0) hx hb dX7_hears_43 (by decide) ?_
        obtain rfl : 0 = res := by (rw [← hres]) <;> ((simp [Mhears, c_1, c_2, c_3, Int32.not_le.mpr c_3]))
        rw [hQ0]
        exact x_iret hx hb hret hlocks rfl hW rfl dX7_hears_44
      · skip
        refine lv_iconst (v := 1) hx hb dX7_hears_39 (by decide) ?_
        refine lv_goto (tgt := 44) hx hb dX7_hears_40 (by decide) ?_
        obtain rfl : 1 = res := by (rw [← hres]) <;> ((simp [Mhears, c_1, c_2, c_3, Int32.not_lt.mp c_3]))
        rw [hQ0]
        exact x_iret hx hb hret hlocks rfl hW rfl dX7_hears_44
set_option maxHeartbeats 4000000 in
set_option maxRecDepth 100000 in
theorem c_X7_coughs (l : Launch) (X : xX) (G : xG) {f sg pb pc pd pe pg ph pp pq pt pu : Nat → Int32} {L O Y : Nat → Nat → Int32} {n a : Nat} {k : Int32} (hn : sg 7 = nI n) (hn16 : n ≤ 16) (ha : a < 16) {L' : Nat → Nat → Int32} (ho0 : ((Mspread n sg a k L).1) = L') {res : Int32} (hres : ((Mspread n sg a k L).2) = res) : XC l yX7_coughs cX7_coughs 5 (some .int) 2 44 0 0 X xsh [.ref (xB X + xkey 12 0 0), .int (nI a), .int k] 603 603 (xval (xB X) (va_up G 12 (xMa f sg L O Y pb pc pd pe pg ph pp pq pt pu))) (xval (xB X) (va_up G 12 (xMa f sg L' O Y pb pc pd pe pg ph pp pq pt pu))) (some (.int res)) := by
  refine XC.of RX7 "coughs" [(0, .ref (xB X + xkey 12 0 0)), (1, .int (nI a)), (2, .int k)] (by decide) rfl rfl (Nat.le_of_ble_eq_true rfl) rfl ?_
  intro p e s m args below meth c ls hx hb hret hml hts hown hlocks hnm hK hW hl
  have hW : XR X G 12 (xMa f sg L O Y pb pc pd pe pg ph pp pq pt pu) s.heap [] := hW
  obtain ⟨Q0, hQ0⟩ : ∃ z, z = MQ below (xQ X xsh 603 (xval (xB X) (va_up G 12 (xMa f sg L' O Y pb pc pd pe pg ph pp pq pt pu))) (some (.int res))) args s 0 0 (fun q => xB X ≤ q) := ⟨_, rfl⟩
  rw [← hQ0]
  refine lv_iconst (v := 0) hx hb dX7_coughs_0 (by decide) ?_
  refine lv_istore_n (lv' := [(3, .int 0), (0, .ref (xB X + xkey 12 0 0)), (1, .int (nI a)), (2, .int k)]) hx hb dX7_coughs_1 rfl hl (by decide) rfl (fun ls hl => ?_)
  refine lv_aload_n hx hb dX7_coughs_2 rfl (lv_at hl 1 rfl) ?_
  refine lv_iload_n hx hb dX7_coughs_3 rfl (lv_at hl 2 rfl) ?_
  refine lv_bipush (v := 8) hx hb dX7_coughs_4 (by decide) ?_
  refine lv_iconst (v := 1) hx hb dX7_coughs_6 (by decide) ?_
  have hW := XR.mfoc2 hW a
  refine x_callV hx hb hml hown hts hK hW hl.1 (c_X7_moreL l X G (i := a) (w := 8) (v := 1) (hi := ha) (hw := (by decide)) ) (xF_mo0).1 (xF_mo0).2.1 (by decide) rfl xw_377 xw_378 xw_379 xw_5 xw_380 hdV_yX7_moreL ⟨Nat.le_of_ble_eq_true rfl, Nat.le_of_ble_eq_true rfl⟩ rfl (Nat.le_of_ble_eq_true rfl) ⟨Nat.le_refl _, Nat.le_refl _⟩ dX7_coughs_7 (fun H locs hW => ?_)
  have hW : XR X G 12 (xMa f sg (va_up L a (va_up (L a) 8 ((L a) 8 + 1))) O Y pb pc pd pe pg ph pp pq pt pu) H locs := hW
  refine lv_iconst (v := nI 0) hx hb dX7_coughs_10 (by decide) ?_
  refine lv_istore (lv' := [(4, .int (nI 0)), (3, .int 0), (0, .ref (xB X + xkey 12 0 0)), (1, .int (nI a)), (2, .int k)]) hx hb dX7_coughs_11 hl (by decide) rfl (fun ls hl => ?_)
  have loop_13 : ∀ (k_13 i : Nat) (La : Nat → Nat → Int32) (ca : Int32), i + k_13 = n → xloop (fun i (q : (Nat → Nat → Int32) × Int32) => if Mhears sg q.1 i a = 0 then q else (va_up q.1 i (Mhear k sg (q.1 i)), q.2 + 1)) k_13 i (La, ca) = xloop (fun i (q : (Nat → Nat → Int32) × Int32) => if Mhears sg q.1 i a = 0 then q else (va_up q.1 i (Mhear k sg (q.1 i)), q.2 + 1)) n 0 ((va_up L a (va_up (L a) 8 ((L a) 8 + 1))), 0) → ∀ (H : Heap) (locs : List Loc) (ls : Array Slot), XR X G 12 (xMa f sg La O Y pb pc pd pe pg ph pp pq pt pu) H locs → lv_has ls 5 [(0, .ref (xB X + xkey 12 0 0)), (1, .int (nI a)), (2, .int k), (3, .int ca), (4, .int (nI i))] → W p l e { frames := 2, cells := 0, slots := 0, locals := 44 } s m args below meth c H locs 0 0 Q0 (F0 m 13 ls []) := by
    intro k_13
    induction k_13 with
    | zero =>
      intro i La ca hik_13  hsp_13 H locs ls hW hl
      refine lv_iload hx hb dX7_coughs_13 (lv_at hl 4 rfl) ?_
      refine lv_aload_n hx hb dX7_coughs_15 rfl (lv_at hl 0 rfl) ?_
      refine r_getr (C := RX7) (T := TX7) hx hb hts hown hK hW (xF_mo0).1 (xF_mo0).2.1 inlX7 rfl (by decide) 0 (by decide) (show xro (xkey 12 0 0) 0 = some (xkey 12 1 0) from by decide +kernel) xw_79 rfl dX7_coughs_16 ?_
      refine lv_bipush (v := 7) hx hb dX7_coughs_19 (by decide) ?_
      refine r_iald hx hb hK hW (N := 440) (xF_mo1) 7 (by decide) (by decide) (by decide) (xr_model 1 (by decide) (by decide) 7) (x := nI n) ((xat_s (sg := sg) (L := La) (O := O) (Y := Y) (k := 7) (by omega)).trans hn) dX7_coughs_21 ?_
      refine lv_icmp_ge (tgt := 114) hx hb dX7_coughs_22 (by decide) (fun c_1 => ?_) (fun c_1 => absurd (xge_refl (by omega)) c_1)
      refine lv_iload_n hx hb dX7_coughs_114 rfl (lv_at hl 3 rfl) ?_
      obtain rfl : La = L' := by (rw [← ho0]) <;> (unfold Mspread; rw [← hsp_13]; rfl)
      obtain rfl : ca = res := by (rw [← hres]) <;> (unfold Mspread; rw [← hsp_13]; rfl)
      rw [hQ0]
      exact x_iret hx hb hret hlocks rfl hW rfl dX7_coughs_115
    | succ k_13 ih_13 =>
      intro i La ca hik_13  hsp_13 H locs ls hW hl
      refine lv_iload hx hb dX7_coughs_13 (lv_at hl 4 rfl) ?_
      refine lv_aload_n hx hb dX7_coughs_15 rfl (lv_at hl 0 rfl) ?_
      refine r_getr (C := RX7) (T := TX7) hx hb hts hown hK hW (xF_mo0).1 (xF_mo0).2.1 inlX7 rfl (by decide) 0 (by decide) (show xro (xkey 12 0 0) 0 = some (xkey 12 1 0) from by decide +kernel) xw_79 rfl dX7_coughs_16 ?_
      refine lv_bipush (v := 7) hx hb dX7_coughs_19 (by decide) ?_
      refine r_iald hx hb hK hW (N := 440) (xF_mo1) 7 (by decide) (by decide) (by decide) (xr_model 1 (by decide) (by decide) 7) (x := nI n) ((xat_s (sg := sg) (L := La) (O := O) (Y := Y) (k := 7) (by omega)).trans hn) dX7_coughs_21 ?_
      refine lv_icmp_ge (tgt := 114) hx hb dX7_coughs_22 (by decide) (fun c_2 => absurd c_2 (nI_ge (by omega) (by omega))) (fun c_2 => ?_)
      refine lv_aload_n hx hb dX7_coughs_25 rfl (lv_at hl 0 rfl) ?_
      refine lv_iload hx hb dX7_coughs_26 (lv_at hl 4 rfl) ?_
      refine lv_iload_n hx hb dX7_coughs_28 rfl (lv_at hl 1 rfl) ?_
      refine x_callV hx hb hml hown hts hK hW hl.1 (c_X7_hears l X G (i := i) (j := a) (hi := (by omega)) (hj := ha) (hres := rfl)) (xF_mo0).1 (xF_mo0).2.1 (by decide) rfl xw_381 xw_382 xw_383 xw_5 xw_384 hdV_yX7_hears ⟨Nat.le_of_ble_eq_true rfl, Nat.le_of_ble_eq_true rfl⟩ rfl (Nat.le_of_ble_eq_true rfl) ⟨Nat.le_refl _, Nat.le_refl _⟩ dX7_coughs_29 (fun H locs hW => ?_)
      refine lv_if_eq (tgt := 108) hx hb dX7_coughs_32 (by decide) (fun c_3 => ?_) (fun c_3 => ?_)
      · skip
        refine lv_iinc (v := nI (i + 1)) (lv' := [(4, .int (nI (i + 1))), (0, .ref (xB X + xkey 12 0 0)), (1, .int (nI a)), (2, .int k), (3, .int ca)]) hx hb dX7_coughs_108 hl (k := 4) rfl (nI_1 i) (by decide) rfl (fun ls hl => ?_)
        refine lv_goto (tgt := 13) hx hb dX7_coughs_111 (by decide) ?_
        refine ih_13 (i + 1) La ca (by omega)  ?_ H locs ls hW (lv_sub hl [1, 2, 3, 4, 0] rfl)
        rw [← hsp_13]; simp [xloop, Mhear, Mshine, va_up, c_2, c_3]
      · skip
        refine lv_iinc (v := ca + 1) (lv' := [(3, .int (ca + 1)), (0, .ref (xB X + xkey 12 0 0)), (1, .int (nI a)), (2, .int k), (4, .int (nI i))]) hx hb dX7_coughs_35 hl (k := 3) rfl rfl (by decide) rfl (fun ls hl => ?_)
        refine lv_aload_n hx hb dX7_coughs_38 rfl (lv_at hl 1 rfl) ?_
        refine lv_iload hx hb dX7_coughs_39 (lv_at hl 4 rfl) ?_
        refine lv_bipush (v := 9) hx hb dX7_coughs_41 (by decide) ?_
        refine lv_iconst (v := 1) hx hb dX7_coughs_43 (by decide) ?_
        have hW := XR.mfoc2 hW i
        refine x_callV hx hb hml hown hts hK hW hl.1 (c_X7_moreL l X G (i := i) (w := 9) (v := 1) (hi := (by omega)) (hw := (by decide)) ) (xF_mo0).1 (xF_mo0).2.1 (by decide) rfl xw_377 xw_378 xw_379 xw_5 xw_380 hdV_yX7_moreL ⟨Nat.le_of_ble_eq_true rfl, Nat.le_of_ble_eq_true rfl⟩ rfl (Nat.le_of_ble_eq_true rfl) ⟨Nat.le_refl _, Nat.le_refl _⟩ dX7_coughs_44 (fun H locs hW => ?_)
        have hW : XR X G 12 (xMa f sg (va_up La i (va_up (La i) 9 ((La i) 9 + 1))) O Y pb pc pd pe pg ph pp pq pt pu) H locs := hW
        refine lv_aload_n hx hb dX7_coughs_47 rfl (lv_at hl 1 rfl) ?_
        refine lv_iload hx hb dX7_coughs_48 (lv_at hl 4 rfl) ?_
        refine x_callV hx hb hml hown hts hK hW hl.1 (c_X7_shine l X G (i := i) (hi := (by omega)) (ho0 := rfl)) (xF_mo0).1 (xF_mo0).2.1 (by decide) rfl xw_388 xw_389 xw_390 xw_5 xw_391 hdV_yX7_shine ⟨Nat.le_of_ble_eq_true rfl, Nat.le_of_ble_eq_true rfl⟩ rfl (Nat.le_of_ble_eq_true rfl) ⟨Nat.le_refl _, Nat.le_refl _⟩ dX7_coughs_50 (fun H locs hW => ?_)
        have hW : XR X G 12 (xMa f sg (va_up La i (Mshine sg (va_up (La i) 9 ((La i) 9 + 1)))) O Y pb pc pd pe pg ph pp pq pt pu) H locs := hW
        refine lv_iload_n hx hb dX7_coughs_53 rfl (lv_at hl 3 rfl) ?_
        refine lv_aload_n hx hb dX7_coughs_54 rfl (lv_at hl 1 rfl) ?_
        refine r_getr (C := RX7) (T := TX7) hx hb hts hown hK hW (xF_mo0).1 (xF_mo0).2.1 inlX7 rfl (by decide) 0 (by decide) (show xro (xkey 12 0 0) 0 = some (xkey 12 1 0) from by decide +kernel) xw_79 rfl dX7_coughs_55 ?_
        refine lv_iconst (v := 5) hx hb dX7_coughs_58 (by decide) ?_
        refine r_iald hx hb hK hW (N := 440) (xF_mo1) 5 (by decide) (by decide) (by decide) (xr_model 1 (by decide) (by decide) 5) (x := sg 5) (xat_s (sg := sg) (L := (va_up La i (Mshine sg (va_up (La i) 9 ((La i) 9 + 1))))) (O := O) (Y := Y) (k := 5) (by omega)) dX7_coughs_59 ?_
        refine lv_icmp_ge (tgt := 108) hx hb dX7_coughs_60 (by decide) (fun c_4 => ?_) (fun c_4 => ?_)
        · skip
          refine lv_iinc (v := nI (i + 1)) (lv' := [(4, .int (nI (i + 1))), (3, .int (ca + 1)), (0, .ref (xB X + xkey 12 0 0)), (1, .int (nI a)), (2, .int k)]) hx hb dX7_coughs_108 hl (k := 4) rfl (nI_1 i) (by decide) rfl (fun ls hl => ?_)
          refine lv_goto (tgt := 13) hx hb dX7_coughs_111 (by decide) ?_
          refine ih_13 (i + 1) (va_up La i (Mshine sg (va_up (La i) 9 ((La i) 9 + 1)))) (ca + 1) (by omega)  ?_ H locs ls hW (lv_sub hl [2, 3, 4, 1, 0] rfl)
          rw [← hsp_13]; simp [xloop, Mhear, Mshine, va_up, c_2, c_3, c_4, Int32.not_lt.mpr c_4]
        · skip
          refine lv_aload_n hx hb dX7_coughs_63 rfl (lv_at hl 1 rfl) ?_
          refine lv_iload hx hb dX7_coughs_64 (lv_at hl 4 rfl) ?_
          refine lv_iconst (v := 5) hx hb dX7_coughs_66 (by decide) ?_
          refine x_callV hx hb hml hown hts hK hW hl.1 (c_X7_ofL l X G (i := i) (w := 5) (hi := (by omega)) (hw := (by decide)) (hres := rfl)) (xF_mo0).1 (xF_mo0).2.1 (by decide) rfl xw_198 xw_199 xw_200 xw_5 xw_201 hdV_yX7_ofL ⟨Nat.le_of_ble_eq_true rfl, Nat.le_of_ble_eq_true rfl⟩ rfl (Nat.le_of_ble_eq_true rfl) ⟨Nat.le_refl _, Nat.le_refl _⟩ dX7_coughs_67 (fun H locs hW => ?_)
          refine lv_eqi (y := (Mshine sg (va_up (La i) 9 ((La i) 9 + 1))) 5) (xrd rfl) ?_
          refine lv_eqi (y := La i 5) rfl ?_
          refine lv_if_ne (tgt := 108) hx hb dX7_coughs_70 (by decide) (fun c_5 => ?_) (fun c_5 => ?_)
          · skip
            refine lv_iinc (v := nI (i + 1)) (lv' := [(4, .int (nI (i + 1))), (3, .int (ca + 1)), (0, .ref (xB X + xkey 12 0 0)), (1, .int (nI a)), (2, .int k)]) hx hb dX7_coughs_108 hl (k := 4) rfl (nI_1 i) (by decide) rfl (fun ls hl => ?_)
            refine lv_goto (tgt := 13) hx hb dX7_coughs_111 (by decide) ?_
            refine ih_13 (i + 1) (va_up La i (Mshine sg (va_up (La i) 9 ((La i) 9 + 1)))) (ca + 1) (by omega)  ?_ H locs ls hW (lv_sub hl [2, 3, 4, 1, 0] rfl)
            rw [← hsp_13]; simp [xloop, Mhear, Mshine, va_up, c_2, c_3, c_4, Int32.not_le.mp c_4, c_5]
          · skip
            refine lv_aload_n hx hb dX7_coughs_73 rfl (lv_at hl 1 rfl) ?_
            refine lv_iload hx hb dX7_coughs_74 (lv_at hl 4 rfl) ?_
            refine lv_bipush (v := 11) hx hb dX7_coughs_76 (by decide) ?_
            refine x_callV hx hb hml hown hts hK hW hl.1 (c_X7_ofL l X G (i := i) (w := 11) (hi := (by omega)) (hw := (by decide)) (hres := rfl)) (xF_mo0).1 (xF_mo0).2.1 (by decide) rfl xw_198 xw_199 xw_200 xw_5 xw_201 hdV_yX7_ofL ⟨Nat.le_of_ble_eq_true rfl, Nat.le_of_ble_eq_true rfl⟩ rfl (Nat.le_of_ble_eq_true rfl) ⟨Nat.le_refl _, Nat.le_refl _⟩ dX7_coughs_78 (fun H locs hW => ?_)
            refine lv_eqi (y := (Mshine sg (va_up (La i) 9 ((La i) 9 + 1))) 11) (xrd rfl) ?_
            refine lv_eqi (y := La i 11) rfl ?_
            refine lv_if_ne (tgt := 108) hx hb dX7_coughs_81 (by decide) (fun c_6 => ?_) (fun c_6 => ?_)
            · skip
              refine lv_iinc (v := nI (i + 1)) (lv' := [(4, .int (nI (i + 1))), (3, .int (ca + 1)), (0, .ref (xB X + xkey 12 0 0)), (1, .int (nI a)), (2, .int k)]) hx hb dX7_coughs_108 hl (k := 4) rfl (nI_1 i) (by decide) rfl (fun ls hl => ?_)
              refine lv_goto (tgt := 13) hx hb dX7_coughs_111 (by decide) ?_
              refine ih_13 (i + 1) (va_up La i (Mshine sg (va_up (La i) 9 ((La i) 9 + 1)))) (ca + 1) (by omega)  ?_ H locs ls hW (lv_sub hl [2, 3, 4, 1, 0] rfl)
              rw [← hsp_13]; simp [xloop, Mhear, Mshine, va_up, c_2, c_3, c_4, Int32.not_le.mp c_4, c_5, c_6]
            · skip
              refine lv_aload_n hx hb dX7_coughs_84 rfl (lv_at hl 1 rfl) ?_
              refine lv_iload hx hb dX7_coughs_85 (lv_at hl 4 rfl) ?_
              refine lv_iconst (v := 5) hx hb dX7_coughs_87 (by decide) ?_
              refine lv_aload_n hx hb dX7_coughs_88 rfl (lv_at hl 1 rfl) ?_
              refine r_getr (C := RX7) (T := TX7) hx hb hts hown hK hW (xF_mo0).1 (xF_mo0).2.1 inlX7 rfl (by decide) 0 (by decide) (show xro (xkey 12 0 0) 0 = some (xkey 12 1 0) from by decide +kernel) xw_79 rfl dX7_coughs_89 ?_
              refine lv_iconst (v := 4) hx hb dX7_coughs_92 (by decide) ?_
              refine r_iald hx hb hK hW (N := 440) (xF_mo1) 4 (by decide) (by decide) (by decide) (xr_model 1 (by decide) (by decide) 4) (x := sg 4) (xat_s (sg := sg) (L := (va_up La i (Mshine sg (va_up (La i) 9 ((La i) 9 + 1))))) (O := O) (Y := Y) (k := 4) (by omega)) dX7_coughs_93 ?_
              refine x_callV hx hb hml hown hts hK hW hl.1 (c_X7_layL l X G (i := i) (w := 5) (v := sg 4) (hi := (by omega)) (hw := (by decide)) ) (xF_mo0).1 (xF_mo0).2.1 (by decide) rfl xw_202 xw_203 xw_204 xw_5 xw_205 hdV_yX7_layL ⟨Nat.le_of_ble_eq_true rfl, Nat.le_of_ble_eq_true rfl⟩ rfl (Nat.le_of_ble_eq_true rfl) ⟨Nat.le_refl _, Nat.le_refl _⟩ dX7_coughs_94 (fun H locs hW => ?_)
              have hW : XR X G 12 (xMa f sg (va_up La i (va_up (Mshine sg (va_up (La i) 9 ((La i) 9 + 1))) 5 (sg 4))) O Y pb pc pd pe pg ph pp pq pt pu) H locs := hW
              refine lv_aload_n hx hb dX7_coughs_97 rfl (lv_at hl 1 rfl) ?_
              refine lv_iload hx hb dX7_coughs_98 (lv_at hl 4 rfl) ?_
              refine lv_bipush (v := 6) hx hb dX7_coughs_100 (by decide) ?_
              refine lv_iload_n hx hb dX7_coughs_102 rfl (lv_at hl 3 rfl) ?_
              refine lv_iconst (v := 1) hx hb dX7_coughs_103 (by decide) ?_
              refine lv_iadd hx hb dX7_coughs_104 ?_
              refine x_callV hx hb hml hown hts hK hW hl.1 (c_X7_layL l X G (i := i) (w := 6) (v := k + 1) (hi := (by omega)) (hw := (by decide)) ) (xF_mo0).1 (xF_mo0).2.1 (by decide) rfl xw_202 xw_203 xw_204 xw_5 xw_205 hdV_yX7_layL ⟨Nat.le_of_ble_eq_true rfl, Nat.le_of_ble_eq_true rfl⟩ rfl (Nat.le_of_ble_eq_true rfl) ⟨Nat.le_refl _, Nat.le_refl _⟩ dX7_coughs_105 (fun H locs hW => ?_)
              have hW : XR X G 12 (xMa f sg (va_up La i (va_up (va_up (Mshine sg (va_up (La i) 9 ((La i) 9 + 1))) 5 (sg 4)) 6 (k + 1))) O Y pb pc pd pe pg ph pp pq pt pu) H locs := hW
              refine lv_iinc (v := nI (i + 1)) (lv' := [(4, .int (nI (i + 1))), (3, .int (ca + 1)), (0, .ref (xB X + xkey 12 0 0)), (1, .int (nI a)), (2, .int k)]) hx hb dX7_coughs_108 hl (k := 4) rfl (nI_1 i) (by decide) rfl (fun ls hl => ?_)
              refine lv_goto (tgt := 13) hx hb dX7_coughs_111 (by decide) ?_
              refine ih_13 (i + 1) (va_up La i (va_up (va_up (Mshine sg (va_up (La i) 9 ((La i) 9 + 1))) 5 (sg 4)) 6 (k + 1))) (ca + 1) (by omega)  ?_ H locs ls hW (lv_sub hl [2, 3, 4, 1, 0] rfl)
              rw [← hsp_13]; simp [xloop, Mhear, Mshine, va_up, c_2, c_3, c_4, Int32.not_le.mp c_4, c_5, c_6]
  exact loop_13 n 0 (va_up L a (va_up (L a) 8 ((L a) 8 + 1))) 0 (by omega)  rfl _ _ _ hW (lv_sub hl [2, 3, 4, 1, 0] rfl)
