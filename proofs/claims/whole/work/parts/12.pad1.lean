theorem hdS_yX3_isDigit : yX3_isDigit.cls ≠ "java/lang/invoke/MethodHandle" ∧ yX3_isDigit.cls ≠ "java/lang/invoke/VarHandle" ∧ (parseMethodDescriptor yX3_isDigit.desc).map (fun d => d.parameters.length) = some 1 := by decide +kernel
theorem hdV_yX3_append : yX3_append.cls = RX3 ∧ yX3_append.cls ≠ "java/lang/invoke/MethodHandle" ∧ yX3_append.cls ≠ "java/lang/invoke/VarHandle" ∧ (parseMethodDescriptor yX3_append.desc).map (fun d => d.parameters.length) = some 1 := by decide +kernel
theorem hdV_yX3_clear : yX3_clear.cls = RX3 ∧ yX3_clear.cls ≠ "java/lang/invoke/MethodHandle" ∧ yX3_clear.cls ≠ "java/lang/invoke/VarHandle" ∧ (parseMethodDescriptor yX3_clear.desc).map (fun d => d.parameters.length) = some 0 := by decide +kernel
theorem hdV_yX3_rewind : yX3_rewind.cls = RX3 ∧ yX3_rewind.cls ≠ "java/lang/invoke/MethodHandle" ∧ yX3_rewind.cls ≠ "java/lang/invoke/VarHandle" ∧ (parseMethodDescriptor yX3_rewind.desc).map (fun d => d.parameters.length) = some 0 := by decide +kernel
theorem hdV_yX3_sign : yX3_sign.cls = RX3 ∧ yX3_sign.cls ≠ "java/lang/invoke/MethodHandle" ∧ yX3_sign.cls ≠ "java/lang/invoke/VarHandle" ∧ (parseMethodDescriptor yX3_sign.desc).map (fun d => d.parameters.length) = some 0 := by decide +kernel
theorem hdV_yX3_readSign : yX3_readSign.cls = RX3 ∧ yX3_readSign.cls ≠ "java/lang/invoke/MethodHandle" ∧ yX3_readSign.cls ≠ "java/lang/invoke/VarHandle" ∧ (parseMethodDescriptor yX3_readSign.desc).map (fun d => d.parameters.length) = some 1 := by decide +kernel
theorem hdV_yX3_keepNumber : yX3_keepNumber.cls = RX3 ∧ yX3_keepNumber.cls ≠ "java/lang/invoke/MethodHandle" ∧ yX3_keepNumber.cls ≠ "java/lang/invoke/VarHandle" ∧ (parseMethodDescriptor yX3_keepNumber.desc).map (fun d => d.parameters.length) = some 1 := by decide +kernel
set_option maxHeartbeats 4000000 in
set_option maxRecDepth 100000 in
theorem c_X3_isDigit (l : Launch) (X : xX) (G : xG) {c0 : Int32}  {res : Int32} (hres : (Fdig c0) = res) : XC l yX3_isDigit cX3_isDigit 1 (some .boolean) 0 0 0 0 X xsh [.int c0] 603 603 (xval (xB X) G) (xval (xB X) G) (some (.int res)) := by
  refine XC.of RX3 "isDigit" [(0, .int c0)] (by decide) rfl rfl (Nat.le_of_ble_eq_true rfl) rfl ?_
  intro p e s m args below meth c ls hx hb hret hml hts hown hlocks hnm hK hW hl
  have hW : XG X G s.heap [] := hW
  obtain ⟨Q0, hQ0⟩ : ∃ z, z = MQ below (xQ X xsh 603 (xval (xB X) G) (some (.int res))) args s 0 0 (fun q => xB X ≤ q) := ⟨_, rfl⟩
  rw [← hQ0]
  refine lv_iload_n hx hb dX3_isDigit_0 rfl (lv_at hl 0 rfl) ?_
  refine lv_bipush (v := 48) hx hb dX3_isDigit_1 (by decide) ?_
  refine lv_icmp_lt (tgt := 16) hx hb dX3_isDigit_3 (by decide) (fun c_1 => ?_) (fun c_1 => ?_)
  · skip
    refine lv_iconst (v := 0) hx hb dX3_isDigit_16 (by decide) ?_
    obtain rfl : 0 = res := by (rw [← hres]) <;> (simp [Fdig, c_1, Int32.not_le.mpr c_1])
    rw [hQ0]
    exact x_iret hx hb hret hlocks rfl hW rfl dX3_isDigit_17
  · skip
    refine lv_iload_n hx hb dX3_isDigit_6 rfl (lv_at hl 0 rfl) ?_
    refine lv_bipush (v := 57) hx hb dX3_isDigit_7 (by decide) ?_
    refine lv_icmp_gt (tgt := 16) hx hb dX3_isDigit_9 (by decide) (fun c_2 => ?_) (fun c_2 => ?_)
    · skip
      refine lv_iconst (v := 0) hx hb dX3_isDigit_16 (by decide) ?_
      obtain rfl : 0 = res := by (rw [← hres]) <;> (simp [Fdig, c_1, Int32.not_lt.mp c_1, c_2, Int32.not_le.mpr c_2])
      rw [hQ0]
      exact x_iret hx hb hret hlocks rfl hW rfl dX3_isDigit_17
    · skip
      refine lv_iconst (v := 1) hx hb dX3_isDigit_12 (by decide) ?_
      refine lv_goto (tgt := 17) hx hb dX3_isDigit_13 (by decide) ?_
      obtain rfl : 1 = res := by (rw [← hres]) <;> (simp [Fdig, c_1, Int32.not_lt.mp c_1, c_2, Int32.not_lt.mp c_2])
      rw [hQ0]
      exact x_iret hx hb hret hlocks rfl hW rfl dX3_isDigit_17
set_option maxHeartbeats 4000000 in
set_option maxRecDepth 100000 in
theorem c_X3_append (l : Launch) (X : xX) (G : xG) {sv hs pf sn nb : Nat → Int32} {x : Int32} (hp : Pok pf) (hch : narrow .char (.int x) = .int x) {pf' : Nat → Int32} (ho0 : ((if pf 2 < 80 then va_up pf 2 (pf 2 + 1) else pf)) = pf') {sn' : Nat → Int32} (ho1 : ((if pf 2 < 80 then va_up sn (pf 2).toNatClampNeg x else sn)) = sn') : XC l yX3_append cX3_append 2 none 0 0 0 0 X xsh [.ref (xB X + xkey 11 2 0), .int x] 603 603 (xval (xB X) (va_up G 11 (xMi sv hs pf sn nb))) (xval (xB X) (va_up G 11 (xMi sv hs pf' sn' nb))) none := by
  refine XC.of RX3 "append" [(0, .ref (xB X + xkey 11 2 0)), (1, .int x)] (by decide) rfl rfl (Nat.le_of_ble_eq_true rfl) rfl ?_
  intro p e s m args below meth c ls hx hb hret hml hts hown hlocks hnm hK hW hl
  have hW : XR X G 11 (xMi sv hs pf sn nb) s.heap [] := hW
  obtain ⟨Q0, hQ0⟩ : ∃ z, z = MQ below (xQ X xsh 603 (xval (xB X) (va_up G 11 (xMi sv hs pf' sn' nb))) none) args s 0 0 (fun q => xB X ≤ q) := ⟨_, rfl⟩
  rw [← hQ0]
  refine lv_aload_n hx hb dX3_append_0 rfl (lv_at hl 0 rfl) ?_
  refine r_get hx hb hts hown hK hW (C := RX3) (T := TX3) (xF_mi2) inlX3 rfl (by decide) 2 (by decide) (by decide +kernel) xw_774 rfl (x := pf 2) rfl dX3_append_1 ?_
  refine lv_bipush (v := 80) hx hb dX3_append_4 (by decide) ?_
  refine lv_icmp_ge (tgt := 29) hx hb dX3_append_6 (by decide) (fun c_1 => ?_) (fun c_1 => ?_)
  · skip
    obtain rfl : pf = pf' := by (rw [← ho0]) <;> (simp [c_1, Int32.not_lt.mpr c_1])
    obtain rfl : sn = sn' := by (rw [← ho1]) <;> (simp [c_1, Int32.not_lt.mpr c_1])
    rw [hQ0]
    exact x_vret hx hb hret hlocks hW rfl dX3_append_29
  · skip
    refine lv_aload_n hx hb dX3_append_9 rfl (lv_at hl 0 rfl) ?_
    refine r_getr (C := RX3) (T := TX3) hx hb hts hown hK hW (xF_mi2).1 (xF_mi2).2.1 inlX3 rfl (by decide) 0 (by decide) (show xro (xkey 11 2 0) 0 = some (xkey 11 3 0) from by decide +kernel) xw_73 rfl dX3_append_10 ?_
    refine lv_aload_n hx hb dX3_append_13 rfl (lv_at hl 0 rfl) ?_
    refine r_get hx hb hts hown hK hW (C := RX3) (T := TX3) (xF_mi2) inlX3 rfl (by decide) 2 (by decide) (by decide +kernel) xw_774 rfl (x := pf 2) rfl dX3_append_14 ?_
    refine lv_iload_n hx hb dX3_append_17 rfl (lv_at hl 1 rfl) ?_
    refine r_cast hx hb hK hW (N := 80) (xF_mi3) ((pf 2).toNatClampNeg) (xpix2 hp c_1) (by decide) hp.1 (xr_mi3 ((pf 2).toNatClampNeg)) hch xMi3 dX3_append_18 (fun H locs hW => ?_)
    refine lv_aload_n hx hb dX3_append_19 rfl (lv_at hl 0 rfl) ?_
    refine lv_dup hx hb dX3_append_20 rfl ?_
    refine r_get hx hb hts hown hK hW (C := RX3) (T := TX3) (xF_mi2) inlX3 rfl (by decide) 2 (by decide) (by decide +kernel) xw_774 rfl (x := pf 2) rfl dX3_append_21 ?_
    refine lv_iconst (v := 1) hx hb dX3_append_24 (by decide) ?_
    refine lv_iadd hx hb dX3_append_25 ?_
    refine r_put hx hb hts hown hK hW (C := RX3) (T := TX3) (xF_mi2) inlX3 tyX3 tyX3_ok nmX3 rfl (by decide) 2 (by decide) (by decide +kernel) xw_774 rfl rfl rfl rfl xMi2 dX3_append_26 (fun H locs hW => ?_)
    obtain rfl : (va_up pf 2 ((pf 2) + 1)) = pf' := by (rw [← ho0]) <;> (simp [c_1, Int32.not_le.mp c_1])
    obtain rfl : (va_up sn ((pf 2).toNatClampNeg) x) = sn' := by (rw [← ho1]) <;> (simp [c_1, Int32.not_le.mp c_1])
    rw [hQ0]
    exact x_vret hx hb hret hlocks hW rfl dX3_append_29
set_option maxHeartbeats 4000000 in
set_option maxRecDepth 100000 in
theorem c_X3_clear (l : Launch) (X : xX) (G : xG) {sv hs pf sn nb : Nat → Int32}   {pf' : Nat → Int32} (ho0 : (va_up pf 2 0) = pf') : XC l yX3_clear cX3_clear 1 none 0 0 0 0 X xsh [.ref (xB X + xkey 11 2 0)] 603 603 (xval (xB X) (va_up G 11 (xMi sv hs pf sn nb))) (xval (xB X) (va_up G 11 (xMi sv hs pf' sn nb))) none := by
  refine XC.of RX3 "clear" [(0, .ref (xB X + xkey 11 2 0))] (by decide) rfl rfl (Nat.le_of_ble_eq_true rfl) rfl ?_
  intro p e s m args below meth c ls hx hb hret hml hts hown hlocks hnm hK hW hl
  have hW : XR X G 11 (xMi sv hs pf sn nb) s.heap [] := hW
  obtain ⟨Q0, hQ0⟩ : ∃ z, z = MQ below (xQ X xsh 603 (xval (xB X) (va_up G 11 (xMi sv hs pf' sn nb))) none) args s 0 0 (fun q => xB X ≤ q) := ⟨_, rfl⟩
  rw [← hQ0]
  refine lv_aload_n hx hb dX3_clear_0 rfl (lv_at hl 0 rfl) ?_
  refine lv_iconst (v := 0) hx hb dX3_clear_1 (by decide) ?_
  refine r_put hx hb hts hown hK hW (C := RX3) (T := TX3) (xF_mi2) inlX3 tyX3 tyX3_ok nmX3 rfl (by decide) 2 (by decide) (by decide +kernel) xw_774 rfl rfl rfl rfl xMi2 dX3_clear_2 (fun H locs hW => ?_)
  obtain rfl : (va_up pf 2 0) = pf' := by (rw [← ho0]) <;> (skip)
  rw [hQ0]
  exact x_vret hx hb hret hlocks hW rfl dX3_clear_5
set_option maxHeartbeats 4000000 in
set_option maxRecDepth 100000 in
theorem c_X3_rewind (l : Launch) (X : xX) (G : xG) {sv hs pf sn nb : Nat → Int32}  (hp : Pok pf) {pf' : Nat → Int32} (ho0 : (va_up pf 3 0) = pf') : XC l yX3_rewind cX3_rewind 1 none 0 0 0 0 X xsh [.ref (xB X + xkey 11 2 0)] 603 603 (xval (xB X) (va_up G 11 (xMi sv hs pf sn nb))) (xval (xB X) (va_up G 11 (xMi sv hs pf' sn nb))) none := by
  refine XC.of RX3 "rewind" [(0, .ref (xB X + xkey 11 2 0))] (by decide) rfl rfl (Nat.le_of_ble_eq_true rfl) rfl ?_
  intro p e s m args below meth c ls hx hb hret hml hts hown hlocks hnm hK hW hl
  have hW : XR X G 11 (xMi sv hs pf sn nb) s.heap [] := hW
  obtain ⟨Q0, hQ0⟩ : ∃ z, z = MQ below (xQ X xsh 603 (xval (xB X) (va_up G 11 (xMi sv hs pf' sn nb))) none) args s 0 0 (fun q => xB X ≤ q) := ⟨_, rfl⟩
  rw [← hQ0]
  refine lv_aload_n hx hb dX3_rewind_0 rfl (lv_at hl 0 rfl) ?_
  refine lv_iconst (v := 0) hx hb dX3_rewind_1 (by decide) ?_
  refine r_put hx hb hts hown hK hW (C := RX3) (T := TX3) (xF_mi2) inlX3 tyX3 tyX3_ok nmX3 rfl (by decide) 3 (by decide) (by decide +kernel) xw_800 rfl rfl rfl rfl xMi2 dX3_rewind_2 (fun H locs hW => ?_)
  obtain rfl : (va_up pf 3 0) = pf' := by (rw [← ho0]) <;> (skip)
  rw [hQ0]
  exact x_vret hx hb hret hlocks hW rfl dX3_rewind_5
set_option maxHeartbeats 4000000 in
set_option maxRecDepth 100000 in
theorem c_X3_sign (l : Launch) (X : xX) (G : xG) {sv hs pf sn nb : Nat → Int32}  (hp : Pok pf) (hc : Cok sn) {res : Int32} (hres : (Fsign sn pf) = res) : XC l yX3_sign cX3_sign 1 (some .char) 0 0 0 0 X xsh [.ref (xB X + xkey 11 2 0)] 603 603 (xval (xB X) (va_up G 11 (xMi sv hs pf sn nb))) (xval (xB X) (va_up G 11 (xMi sv hs pf sn nb))) (some (.int res)) := by
  refine XC.of RX3 "sign" [(0, .ref (xB X + xkey 11 2 0))] (by decide) rfl rfl (Nat.le_of_ble_eq_true rfl) rfl ?_
  intro p e s m args below meth c ls hx hb hret hml hts hown hlocks hnm hK hW hl
  have hW : XR X G 11 (xMi sv hs pf sn nb) s.heap [] := hW
  obtain ⟨Q0, hQ0⟩ : ∃ z, z = MQ below (xQ X xsh 603 (xval (xB X) (va_up G 11 (xMi sv hs pf sn nb))) (some (.int res))) args s 0 0 (fun q => xB X ≤ q) := ⟨_, rfl⟩
  rw [← hQ0]
  refine lv_aload_n hx hb dX3_sign_0 rfl (lv_at hl 0 rfl) ?_
  refine r_get hx hb hts hown hK hW (C := RX3) (T := TX3) (xF_mi2) inlX3 rfl (by decide) 3 (by decide) (by decide +kernel) xw_800 rfl (x := pf 3) rfl dX3_sign_1 ?_
  refine lv_aload_n hx hb dX3_sign_4 rfl (lv_at hl 0 rfl) ?_
  refine r_get hx hb hts hown hK hW (C := RX3) (T := TX3) (xF_mi2) inlX3 rfl (by decide) 2 (by decide) (by decide +kernel) xw_774 rfl (x := pf 2) rfl dX3_sign_5 ?_
  refine lv_icmp_ge (tgt := 32) hx hb dX3_sign_8 (by decide) (fun c_1 => ?_) (fun c_1 => ?_)
  · skip
    refine lv_iconst (v := 0) hx hb dX3_sign_32 (by decide) ?_
    obtain rfl : 0 = res := by (rw [← hres]) <;> (simp [Fsign, c_1, Int32.not_lt.mpr c_1])
    rw [hQ0]
    exact x_iret hx hb hret hlocks rfl hW rfl dX3_sign_33
  · skip
    refine lv_aload_n hx hb dX3_sign_11 rfl (lv_at hl 0 rfl) ?_
    refine r_get hx hb hts hown hK hW (C := RX3) (T := TX3) (xF_mi2) inlX3 rfl (by decide) 3 (by decide) (by decide +kernel) xw_800 rfl (x := pf 3) rfl dX3_sign_12 ?_
    refine lv_bipush (v := 80) hx hb dX3_sign_15 (by decide) ?_
    refine lv_icmp_ge (tgt := 32) hx hb dX3_sign_17 (by decide) (fun c_2 => ?_) (fun c_2 => ?_)
    · skip
      refine lv_iconst (v := 0) hx hb dX3_sign_32 (by decide) ?_
      obtain rfl : 0 = res := by (rw [← hres]) <;> (simp [Fsign, c_1, Int32.not_le.mp c_1, c_2, Int32.not_lt.mpr c_2])
      rw [hQ0]
      exact x_iret hx hb hret hlocks rfl hW rfl dX3_sign_33
    · skip
      refine lv_aload_n hx hb dX3_sign_20 rfl (lv_at hl 0 rfl) ?_
      refine r_getr (C := RX3) (T := TX3) hx hb hts hown hK hW (xF_mi2).1 (xF_mi2).2.1 inlX3 rfl (by decide) 0 (by decide) (show xro (xkey 11 2 0) 0 = some (xkey 11 3 0) from by decide +kernel) xw_73 rfl dX3_sign_21 ?_
      refine lv_aload_n hx hb dX3_sign_24 rfl (lv_at hl 0 rfl) ?_
      refine r_get hx hb hts hown hK hW (C := RX3) (T := TX3) (xF_mi2) inlX3 rfl (by decide) 3 (by decide) (by decide +kernel) xw_800 rfl (x := pf 3) rfl dX3_sign_25 ?_
      refine r_cald hx hb hK hW (N := 80) (xF_mi3) ((pf 3).toNatClampNeg) (xpix hp c_2) (by decide) hp.2.2.1 (xr_mi3 ((pf 3).toNatClampNeg)) (x := sn ((pf 3).toNatClampNeg)) rfl dX3_sign_28 ?_
      refine lv_goto (tgt := 33) hx hb dX3_sign_29 (by decide) ?_
      obtain rfl : sn ((pf 3).toNatClampNeg) = res := by (rw [← hres]) <;> (simp [Fsign, c_1, Int32.not_le.mp c_1, c_2, Int32.not_le.mp c_2])
      rw [hQ0]
      exact x_iret hx hb hret hlocks (hc _ (xpix hp c_2)) hW rfl dX3_sign_33
set_option maxHeartbeats 4000000 in
set_option maxRecDepth 100000 in
theorem c_X3_readSign (l : Launch) (X : xX) (G : xG) {sv hs pf sn nb : Nat → Int32} {w : Int32} (hp : Pok pf) (hc : Cok sn) {pf' : Nat → Int32} (ho0 : ((Frs w sn pf).1) = pf') {res : Int32} (hres : ((Frs w sn pf).2) = res) : XC l yX3_readSign cX3_readSign 2 (some .boolean) 1 20 0 0 X xsh [.ref (xB X + xkey 11 2 0), .int w] 603 603 (xval (xB X) (va_up G 11 (xMi sv hs pf sn nb))) (xval (xB X) (va_up G 11 (xMi sv hs pf' sn nb))) (some (.int res)) := by
  refine XC.of RX3 "readSign" [(0, .ref (xB X + xkey 11 2 0)), (1, .int w)] (by decide) rfl rfl (Nat.le_of_ble_eq_true rfl) rfl ?_
  intro p e s m args below meth c ls hx hb hret hml hts hown hlocks hnm hK hW hl
  have hW : XR X G 11 (xMi sv hs pf sn nb) s.heap [] := hW
  obtain ⟨Q0, hQ0⟩ : ∃ z, z = MQ below (xQ X xsh 603 (xval (xB X) (va_up G 11 (xMi sv hs pf' sn nb))) (some (.int res))) args s 0 0 (fun q => xB X ≤ q) := ⟨_, rfl⟩
  rw [← hQ0]
  refine lv_aload_n hx hb dX3_readSign_0 rfl (lv_at hl 0 rfl) ?_
  refine x_callV hx hb hml hown hts hK hW hl.1 (c_X3_sign l X G  (hp := hp) (hc := (by assumption)) (hres := rfl)) (xF_mi2).1 (xF_mi2).2.1 (by decide) rfl xw_811 xw_812 xw_813 xw_27 xw_814 hdV_yX3_sign ⟨Nat.le_of_ble_eq_true rfl, Nat.le_of_ble_eq_true rfl⟩ rfl (Nat.le_of_ble_eq_true rfl) ⟨Nat.le_refl _, Nat.le_refl _⟩ dX3_readSign_1 (fun H locs hW => ?_)
  refine lv_iload_n hx hb dX3_readSign_4 rfl (lv_at hl 1 rfl) ?_
  refine lv_icmp_eq (tgt := 10) hx hb dX3_readSign_5 (by decide) (fun c_1 => ?_) (fun c_1 => ?_)
  · skip
    refine lv_aload_n hx hb dX3_readSign_10 rfl (lv_at hl 0 rfl) ?_
    refine lv_dup hx hb dX3_readSign_11 rfl ?_
    refine r_get hx hb hts hown hK hW (C := RX3) (T := TX3) (xF_mi2) inlX3 rfl (by decide) 3 (by decide) (by decide +kernel) xw_800 rfl (x := pf 3) rfl dX3_readSign_12 ?_
    refine lv_iconst (v := 1) hx hb dX3_readSign_15 (by decide) ?_
    refine lv_iadd hx hb dX3_readSign_16 ?_
    refine r_put hx hb hts hown hK hW (C := RX3) (T := TX3) (xF_mi2) inlX3 tyX3 tyX3_ok nmX3 rfl (by decide) 3 (by decide) (by decide +kernel) xw_800 rfl rfl rfl rfl xMi2 dX3_readSign_17 (fun H locs hW => ?_)
    refine lv_iconst (v := 1) hx hb dX3_readSign_20 (by decide) ?_
    obtain rfl : (va_up pf 3 ((pf 3) + 1)) = pf' := by (rw [← ho0]) <;> (simp [Frs, Pinc, c_1])
    obtain rfl : 1 = res := by (rw [← hres]) <;> (simp [Frs, Pinc, c_1])
    rw [hQ0]
    exact x_iret hx hb hret hlocks rfl hW rfl dX3_readSign_21
  · skip
    refine lv_iconst (v := 0) hx hb dX3_readSign_8 (by decide) ?_
    obtain rfl : pf = pf' := by (rw [← ho0]) <;> (simp [Frs, Pinc, c_1])
    obtain rfl : 0 = res := by (rw [← hres]) <;> (simp [Frs, Pinc, c_1])
    rw [hQ0]
    exact x_iret hx hb hret hlocks rfl hW rfl dX3_readSign_9
set_option maxHeartbeats 4000000 in
set_option maxRecDepth 100000 in
theorem c_X3_keepNumber (l : Launch) (X : xX) (G : xG) {sv hs pf sn nb : Nat → Int32} {v : Int32} (hp : Pok pf) {pf' : Nat → Int32} (ho0 : (Pcap pf) = pf') {nb' : Nat → Int32} (ho1 : (Ncap v pf nb) = nb') : XC l yX3_keepNumber cX3_keepNumber 2 none 0 0 0 0 X xsh [.ref (xB X + xkey 11 2 0), .int v] 603 603 (xval (xB X) (va_up G 11 (xMi sv hs pf sn nb))) (xval (xB X) (va_up G 11 (xMi sv hs pf' sn nb'))) none := by
  refine XC.of RX3 "keepNumber" [(0, .ref (xB X + xkey 11 2 0)), (1, .int v)] (by decide) rfl rfl (Nat.le_of_ble_eq_true rfl) rfl ?_
  intro p e s m args below meth c ls hx hb hret hml hts hown hlocks hnm hK hW hl
  have hW : XR X G 11 (xMi sv hs pf sn nb) s.heap [] := hW
  obtain ⟨Q0, hQ0⟩ : ∃ z, z = MQ below (xQ X xsh 603 (xval (xB X) (va_up G 11 (xMi sv hs pf' sn nb'))) none) args s 0 0 (fun q => xB X ≤ q) := ⟨_, rfl⟩
  rw [← hQ0]
  refine lv_aload_n hx hb dX3_keepNumber_0 rfl (lv_at hl 0 rfl) ?_
  refine r_get hx hb hts hown hK hW (C := RX3) (T := TX3) (xF_mi2) inlX3 rfl (by decide) 4 (by decide) (by decide +kernel) xw_809 rfl (x := pf 4) rfl dX3_keepNumber_1 ?_
  refine lv_bipush (v := 80) hx hb dX3_keepNumber_4 (by decide) ?_
  refine lv_icmp_ge (tgt := 29) hx hb dX3_keepNumber_6 (by decide) (fun c_1 => ?_) (fun c_1 => ?_)
  · skip
    obtain rfl : pf = pf' := by (rw [← ho0]) <;> (simp [Pcap, Ncap, c_1, Int32.not_lt.mpr c_1])
    obtain rfl : nb = nb' := by (rw [← ho1]) <;> (simp [Pcap, Ncap, c_1, Int32.not_lt.mpr c_1])
    rw [hQ0]
    exact x_vret hx hb hret hlocks hW rfl dX3_keepNumber_29
  · skip
    refine lv_aload_n hx hb dX3_keepNumber_9 rfl (lv_at hl 0 rfl) ?_
    refine r_getr (C := RX3) (T := TX3) hx hb hts hown hK hW (xF_mi2).1 (xF_mi2).2.1 inlX3 rfl (by decide) 1 (by decide) (show xro (xkey 11 2 0) 1 = some (xkey 11 4 0) from by decide +kernel) xw_74 rfl dX3_keepNumber_10 ?_
    refine lv_aload_n hx hb dX3_keepNumber_13 rfl (lv_at hl 0 rfl) ?_
    refine r_get hx hb hts hown hK hW (C := RX3) (T := TX3) (xF_mi2) inlX3 rfl (by decide) 4 (by decide) (by decide +kernel) xw_809 rfl (x := pf 4) rfl dX3_keepNumber_14 ?_
    refine lv_iload_n hx hb dX3_keepNumber_17 rfl (lv_at hl 1 rfl) ?_
    refine r_iast hx hb hK hW (N := 80) (xF_mi4) ((pf 4).toNatClampNeg) (xpix4 hp c_1) (by decide) hp.2.2.2.2.1 (xr_mi4 ((pf 4).toNatClampNeg)) xMi4 dX3_keepNumber_18 (fun H locs hW => ?_)
    refine lv_aload_n hx hb dX3_keepNumber_19 rfl (lv_at hl 0 rfl) ?_
    refine lv_dup hx hb dX3_keepNumber_20 rfl ?_
    refine r_get hx hb hts hown hK hW (C := RX3) (T := TX3) (xF_mi2) inlX3 rfl (by decide) 4 (by decide) (by decide +kernel) xw_809 rfl (x := pf 4) rfl dX3_keepNumber_21 ?_
    refine lv_iconst (v := 1) hx hb dX3_keepNumber_24 (by decide) ?_
    refine lv_iadd hx hb dX3_keepNumber_25 ?_
    refine r_put hx hb hts hown hK hW (C := RX3) (T := TX3) (xF_mi2) inlX3 tyX3 tyX3_ok nmX3 rfl (by decide) 4 (by decide) (by decide +kernel) xw_809 rfl rfl rfl rfl xMi2 dX3_keepNumber_26 (fun H locs hW => ?_)
    obtain rfl : (va_up pf 4 ((pf 4) + 1)) = pf' := by (rw [← ho0]) <;> (simp [Pcap, Ncap, c_1, Int32.not_le.mp c_1])
    obtain rfl : (va_up nb ((pf 4).toNatClampNeg) v) = nb' := by (rw [← ho1]) <;> (simp [Pcap, Ncap, c_1, Int32.not_le.mp c_1])
    rw [hQ0]
    exact x_vret hx hb hret hlocks hW rfl dX3_keepNumber_29
