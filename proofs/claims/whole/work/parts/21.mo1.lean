/-! ===== the model's accessors ===== -/
theorem xnI_mul (a b : Nat) : nI a * nI b = nI (a * b) := (Int32.ofNat_mul a b).symm
def Mfar (a b : Int32) : Int32 := if a < b then b - a else a - b
section XMAF
variable {X : xX} {G : xG} {H : Heap} {locs : List Loc} {f sg b c d e g h p q t u ℓ : Nat → Int32} {L O Y : Nat → Nat → Int32} {i w : Nat} {v : Int32}
theorem XR.mfoc2 (z : XR X G 12 (xMa f sg L O Y b c d e g h p q t u) H locs) (i : Nat) : XR X G 12 (xMa f sg (va_up L i (L i)) O Y b c d e g h p q t u) H locs := by rw [xus]; exact z
theorem XR.mfoc3 (z : XR X G 12 (xMa f sg L O Y b c d e g h p q t u) H locs) (i : Nat) : XR X G 12 (xMa f sg L (va_up O i (O i)) Y b c d e g h p q t u) H locs := by rw [xus]; exact z
theorem XR.mfoc4 (z : XR X G 12 (xMa f sg L O Y b c d e g h p q t u) H locs) (i : Nat) : XR X G 12 (xMa f sg L O (va_up Y i (Y i)) b c d e g h p q t u) H locs := by rw [xus]; exact z
theorem XR.munf2 (z : XR X G 12 (xMa f sg (va_up L i (L i)) O Y b c d e g h p q t u) H locs) : XR X G 12 (xMa f sg L O Y b c d e g h p q t u) H locs := by rw [xus] at z; exact z
theorem XR.munf3 (z : XR X G 12 (xMa f sg L (va_up O i (O i)) Y b c d e g h p q t u) H locs) : XR X G 12 (xMa f sg L O Y b c d e g h p q t u) H locs := by rw [xus] at z; exact z
theorem XR.munf4 (z : XR X G 12 (xMa f sg L O (va_up Y i (Y i)) b c d e g h p q t u) H locs) : XR X G 12 (xMa f sg L O Y b c d e g h p q t u) H locs := by rw [xus] at z; exact z
theorem xMa2f (hi : i < 16) (hw : w < 13) : xup3 (xMa f sg (va_up L i ℓ) O Y b c d e g h p q t u) 1 0 (10 + 13 * i + w) v = xMa f sg (va_up L i (va_up ℓ w v)) O Y b c d e g h p q t u := by rw [xMa2 hi hw, xuu, va_up_at]
theorem xMa3f (hi : i < 8) (hw : w < 3) : xup3 (xMa f sg L (va_up O i ℓ) Y b c d e g h p q t u) 1 0 (218 + 3 * i + w) v = xMa f sg L (va_up O i (va_up ℓ w v)) Y b c d e g h p q t u := by rw [xMa3 hi hw, xuu, va_up_at]
theorem xMa4f (hw : w < 22) : xup3 (xMa f sg L O (va_up Y i ℓ) b c d e g h p q t u) 1 0 (242 + 22 * i + w) v = xMa f sg L O (va_up Y i (va_up ℓ w v)) b c d e g h p q t u := by rw [xMa4 hw, xuu, va_up_at]
end XMAF
theorem hdS_yX7_in : yX7_in.cls ≠ "java/lang/invoke/MethodHandle" ∧ yX7_in.cls ≠ "java/lang/invoke/VarHandle" ∧ (parseMethodDescriptor yX7_in.desc).map (fun d => d.parameters.length) = some 3 := by decide +kernel
theorem hdS_yX7_far : yX7_far.cls ≠ "java/lang/invoke/MethodHandle" ∧ yX7_far.cls ≠ "java/lang/invoke/VarHandle" ∧ (parseMethodDescriptor yX7_far.desc).map (fun d => d.parameters.length) = some 2 := by decide +kernel
theorem hdS_yX7_isStep : yX7_isStep.cls ≠ "java/lang/invoke/MethodHandle" ∧ yX7_isStep.cls ≠ "java/lang/invoke/VarHandle" ∧ (parseMethodDescriptor yX7_isStep.desc).map (fun d => d.parameters.length) = some 1 := by decide +kernel
theorem hdV_yX7_ofL : yX7_ofL.cls = RX7 ∧ yX7_ofL.cls ≠ "java/lang/invoke/MethodHandle" ∧ yX7_ofL.cls ≠ "java/lang/invoke/VarHandle" ∧ (parseMethodDescriptor yX7_ofL.desc).map (fun d => d.parameters.length) = some 2 := by decide +kernel
theorem hdV_yX7_layL : yX7_layL.cls = RX7 ∧ yX7_layL.cls ≠ "java/lang/invoke/MethodHandle" ∧ yX7_layL.cls ≠ "java/lang/invoke/VarHandle" ∧ (parseMethodDescriptor yX7_layL.desc).map (fun d => d.parameters.length) = some 3 := by decide +kernel
theorem hdV_yX7_moreL : yX7_moreL.cls = RX7 ∧ yX7_moreL.cls ≠ "java/lang/invoke/MethodHandle" ∧ yX7_moreL.cls ≠ "java/lang/invoke/VarHandle" ∧ (parseMethodDescriptor yX7_moreL.desc).map (fun d => d.parameters.length) = some 3 := by decide +kernel
theorem hdV_yX7_ofW : yX7_ofW.cls = RX7 ∧ yX7_ofW.cls ≠ "java/lang/invoke/MethodHandle" ∧ yX7_ofW.cls ≠ "java/lang/invoke/VarHandle" ∧ (parseMethodDescriptor yX7_ofW.desc).map (fun d => d.parameters.length) = some 2 := by decide +kernel
theorem hdV_yX7_layW : yX7_layW.cls = RX7 ∧ yX7_layW.cls ≠ "java/lang/invoke/MethodHandle" ∧ yX7_layW.cls ≠ "java/lang/invoke/VarHandle" ∧ (parseMethodDescriptor yX7_layW.desc).map (fun d => d.parameters.length) = some 3 := by decide +kernel
theorem hdV_yX7_ofH : yX7_ofH.cls = RX7 ∧ yX7_ofH.cls ≠ "java/lang/invoke/MethodHandle" ∧ yX7_ofH.cls ≠ "java/lang/invoke/VarHandle" ∧ (parseMethodDescriptor yX7_ofH.desc).map (fun d => d.parameters.length) = some 2 := by decide +kernel
set_option maxHeartbeats 4000000 in
set_option maxRecDepth 100000 in
theorem c_X7_in (l : Launch) (X : xX) (G : xG)  {v lo hi : Int32}  {res : Int32} (hres : (Fin3 v lo hi) = res) : XC l yX7_in cX7_in 3 (some .boolean) 0 0 0 0 X xsh [.int v, .int lo, .int hi] 603 603 (xval (xB X) G) (xval (xB X) G) (some (.int res)) := by
  refine XC.of RX7 "in" [(0, .int v), (1, .int lo), (2, .int hi)] (by decide) rfl rfl (Nat.le_of_ble_eq_true rfl) rfl ?_
  intro p e s m args below meth c ls hx hb hret hml hts hown hlocks hnm hK hW hl
  have hW : XG X G s.heap [] := hW
  obtain ⟨Q0, hQ0⟩ : ∃ z, z = MQ below (xQ X xsh 603 (xval (xB X) G) (some (.int res))) args s 0 0 (fun q => xB X ≤ q) := ⟨_, rfl⟩
  rw [← hQ0]
  refine lv_iload_n hx hb dX7_in_0 rfl (lv_at hl 0 rfl) ?_
  refine lv_iload_n hx hb dX7_in_1 rfl (lv_at hl 1 rfl) ?_
  refine lv_icmp_lt (tgt := 14) hx hb dX7_in_2 (by decide) (fun c_1 => ?_) (fun c_1 => ?_)
  · skip
    refine lv_iconst (v := 0) hx hb dX7_in_14 (by decide) ?_
    obtain rfl : 0 = res := by (rw [← hres]) <;> (simp [Fin3, c_1, Int32.not_le.mpr c_1])
    rw [hQ0]
    exact x_iret hx hb hret hlocks rfl hW rfl dX7_in_15
  · skip
    refine lv_iload_n hx hb dX7_in_5 rfl (lv_at hl 0 rfl) ?_
    refine lv_iload_n hx hb dX7_in_6 rfl (lv_at hl 2 rfl) ?_
    refine lv_icmp_gt (tgt := 14) hx hb dX7_in_7 (by decide) (fun c_2 => ?_) (fun c_2 => ?_)
    · skip
      refine lv_iconst (v := 0) hx hb dX7_in_14 (by decide) ?_
      obtain rfl : 0 = res := by (rw [← hres]) <;> (simp [Fin3, c_1, Int32.not_lt.mp c_1, c_2, Int32.not_le.mpr c_2])
      rw [hQ0]
      exact x_iret hx hb hret hlocks rfl hW rfl dX7_in_15
    · skip
      refine lv_iconst (v := 1) hx hb dX7_in_10 (by decide) ?_
      refine lv_goto (tgt := 15) hx hb dX7_in_11 (by decide) ?_
      obtain rfl : 1 = res := by (rw [← hres]) <;> (simp [Fin3, c_1, Int32.not_lt.mp c_1, c_2, Int32.not_lt.mp c_2])
      rw [hQ0]
      exact x_iret hx hb hret hlocks rfl hW rfl dX7_in_15
set_option maxHeartbeats 4000000 in
set_option maxRecDepth 100000 in
theorem c_X7_far (l : Launch) (X : xX) (G : xG)  {a b : Int32}  {res : Int32} (hres : (Mfar a b) = res) : XC l yX7_far cX7_far 2 (some .int) 0 0 0 0 X xsh [.int a, .int b] 603 603 (xval (xB X) G) (xval (xB X) G) (some (.int res)) := by
  refine XC.of RX7 "far" [(0, .int a), (1, .int b)] (by decide) rfl rfl (Nat.le_of_ble_eq_true rfl) rfl ?_
  intro p e s m args below meth c ls hx hb hret hml hts hown hlocks hnm hK hW hl
  have hW : XG X G s.heap [] := hW
  obtain ⟨Q0, hQ0⟩ : ∃ z, z = MQ below (xQ X xsh 603 (xval (xB X) G) (some (.int res))) args s 0 0 (fun q => xB X ≤ q) := ⟨_, rfl⟩
  rw [← hQ0]
  refine lv_iload_n hx hb dX7_far_0 rfl (lv_at hl 0 rfl) ?_
  refine lv_iload_n hx hb dX7_far_1 rfl (lv_at hl 1 rfl) ?_
  refine lv_icmp_ge (tgt := 11) hx hb dX7_far_2 (by decide) (fun c_1 => ?_) (fun c_1 => ?_)
  · skip
    refine lv_iload_n hx hb dX7_far_11 rfl (lv_at hl 0 rfl) ?_
    refine lv_iload_n hx hb dX7_far_12 rfl (lv_at hl 1 rfl) ?_
    refine lv_isub hx hb dX7_far_13 ?_
    obtain rfl : a - b = res := by (rw [← hres]) <;> (simp [Mfar, c_1, Int32.not_lt.mpr c_1])
    rw [hQ0]
    exact x_iret hx hb hret hlocks rfl hW rfl dX7_far_14
  · skip
    refine lv_iload_n hx hb dX7_far_5 rfl (lv_at hl 1 rfl) ?_
    refine lv_iload_n hx hb dX7_far_6 rfl (lv_at hl 0 rfl) ?_
    refine lv_isub hx hb dX7_far_7 ?_
    refine lv_goto (tgt := 14) hx hb dX7_far_8 (by decide) ?_
    obtain rfl : b - a = res := by (rw [← hres]) <;> (simp [Mfar, c_1, Int32.not_le.mp c_1])
    rw [hQ0]
    exact x_iret hx hb hret hlocks rfl hW rfl dX7_far_14
set_option maxHeartbeats 4000000 in
set_option maxRecDepth 100000 in
theorem c_X7_isStep (l : Launch) (X : xX) (G : xG)  {a : Int32}  {res : Int32} (hres : (Fin3 a 0 99) = res) : XC l yX7_isStep cX7_isStep 1 (some .boolean) 1 22 0 0 X xsh [.int a] 603 603 (xval (xB X) G) (xval (xB X) G) (some (.int res)) := by
  refine XC.of RX7 "isStep" [(0, .int a)] (by decide) rfl rfl (Nat.le_of_ble_eq_true rfl) rfl ?_
  intro p e s m args below meth c ls hx hb hret hml hts hown hlocks hnm hK hW hl
  have hW : XG X G s.heap [] := hW
  obtain ⟨Q0, hQ0⟩ : ∃ z, z = MQ below (xQ X xsh 603 (xval (xB X) G) (some (.int res))) args s 0 0 (fun q => xB X ≤ q) := ⟨_, rfl⟩
  rw [← hQ0]
  refine lv_iload_n hx hb dX7_isStep_0 rfl (lv_at hl 0 rfl) ?_
  refine lv_iconst (v := 0) hx hb dX7_isStep_1 (by decide) ?_
  refine lv_bipush (v := 99) hx hb dX7_isStep_2 (by decide) ?_
  refine x_callS hx hb hml hown hts hK hW hl.1 (c_X7_in l X _ (v := a) (lo := 0) (hi := 99) (hres := rfl)) xw_159 xw_160 xw_5 xw_161 hdS_yX7_in ⟨Nat.le_of_ble_eq_true rfl, Nat.le_of_ble_eq_true rfl⟩ rfl (Nat.le_of_ble_eq_true rfl) ⟨Nat.le_refl _, Nat.le_refl _⟩ dX7_isStep_4 (fun H locs hW => ?_)
  obtain rfl : Fin3 a 0 99 = res := by (rw [← hres]) <;> (rfl)
  rw [hQ0]
  exact x_iret hx hb hret hlocks (xb_nar (Fin3_01 ..)) hW rfl dX7_isStep_7
set_option maxHeartbeats 4000000 in
set_option maxRecDepth 100000 in
theorem c_X7_ofL (l : Launch) (X : xX) (G : xG) {f sg pb pc pd pe pg ph pp pq pt pu : Nat → Int32} {L O Y : Nat → Nat → Int32} {i w : Nat} (hi : i < 16) (hw : w < 13) {res : Int32} (hres : (L i w) = res) : XC l yX7_ofL cX7_ofL 3 (some .int) 0 0 0 0 X xsh [.ref (xB X + xkey 12 0 0), .int (nI i), .int (nI w)] 603 603 (xval (xB X) (va_up G 12 (xMa f sg L O Y pb pc pd pe pg ph pp pq pt pu))) (xval (xB X) (va_up G 12 (xMa f sg L O Y pb pc pd pe pg ph pp pq pt pu))) (some (.int res)) := by
  refine XC.of RX7 "ofL" [(0, .ref (xB X + xkey 12 0 0)), (1, .int (nI i)), (2, .int (nI w))] (by decide) rfl rfl (Nat.le_of_ble_eq_true rfl) rfl ?_
  intro p e s m args below meth c ls hx hb hret hml hts hown hlocks hnm hK hW hl
  have hW : XR X G 12 (xMa f sg L O Y pb pc pd pe pg ph pp pq pt pu) s.heap [] := hW
  obtain ⟨Q0, hQ0⟩ : ∃ z, z = MQ below (xQ X xsh 603 (xval (xB X) (va_up G 12 (xMa f sg L O Y pb pc pd pe pg ph pp pq pt pu))) (some (.int res))) args s 0 0 (fun q => xB X ≤ q) := ⟨_, rfl⟩
  rw [← hQ0]
  refine lv_aload_n hx hb dX7_ofL_0 rfl (lv_at hl 0 rfl) ?_
  refine r_getr (C := RX7) (T := TX7) hx hb hts hown hK hW (xF_mo0).1 (xF_mo0).2.1 inlX7 rfl (by decide) 0 (by decide) (show xro (xkey 12 0 0) 0 = some (xkey 12 1 0) from by decide +kernel) xw_79 rfl dX7_ofL_1 ?_
  refine lv_bipush (v := nI 10) hx hb dX7_ofL_4 (by decide) ?_
  refine lv_bipush (v := nI 13) hx hb dX7_ofL_6 (by decide) ?_
  refine lv_iload_n hx hb dX7_ofL_8 rfl (lv_at hl 1 rfl) ?_
  refine lv_imul hx hb dX7_ofL_9 ?_
  refine lv_eqi (y := nI (13 * i)) (xnI_mul 13 i) ?_
  refine lv_iadd hx hb dX7_ofL_10 ?_
  refine lv_eqi (y := nI (10 + 13 * i)) (nI_add 10 (13 * i)) ?_
  refine lv_iload_n hx hb dX7_ofL_11 rfl (lv_at hl 2 rfl) ?_
  refine lv_iadd hx hb dX7_ofL_12 ?_
  refine lv_eqi (y := nI (10 + 13 * i + w)) (nI_add (10 + 13 * i) w) ?_
  refine r_iald hx hb hK hW (N := 440) (xF_mo1) (10 + 13 * i + w) (by omega) (by decide) rfl (xr_model 1 (by decide) (by decide) (10 + 13 * i + w)) (x := L i w) (xat_L (sg := sg) (L := L) (O := O) (Y := Y) (i := i) (w := w) (by omega) (by omega)) dX7_ofL_13 ?_
  obtain rfl : L i w = res := by (rw [← hres]) <;> (rfl)
  rw [hQ0]
  exact x_iret hx hb hret hlocks rfl hW rfl dX7_ofL_14
set_option maxHeartbeats 4000000 in
set_option maxRecDepth 100000 in
theorem c_X7_layL (l : Launch) (X : xX) (G : xG) {f sg pb pc pd pe pg ph pp pq pt pu : Nat → Int32} {L O Y : Nat → Nat → Int32} {i w : Nat} {v : Int32} {ℓ : Nat → Int32} (hi : i < 16) (hw : w < 13)  : XC l yX7_layL cX7_layL 4 none 0 0 0 0 X xsh [.ref (xB X + xkey 12 0 0), .int (nI i), .int (nI w), .int v] 603 603 (xval (xB X) (va_up G 12 (xMa f sg (va_up L i ℓ) O Y pb pc pd pe pg ph pp pq pt pu))) (xval (xB X) (va_up G 12 (xMa f sg (va_up L i (va_up ℓ w v)) O Y pb pc pd pe pg ph pp pq pt pu))) none := by
  refine XC.of RX7 "layL" [(0, .ref (xB X + xkey 12 0 0)), (1, .int (nI i)), (2, .int (nI w)), (3, .int v)] (by decide) rfl rfl (Nat.le_of_ble_eq_true rfl) rfl ?_
  intro p e s m args below meth c ls hx hb hret hml hts hown hlocks hnm hK hW hl
  have hW : XR X G 12 (xMa f sg (va_up L i ℓ) O Y pb pc pd pe pg ph pp pq pt pu) s.heap [] := hW
  obtain ⟨Q0, hQ0⟩ : ∃ z, z = MQ below (xQ X xsh 603 (xval (xB X) (va_up G 12 (xMa f sg (va_up L i (va_up ℓ w v)) O Y pb pc pd pe pg ph pp pq pt pu))) none) args s 0 0 (fun q => xB X ≤ q) := ⟨_, rfl⟩
  rw [← hQ0]
  refine lv_aload_n hx hb dX7_layL_0 rfl (lv_at hl 0 rfl) ?_
  refine r_getr (C := RX7) (T := TX7) hx hb hts hown hK hW (xF_mo0).1 (xF_mo0).2.1 inlX7 rfl (by decide) 0 (by decide) (show xro (xkey 12 0 0) 0 = some (xkey 12 1 0) from by decide +kernel) xw_79 rfl dX7_layL_1 ?_
  refine lv_bipush (v := nI 10) hx hb dX7_layL_4 (by decide) ?_
  refine lv_bipush (v := nI 13) hx hb dX7_layL_6 (by decide) ?_
  refine lv_iload_n hx hb dX7_layL_8 rfl (lv_at hl 1 rfl) ?_
  refine lv_imul hx hb dX7_layL_9 ?_
  refine lv_eqi (y := nI (13 * i)) (xnI_mul 13 i) ?_
  refine lv_iadd hx hb dX7_layL_10 ?_
  refine lv_eqi (y := nI (10 + 13 * i)) (nI_add 10 (13 * i)) ?_
  refine lv_iload_n hx hb dX7_layL_11 rfl (lv_at hl 2 rfl) ?_
  refine lv_iadd hx hb dX7_layL_12 ?_
  refine lv_eqi (y := nI (10 + 13 * i + w)) (nI_add (10 + 13 * i) w) ?_
  refine lv_iload_n hx hb dX7_layL_13 rfl (lv_at hl 3 rfl) ?_
  refine r_iast hx hb hK hW (N := 440) (xF_mo1) (10 + 13 * i + w) (by omega) (by decide) rfl (xr_model 1 (by decide) (by decide) (10 + 13 * i + w)) (xMa2f (i := i) (w := w) (by omega) (by omega)) dX7_layL_14 (fun H locs hW => ?_)
  rw [hQ0]
  exact x_vret hx hb hret hlocks hW rfl dX7_layL_15
set_option maxHeartbeats 4000000 in
set_option maxRecDepth 100000 in
theorem c_X7_moreL (l : Launch) (X : xX) (G : xG) {f sg pb pc pd pe pg ph pp pq pt pu : Nat → Int32} {L O Y : Nat → Nat → Int32} {i w : Nat} {v : Int32} {ℓ : Nat → Int32} (hi : i < 16) (hw : w < 13)  : XC l yX7_moreL cX7_moreL 4 none 0 0 0 0 X xsh [.ref (xB X + xkey 12 0 0), .int (nI i), .int (nI w), .int v] 603 603 (xval (xB X) (va_up G 12 (xMa f sg (va_up L i ℓ) O Y pb pc pd pe pg ph pp pq pt pu))) (xval (xB X) (va_up G 12 (xMa f sg (va_up L i (va_up ℓ w (ℓ w + v))) O Y pb pc pd pe pg ph pp pq pt pu))) none := by
  refine XC.of RX7 "moreL" [(0, .ref (xB X + xkey 12 0 0)), (1, .int (nI i)), (2, .int (nI w)), (3, .int v)] (by decide) rfl rfl (Nat.le_of_ble_eq_true rfl) rfl ?_
  intro p e s m args below meth c ls hx hb hret hml hts hown hlocks hnm hK hW hl
  have hW : XR X G 12 (xMa f sg (va_up L i ℓ) O Y pb pc pd pe pg ph pp pq pt pu) s.heap [] := hW
  obtain ⟨Q0, hQ0⟩ : ∃ z, z = MQ below (xQ X xsh 603 (xval (xB X) (va_up G 12 (xMa f sg (va_up L i (va_up ℓ w (ℓ w + v))) O Y pb pc pd pe pg ph pp pq pt pu))) none) args s 0 0 (fun q => xB X ≤ q) := ⟨_, rfl⟩
  rw [← hQ0]
  refine lv_aload_n hx hb dX7_moreL_0 rfl (lv_at hl 0 rfl) ?_
  refine r_getr (C := RX7) (T := TX7) hx hb hts hown hK hW (xF_mo0).1 (xF_mo0).2.1 inlX7 rfl (by decide) 0 (by decide) (show xro (xkey 12 0 0) 0 = some (xkey 12 1 0) from by decide +kernel) xw_79 rfl dX7_moreL_1 ?_
  refine lv_bipush (v := nI 10) hx hb dX7_moreL_4 (by decide) ?_
  refine lv_bipush (v := nI 13) hx hb dX7_moreL_6 (by decide) ?_
  refine lv_iload_n hx hb dX7_moreL_8 rfl (lv_at hl 1 rfl) ?_
  refine lv_imul hx hb dX7_moreL_9 ?_
  refine lv_eqi (y := nI (13 * i)) (xnI_mul 13 i) ?_
  refine lv_iadd hx hb dX7_moreL_10 ?_
  refine lv_eqi (y := nI (10 + 13 * i)) (nI_add 10 (13 * i)) ?_
  refine lv_iload_n hx hb dX7_moreL_11 rfl (lv_at hl 2 rfl) ?_
  refine lv_iadd hx hb dX7_moreL_12 ?_
  refine lv_eqi (y := nI (10 + 13 * i + w)) (nI_add (10 + 13 * i) w) ?_
  refine lv_dup2_11 hx hb dX7_moreL_13 rfl rfl ?_
  refine r_iald hx hb hK hW (N := 440) (xF_mo1) (10 + 13 * i + w) (by omega) (by decide) rfl (xr_model 1 (by decide) (by decide) (10 + 13 * i + w)) (x := ℓ w) ((xat_L (sg := sg) (L := (va_up L i ℓ)) (O := O) (Y := Y) (i := i) (w := w) (by omega) (by omega)).trans (show (va_up L i ℓ) i w = ℓ w from xrd rfl)) dX7_moreL_14 ?_
  refine lv_iload_n hx hb dX7_moreL_15 rfl (lv_at hl 3 rfl) ?_
  refine lv_iadd hx hb dX7_moreL_16 ?_
  refine r_iast hx hb hK hW (N := 440) (xF_mo1) (10 + 13 * i + w) (by omega) (by decide) rfl (xr_model 1 (by decide) (by decide) (10 + 13 * i + w)) (xMa2f (i := i) (w := w) (by omega) (by omega)) dX7_moreL_17 (fun H locs hW => ?_)
  rw [hQ0]
  exact x_vret hx hb hret hlocks hW rfl dX7_moreL_18
set_option maxHeartbeats 4000000 in
set_option maxRecDepth 100000 in
theorem c_X7_ofW (l : Launch) (X : xX) (G : xG) {f sg pb pc pd pe pg ph pp pq pt pu : Nat → Int32} {L O Y : Nat → Nat → Int32} {i w : Nat} (hi : i < 8) (hw : w < 22) {res : Int32} (hres : (Y i w) = res) : XC l yX7_ofW cX7_ofW 3 (some .int) 0 0 0 0 X xsh [.ref (xB X + xkey 12 0 0), .int (nI i), .int (nI w)] 603 603 (xval (xB X) (va_up G 12 (xMa f sg L O Y pb pc pd pe pg ph pp pq pt pu))) (xval (xB X) (va_up G 12 (xMa f sg L O Y pb pc pd pe pg ph pp pq pt pu))) (some (.int res)) := by
  refine XC.of RX7 "ofW" [(0, .ref (xB X + xkey 12 0 0)), (1, .int (nI i)), (2, .int (nI w))] (by decide) rfl rfl (Nat.le_of_ble_eq_true rfl) rfl ?_
  intro p e s m args below meth c ls hx hb hret hml hts hown hlocks hnm hK hW hl
  have hW : XR X G 12 (xMa f sg L O Y pb pc pd pe pg ph pp pq pt pu) s.heap [] := hW
  obtain ⟨Q0, hQ0⟩ : ∃ z, z = MQ below (xQ X xsh 603 (xval (xB X) (va_up G 12 (xMa f sg L O Y pb pc pd pe pg ph pp pq pt pu))) (some (.int res))) args s 0 0 (fun q => xB X ≤ q) := ⟨_, rfl⟩
  rw [← hQ0]
  refine lv_aload_n hx hb dX7_ofW_0 rfl (lv_at hl 0 rfl) ?_
  refine r_getr (C := RX7) (T := TX7) hx hb hts hown hK hW (xF_mo0).1 (xF_mo0).2.1 inlX7 rfl (by decide) 0 (by decide) (show xro (xkey 12 0 0) 0 = some (xkey 12 1 0) from by decide +kernel) xw_79 rfl dX7_ofW_1 ?_
  refine lv_sipush (v := nI 242) hx hb dX7_ofW_4 (by decide) ?_
  refine lv_bipush (v := nI 22) hx hb dX7_ofW_7 (by decide) ?_
  refine lv_iload_n hx hb dX7_ofW_9 rfl (lv_at hl 1 rfl) ?_
  refine lv_imul hx hb dX7_ofW_10 ?_
  refine lv_eqi (y := nI (22 * i)) (xnI_mul 22 i) ?_
  refine lv_iadd hx hb dX7_ofW_11 ?_
  refine lv_eqi (y := nI (242 + 22 * i)) (nI_add 242 (22 * i)) ?_
  refine lv_iload_n hx hb dX7_ofW_12 rfl (lv_at hl 2 rfl) ?_
  refine lv_iadd hx hb dX7_ofW_13 ?_
  refine lv_eqi (y := nI (242 + 22 * i + w)) (nI_add (242 + 22 * i) w) ?_
  refine r_iald hx hb hK hW (N := 440) (xF_mo1) (242 + 22 * i + w) (by omega) (by decide) rfl (xr_model 1 (by decide) (by decide) (242 + 22 * i + w)) (x := Y i w) (xat_Y (sg := sg) (L := L) (O := O) (Y := Y) (i := i) (w := w) (by omega)) dX7_ofW_14 ?_
  obtain rfl : Y i w = res := by (rw [← hres]) <;> (rfl)
  rw [hQ0]
  exact x_iret hx hb hret hlocks rfl hW rfl dX7_ofW_15
set_option maxHeartbeats 4000000 in
set_option maxRecDepth 100000 in
theorem c_X7_layW (l : Launch) (X : xX) (G : xG) {f sg pb pc pd pe pg ph pp pq pt pu : Nat → Int32} {L O Y : Nat → Nat → Int32} {i w : Nat} {v : Int32} {ℓ : Nat → Int32} (hi : i < 8) (hw : w < 22)  : XC l yX7_layW cX7_layW 4 none 0 0 0 0 X xsh [.ref (xB X + xkey 12 0 0), .int (nI i), .int (nI w), .int v] 603 603 (xval (xB X) (va_up G 12 (xMa f sg L O (va_up Y i ℓ) pb pc pd pe pg ph pp pq pt pu))) (xval (xB X) (va_up G 12 (xMa f sg L O (va_up Y i (va_up ℓ w v)) pb pc pd pe pg ph pp pq pt pu))) none := by
  refine XC.of RX7 "layW" [(0, .ref (xB X + xkey 12 0 0)), (1, .int (nI i)), (2, .int (nI w)), (3, .int v)] (by decide) rfl rfl (Nat.le_of_ble_eq_true rfl) rfl ?_
  intro p e s m args below meth c ls hx hb hret hml hts hown hlocks hnm hK hW hl
  have hW : XR X G 12 (xMa f sg L O (va_up Y i ℓ) pb pc pd pe pg ph pp pq pt pu) s.heap [] := hW
  obtain ⟨Q0, hQ0⟩ : ∃ z, z = MQ below (xQ X xsh 603 (xval (xB X) (va_up G 12 (xMa f sg L O (va_up Y i (va_up ℓ w v)) pb pc pd pe pg ph pp pq pt pu))) none) args s 0 0 (fun q => xB X ≤ q) := ⟨_, rfl⟩
  rw [← hQ0]
  refine lv_aload_n hx hb dX7_layW_0 rfl (lv_at hl 0 rfl) ?_
  refine r_getr (C := RX7) (T := TX7) hx hb hts hown hK hW (xF_mo0).1 (xF_mo0).2.1 inlX7 rfl (by decide) 0 (by decide) (show xro (xkey 12 0 0) 0 = some (xkey 12 1 0) from by decide +kernel) xw_79 rfl dX7_layW_1 ?_
  refine lv_sipush (v := nI 242) hx hb dX7_layW_4 (by decide) ?_
  refine lv_bipush (v := nI 22) hx hb dX7_layW_7 (by decide) ?_
  refine lv_iload_n hx hb dX7_layW_9 rfl (lv_at hl 1 rfl) ?_
  refine lv_imul hx hb dX7_layW_10 ?_
  refine lv_eqi (y := nI (22 * i)) (xnI_mul 22 i) ?_
  refine lv_iadd hx hb dX7_layW_11 ?_
  refine lv_eqi (y := nI (242 + 22 * i)) (nI_add 242 (22 * i)) ?_
  refine lv_iload_n hx hb dX7_layW_12 rfl (lv_at hl 2 rfl) ?_
  refine lv_iadd hx hb dX7_layW_13 ?_
  refine lv_eqi (y := nI (242 + 22 * i + w)) (nI_add (242 + 22 * i) w) ?_
  refine lv_iload_n hx hb dX7_layW_14 rfl (lv_at hl 3 rfl) ?_
  refine r_iast hx hb hK hW (N := 440) (xF_mo1) (242 + 22 * i + w) (by omega) (by decide) rfl (xr_model 1 (by decide) (by decide) (242 + 22 * i + w)) (xMa4f (i := i) (w := w) (by omega)) dX7_layW_15 (fun H locs hW => ?_)
  rw [hQ0]
  exact x_vret hx hb hret hlocks hW rfl dX7_layW_16
set_option maxHeartbeats 4000000 in
set_option maxRecDepth 100000 in
theorem c_X7_ofH (l : Launch) (X : xX) (G : xG) {f sg pb pc pd pe pg ph pp pq pt pu : Nat → Int32} {L O Y : Nat → Nat → Int32} {i w : Nat} (hi : i < 8) (hw : w < 3) {res : Int32} (hres : (O i w) = res) : XC l yX7_ofH cX7_ofH 3 (some .int) 0 0 0 0 X xsh [.ref (xB X + xkey 12 0 0), .int (nI i), .int (nI w)] 603 603 (xval (xB X) (va_up G 12 (xMa f sg L O Y pb pc pd pe pg ph pp pq pt pu))) (xval (xB X) (va_up G 12 (xMa f sg L O Y pb pc pd pe pg ph pp pq pt pu))) (some (.int res)) := by
  refine XC.of RX7 "ofH" [(0, .ref (xB X + xkey 12 0 0)), (1, .int (nI i)), (2, .int (nI w))] (by decide) rfl rfl (Nat.le_of_ble_eq_true rfl) rfl ?_
  intro p e s m args below meth c ls hx hb hret hml hts hown hlocks hnm hK hW hl
  have hW : XR X G 12 (xMa f sg L O Y pb pc pd pe pg ph pp pq pt pu) s.heap [] := hW
  obtain ⟨Q0, hQ0⟩ : ∃ z, z = MQ below (xQ X xsh 603 (xval (xB X) (va_up G 12 (xMa f sg L O Y pb pc pd pe pg ph pp pq pt pu))) (some (.int res))) args s 0 0 (fun q => xB X ≤ q) := ⟨_, rfl⟩
  rw [← hQ0]
  refine lv_aload_n hx hb dX7_ofH_0 rfl (lv_at hl 0 rfl) ?_
  refine r_getr (C := RX7) (T := TX7) hx hb hts hown hK hW (xF_mo0).1 (xF_mo0).2.1 inlX7 rfl (by decide) 0 (by decide) (show xro (xkey 12 0 0) 0 = some (xkey 12 1 0) from by decide +kernel) xw_79 rfl dX7_ofH_1 ?_
  refine lv_sipush (v := nI 218) hx hb dX7_ofH_4 (by decide) ?_
  refine lv_iconst (v := nI 3) hx hb dX7_ofH_7 (by decide) ?_
  refine lv_iload_n hx hb dX7_ofH_8 rfl (lv_at hl 1 rfl) ?_
  refine lv_imul hx hb dX7_ofH_9 ?_
  refine lv_eqi (y := nI (3 * i)) (xnI_mul 3 i) ?_
  refine lv_iadd hx hb dX7_ofH_10 ?_
  refine lv_eqi (y := nI (218 + 3 * i)) (nI_add 218 (3 * i)) ?_
  refine lv_iload_n hx hb dX7_ofH_11 rfl (lv_at hl 2 rfl) ?_
  refine lv_iadd hx hb dX7_ofH_12 ?_
  refine lv_eqi (y := nI (218 + 3 * i + w)) (nI_add (218 + 3 * i) w) ?_
  refine r_iald hx hb hK hW (N := 440) (xF_mo1) (218 + 3 * i + w) (by omega) (by decide) rfl (xr_model 1 (by decide) (by decide) (218 + 3 * i + w)) (x := O i w) (xat_O (sg := sg) (L := L) (O := O) (Y := Y) (i := i) (w := w) (by omega) (by omega)) dX7_ofH_13 ?_
  obtain rfl : O i w = res := by (rw [← hres]) <;> (rfl)
  rw [hQ0]
  exact x_iret hx hb hret hlocks rfl hW rfl dX7_ofH_14
