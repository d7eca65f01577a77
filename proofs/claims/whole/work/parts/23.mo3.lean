/-! ===== the model: disturbed, nearest, a walker's way ===== -/
theorem xor1 {x : Int32} (h : x = 0 ∨ x = 1) : x ||| 1 = 0 ∨ x ||| 1 = 1 := by rcases h with rfl | rfl <;> exact Or.inr (by decide)
theorem xor0 {x : Int32} (h : x = 0 ∨ x = 1) : x ||| 0 = 0 ∨ x ||| 0 = 1 := by
  rcases h with rfl | rfl
  · exact Or.inl (by decide)
  · exact Or.inr (by decide)
def Mdis (L O : Nat → Nat → Int32) (a n : Nat) : Int32 := xloop (fun i s => if L i 2 = 2 then (if Mfar (L i 0) (O a 0) ≤ L i 1 / 3 then s ||| 1 else s ||| 0) else s ||| 0) n 0 0
theorem hdV_yX7_isDisturbed : yX7_isDisturbed.cls = RX7 ∧ yX7_isDisturbed.cls ≠ "java/lang/invoke/MethodHandle" ∧ yX7_isDisturbed.cls ≠ "java/lang/invoke/VarHandle" ∧ (parseMethodDescriptor yX7_isDisturbed.desc).map (fun d => d.parameters.length) = some 1 := by decide +kernel
theorem hdV_yX7_nearestTo : yX7_nearestTo.cls = RX7 ∧ yX7_nearestTo.cls ≠ "java/lang/invoke/MethodHandle" ∧ yX7_nearestTo.cls ≠ "java/lang/invoke/VarHandle" ∧ (parseMethodDescriptor yX7_nearestTo.desc).map (fun d => d.parameters.length) = some 1 := by decide +kernel
set_option maxHeartbeats 4000000 in
set_option maxRecDepth 100000 in
theorem c_X7_isDisturbed (l : Launch) (X : xX) (G : xG) {f sg pb pc pd pe pg ph pp pq pt pu : Nat → Int32} {L O Y : Nat → Nat → Int32} {n a : Nat} (hn : sg 7 = nI n) (hn16 : n ≤ 16) (ha : a < 8) {res : Int32} (hres : (Mdis L O a n) = res) : XC l yX7_isDisturbed cX7_isDisturbed 4 (some .boolean) 1 22 0 0 X xsh [.ref (xB X + xkey 12 0 0), .int (nI a)] 603 603 (xval (xB X) (va_up G 12 (xMa f sg L O Y pb pc pd pe pg ph pp pq pt pu))) (xval (xB X) (va_up G 12 (xMa f sg L O Y pb pc pd pe pg ph pp pq pt pu))) (some (.int res)) := by
  refine XC.of RX7 "isDisturbed" [(0, .ref (xB X + xkey 12 0 0)), (1, .int (nI a))] (by decide) rfl rfl (Nat.le_of_ble_eq_true rfl) rfl ?_
  intro p e s m args below meth c ls hx hb hret hml hts hown hlocks hnm hK hW hl
  have hW : XR X G 12 (xMa f sg L O Y pb pc pd pe pg ph pp pq pt pu) s.heap [] := hW
  obtain ⟨Q0, hQ0⟩ : ∃ z, z = MQ below (xQ X xsh 603 (xval (xB X) (va_up G 12 (xMa f sg L O Y pb pc pd pe pg ph pp pq pt pu))) (some (.int res))) args s 0 0 (fun q => xB X ≤ q) := ⟨_, rfl⟩
  rw [← hQ0]
  refine lv_iconst (v := 0) hx hb dX7_isDisturbed_0 (by decide) ?_
  refine lv_istore_n (lv' := [(2, .int 0), (0, .ref (xB X + xkey 12 0 0)), (1, .int (nI a))]) hx hb dX7_isDisturbed_1 rfl hl (by decide) rfl (fun ls hl => ?_)
  refine lv_iconst (v := nI 0) hx hb dX7_isDisturbed_2 (by decide) ?_
  refine lv_istore_n (lv' := [(3, .int (nI 0)), (2, .int 0), (0, .ref (xB X + xkey 12 0 0)), (1, .int (nI a))]) hx hb dX7_isDisturbed_3 rfl hl (by decide) rfl (fun ls hl => ?_)
  have loop_4 : ∀ (k_4 i : Nat) (da : Int32), i + k_4 = n → (da = 0 ∨ da = 1) → xloop (fun i s => if L i 2 = 2 then (if Mfar (L i 0) (O a 0) ≤ L i 1 / 3 then s ||| 1 else s ||| 0) else s ||| 0) k_4 i da = xloop (fun i s => if L i 2 = 2 then (if Mfar (L i 0) (O a 0) ≤ L i 1 / 3 then s ||| 1 else s ||| 0) else s ||| 0) n 0 0 → ∀ (H : Heap) (locs : List Loc) (ls : Array Slot), XR X G 12 (xMa f sg L O Y pb pc pd pe pg ph pp pq pt pu) H locs → lv_has ls 4 [(0, .ref (xB X + xkey 12 0 0)), (1, .int (nI a)), (2, .int da), (3, .int (nI i))] → W p l e { frames := 1, cells := 0, slots := 0, locals := 22 } s m args below meth c H locs 0 0 Q0 (F0 m 4 ls []) := by
    intro k_4
    induction k_4 with
    | zero =>
      intro i da hik_4 hv0_4 hsp_4 H locs ls hW hl
      refine lv_iload_n hx hb dX7_isDisturbed_4 rfl (lv_at hl 3 rfl) ?_
      refine lv_aload_n hx hb dX7_isDisturbed_5 rfl (lv_at hl 0 rfl) ?_
      refine r_getr (C := RX7) (T := TX7) hx hb hts hown hK hW (xF_mo0).1 (xF_mo0).2.1 inlX7 rfl (by decide) 0 (by decide) (show xro (xkey 12 0 0) 0 = some (xkey 12 1 0) from by decide +kernel) xw_79 rfl dX7_isDisturbed_6 ?_
      refine lv_bipush (v := 7) hx hb dX7_isDisturbed_9 (by decide) ?_
      refine r_iald hx hb hK hW (N := 440) (xF_mo1) 7 (by decide) (by decide) (by decide) (xr_model 1 (by decide) (by decide) 7) (x := nI n) ((xat_s (sg := sg) (L := L) (O := O) (Y := Y) (k := 7) (by omega)).trans hn) dX7_isDisturbed_11 ?_
      refine lv_icmp_ge (tgt := 65) hx hb dX7_isDisturbed_12 (by decide) (fun c_1 => ?_) (fun c_1 => absurd (xge_refl (by omega)) c_1)
      refine lv_iload_n hx hb dX7_isDisturbed_65 rfl (lv_at hl 2 rfl) ?_
      obtain rfl : da = res := by (rw [← hres]) <;> (unfold Mdis; rw [← hsp_4]; rfl)
      rw [hQ0]
      exact x_iret hx hb hret hlocks (xb_nar hv0_4) hW rfl dX7_isDisturbed_66
    | succ k_4 ih_4 =>
      intro i da hik_4 hv0_4 hsp_4 H locs ls hW hl
      refine lv_iload_n hx hb dX7_isDisturbed_4 rfl (lv_at hl 3 rfl) ?_
      refine lv_aload_n hx hb dX7_isDisturbed_5 rfl (lv_at hl 0 rfl) ?_
      refine r_getr (C := RX7) (T := TX7) hx hb hts hown hK hW (xF_mo0).1 (xF_mo0).2.1 inlX7 rfl (by decide) 0 (by decide) (show xro (xkey 12 0 0) 0 = some (xkey 12 1 0) from by decide +kernel) xw_79 rfl dX7_isDisturbed_6 ?_
      refine lv_bipush (v := 7) hx hb dX7_isDisturbed_9 (by decide) ?_
      refine r_iald hx hb hK hW (N := 440) (xF_mo1) 7 (by decide) (by decide) (by decide) (xr_model 1 (by decide) (by decide) 7) (x := nI n) ((xat_s (sg := sg) (L := L) (O := O) (Y := Y) (k := 7) (by omega)).trans hn) dX7_isDisturbed_11 ?_
      refine lv_icmp_ge (tgt := 65) hx hb dX7_isDisturbed_12 (by decide) (fun c_2 => absurd c_2 (nI_ge (by omega) (by omega))) (fun c_2 => ?_)
      refine lv_iload_n hx hb dX7_isDisturbed_15 rfl (lv_at hl 2 rfl) ?_
      refine lv_aload_n hx hb dX7_isDisturbed_16 rfl (lv_at hl 0 rfl) ?_
      refine lv_iload_n hx hb dX7_isDisturbed_17 rfl (lv_at hl 3 rfl) ?_
      refine lv_iconst (v := 2) hx hb dX7_isDisturbed_18 (by decide) ?_
      refine x_callV hx hb hml hown hts hK hW hl.1 (c_X7_ofL l X G (i := i) (w := 2) (hi := (by omega)) (hw := (by decide)) (hres := rfl)) (xF_mo0).1 (xF_mo0).2.1 (by decide) rfl xw_198 xw_199 xw_200 xw_5 xw_201 hdV_yX7_ofL ⟨Nat.le_of_ble_eq_true rfl, Nat.le_of_ble_eq_true rfl⟩ rfl (Nat.le_of_ble_eq_true rfl) ⟨Nat.le_refl _, Nat.le_refl _⟩ dX7_isDisturbed_19 (fun H locs hW => ?_)
      refine lv_iconst (v := 2) hx hb dX7_isDisturbed_22 (by decide) ?_
      refine lv_icmp_ne (tgt := 56) hx hb dX7_isDisturbed_23 (by decide) (fun c_3 => ?_) (fun c_3 => ?_)
      · skip
        refine lv_iconst (v := 0) hx hb dX7_isDisturbed_56 (by decide) ?_
        refine lv_ior hx hb dX7_isDisturbed_57 ?_
        refine lv_istore_n (lv' := [(2, .int (da ||| 0)), (0, .ref (xB X + xkey 12 0 0)), (1, .int (nI a)), (3, .int (nI i))]) hx hb dX7_isDisturbed_58 rfl hl (by decide) rfl (fun ls hl => ?_)
        refine lv_iinc (v := nI (i + 1)) (lv' := [(3, .int (nI (i + 1))), (2, .int (da ||| 0)), (0, .ref (xB X + xkey 12 0 0)), (1, .int (nI a))]) hx hb dX7_isDisturbed_59 hl (k := 3) rfl (nI_1 i) (by decide) rfl (fun ls hl => ?_)
        refine lv_goto (tgt := 4) hx hb dX7_isDisturbed_62 (by decide) ?_
        refine ih_4 (i + 1) (da ||| 0) (by omega) (xor0 hv0_4) ?_ H locs ls hW (lv_sub hl [2, 3, 1, 0] rfl)
        rw [← hsp_4]; simp [xloop, c_2, c_3]
      · skip
        refine lv_aload_n hx hb dX7_isDisturbed_26 rfl (lv_at hl 0 rfl) ?_
        refine lv_iload_n hx hb dX7_isDisturbed_27 rfl (lv_at hl 3 rfl) ?_
        refine lv_iconst (v := 0) hx hb dX7_isDisturbed_28 (by decide) ?_
        refine x_callV hx hb hml hown hts hK hW hl.1 (c_X7_ofL l X G (i := i) (w := 0) (hi := (by omega)) (hw := (by decide)) (hres := rfl)) (xF_mo0).1 (xF_mo0).2.1 (by decide) rfl xw_198 xw_199 xw_200 xw_5 xw_201 hdV_yX7_ofL ⟨Nat.le_of_ble_eq_true rfl, Nat.le_of_ble_eq_true rfl⟩ rfl (Nat.le_of_ble_eq_true rfl) ⟨Nat.le_refl _, Nat.le_refl _⟩ dX7_isDisturbed_29 (fun H locs hW => ?_)
        refine lv_aload_n hx hb dX7_isDisturbed_32 rfl (lv_at hl 0 rfl) ?_
        refine lv_iload_n hx hb dX7_isDisturbed_33 rfl (lv_at hl 1 rfl) ?_
        refine lv_iconst (v := 0) hx hb dX7_isDisturbed_34 (by decide) ?_
        refine x_callV hx hb hml hown hts hK hW hl.1 (c_X7_ofH l X G (i := a) (w := 0) (hi := ha) (hw := (by decide)) (hres := rfl)) (xF_mo0).1 (xF_mo0).2.1 (by decide) rfl xw_550 xw_551 xw_552 xw_5 xw_553 hdV_yX7_ofH ⟨Nat.le_of_ble_eq_true rfl, Nat.le_of_ble_eq_true rfl⟩ rfl (Nat.le_of_ble_eq_true rfl) ⟨Nat.le_refl _, Nat.le_refl _⟩ dX7_isDisturbed_35 (fun H locs hW => ?_)
        refine x_callS hx hb hml hown hts hK hW hl.1 (c_X7_far l X _ (a := L i 0) (b := O a 0) (hres := rfl)) xw_385 xw_386 xw_5 xw_387 hdS_yX7_far ⟨Nat.le_of_ble_eq_true rfl, Nat.le_of_ble_eq_true rfl⟩ rfl (Nat.le_of_ble_eq_true rfl) ⟨Nat.le_refl _, Nat.le_refl _⟩ dX7_isDisturbed_38 (fun H locs hW => ?_)
        refine lv_aload_n hx hb dX7_isDisturbed_41 rfl (lv_at hl 0 rfl) ?_
        refine lv_iload_n hx hb dX7_isDisturbed_42 rfl (lv_at hl 3 rfl) ?_
        refine lv_iconst (v := 1) hx hb dX7_isDisturbed_43 (by decide) ?_
        refine x_callV hx hb hml hown hts hK hW hl.1 (c_X7_ofL l X G (i := i) (w := 1) (hi := (by omega)) (hw := (by decide)) (hres := rfl)) (xF_mo0).1 (xF_mo0).2.1 (by decide) rfl xw_198 xw_199 xw_200 xw_5 xw_201 hdV_yX7_ofL ⟨Nat.le_of_ble_eq_true rfl, Nat.le_of_ble_eq_true rfl⟩ rfl (Nat.le_of_ble_eq_true rfl) ⟨Nat.le_refl _, Nat.le_refl _⟩ dX7_isDisturbed_44 (fun H locs hW => ?_)
        refine lv_iconst (v := 3) hx hb dX7_isDisturbed_47 (by decide) ?_
        refine lv_idiv hx hb dX7_isDisturbed_48 (by decide) ?_
        refine lv_icmp_gt (tgt := 56) hx hb dX7_isDisturbed_49 (by decide) (fun c_4 => ?_) (fun c_4 => ?_)
        · skip
          refine lv_iconst (v := 0) hx hb dX7_isDisturbed_56 (by decide) ?_
          refine lv_ior hx hb dX7_isDisturbed_57 ?_
          refine lv_istore_n (lv' := [(2, .int (da ||| 0)), (0, .ref (xB X + xkey 12 0 0)), (1, .int (nI a)), (3, .int (nI i))]) hx hb dX7_isDisturbed_58 rfl hl (by decide) rfl (fun ls hl => ?_)
          refine lv_iinc (v := nI (i + 1)) (lv' := [(3, .int (nI (i + 1))), (2, .int (da ||| 0)), (0, .ref (xB X + xkey 12 0 0)), (1, .int (nI a))]) hx hb dX7_isDisturbed_59 hl (k := 3) rfl (nI_1 i) (by decide) rfl (fun ls hl => ?_)
          refine lv_goto (tgt := 4) hx hb dX7_isDisturbed_62 (by decide) ?_
          refine ih_4 (i + 1) (da ||| 0) (by omega) (xor0 hv0_4) ?_ H locs ls hW (lv_sub hl [2, 3, 1, 0] rfl)
          rw [← hsp_4]; simp [xloop, c_2, c_3, c_4, Int32.not_le.mpr c_4]
        · skip
          refine lv_iconst (v := 1) hx hb dX7_isDisturbed_52 (by decide) ?_
          refine lv_goto (tgt := 57) hx hb dX7_isDisturbed_53 (by decide) ?_
          refine lv_ior hx hb dX7_isDisturbed_57 ?_
          refine lv_istore_n (lv' := [(2, .int (da ||| 1)), (0, .ref (xB X + xkey 12 0 0)), (1, .int (nI a)), (3, .int (nI i))]) hx hb dX7_isDisturbed_58 rfl hl (by decide) rfl (fun ls hl => ?_)
          refine lv_iinc (v := nI (i + 1)) (lv' := [(3, .int (nI (i + 1))), (2, .int (da ||| 1)), (0, .ref (xB X + xkey 12 0 0)), (1, .int (nI a))]) hx hb dX7_isDisturbed_59 hl (k := 3) rfl (nI_1 i) (by decide) rfl (fun ls hl => ?_)
          refine lv_goto (tgt := 4) hx hb dX7_isDisturbed_62 (by decide) ?_
          refine ih_4 (i + 1) (da ||| 1) (by omega) (xor1 hv0_4) ?_ H locs ls hW (lv_sub hl [2, 3, 1, 0] rfl)
          rw [← hsp_4]; simp [xloop, c_2, c_3, c_4, Int32.not_lt.mp c_4]
  exact loop_4 n 0 0 (by omega) (Or.inl rfl) rfl _ _ _ hW (lv_sub hl [2, 3, 1, 0] rfl)
set_option maxHeartbeats 4000000 in
set_option maxRecDepth 100000 in
theorem c_X7_nearestTo (l : Launch) (X : xX) (G : xG) {f sg pb pc pd pe pg ph pp pq pt pu : Nat → Int32} {L O Y : Nat → Nat → Int32} {n : Nat} {x : Int32} (hn : sg 7 = nI n) (hn16 : n ≤ 16) {res : Int32} (hres : (Mnear x n L) = res) : XC l yX7_nearestTo cX7_nearestTo 4 (some .int) 1 22 0 0 X xsh [.ref (xB X + xkey 12 0 0), .int x] 603 603 (xval (xB X) (va_up G 12 (xMa f sg L O Y pb pc pd pe pg ph pp pq pt pu))) (xval (xB X) (va_up G 12 (xMa f sg L O Y pb pc pd pe pg ph pp pq pt pu))) (some (.int res)) := by
  refine XC.of RX7 "nearestTo" [(0, .ref (xB X + xkey 12 0 0)), (1, .int x)] (by decide) rfl rfl (Nat.le_of_ble_eq_true rfl) rfl ?_
  intro p e s m args below meth c ls hx hb hret hml hts hown hlocks hnm hK hW hl
  have hW : XR X G 12 (xMa f sg L O Y pb pc pd pe pg ph pp pq pt pu) s.heap [] := hW
  obtain ⟨Q0, hQ0⟩ : ∃ z, z = MQ below (xQ X xsh 603 (xval (xB X) (va_up G 12 (xMa f sg L O Y pb pc pd pe pg ph pp pq pt pu))) (some (.int res))) args s 0 0 (fun q => xB X ≤ q) := ⟨_, rfl⟩
  rw [← hQ0]
  refine lv_bipush (v := (-6)) hx hb dX7_nearestTo_0 (by decide) ?_
  refine lv_istore_n (lv' := [(2, .int (-6)), (0, .ref (xB X + xkey 12 0 0)), (1, .int x)]) hx hb dX7_nearestTo_2 rfl hl (by decide) rfl (fun ls hl => ?_)
  refine lv_iconst (v := nI 0) hx hb dX7_nearestTo_3 (by decide) ?_
  refine lv_istore_n (lv' := [(3, .int (nI 0)), (2, .int (-6)), (0, .ref (xB X + xkey 12 0 0)), (1, .int x)]) hx hb dX7_nearestTo_4 rfl hl (by decide) rfl (fun ls hl => ?_)
  have loop_5 : ∀ (k_5 i : Nat) (ba : Int32), i + k_5 = n → (ba = -6 ∨ (ba = nI ba.toNatClampNeg ∧ ba.toNatClampNeg < 16)) → xloop (fun i (s : Int32) => if s < 0 ∨ Mfar (L i 0) x < Mfar (L s.toNatClampNeg 0) x then nI i else s) k_5 i ba = xloop (fun i (s : Int32) => if s < 0 ∨ Mfar (L i 0) x < Mfar (L s.toNatClampNeg 0) x then nI i else s) n 0 (-6) → ∀ (H : Heap) (locs : List Loc) (ls : Array Slot), XR X G 12 (xMa f sg L O Y pb pc pd pe pg ph pp pq pt pu) H locs → lv_has ls 4 [(0, .ref (xB X + xkey 12 0 0)), (1, .int x), (2, .int ba), (3, .int (nI i))] → W p l e { frames := 1, cells := 0, slots := 0, locals := 22 } s m args below meth c H locs 0 0 Q0 (F0 m 5 ls []) := by
    intro k_5
    induction k_5 with
    | zero =>
      intro i ba hik_5 hv0_5 hsp_5 H locs ls hW hl
      refine lv_iload_n hx hb dX7_nearestTo_5 rfl (lv_at hl 3 rfl) ?_
      refine lv_aload_n hx hb dX7_nearestTo_6 rfl (lv_at hl 0 rfl) ?_
      refine r_getr (C := RX7) (T := TX7) hx hb hts hown hK hW (xF_mo0).1 (xF_mo0).2.1 inlX7 rfl (by decide) 0 (by decide) (show xro (xkey 12 0 0) 0 = some (xkey 12 1 0) from by decide +kernel) xw_79 rfl dX7_nearestTo_7 ?_
      refine lv_bipush (v := 7) hx hb dX7_nearestTo_10 (by decide) ?_
      refine r_iald hx hb hK hW (N := 440) (xF_mo1) 7 (by decide) (by decide) (by decide) (xr_model 1 (by decide) (by decide) 7) (x := nI n) ((xat_s (sg := sg) (L := L) (O := O) (Y := Y) (k := 7) (by omega)).trans hn) dX7_nearestTo_12 ?_
      refine lv_icmp_ge (tgt := 55) hx hb dX7_nearestTo_13 (by decide) (fun c_1 => ?_) (fun c_1 => absurd (xge_refl (by omega)) c_1)
      refine lv_iload_n hx hb dX7_nearestTo_55 rfl (lv_at hl 2 rfl) ?_
      obtain rfl : ba = res := by (rw [← hres]) <;> (unfold Mnear; rw [← hsp_5]; rfl)
      rw [hQ0]
      exact x_iret hx hb hret hlocks rfl hW rfl dX7_nearestTo_56
    | succ k_5 ih_5 =>
      intro i ba hik_5 hv0_5 hsp_5 H locs ls hW hl
      refine lv_iload_n hx hb dX7_nearestTo_5 rfl (lv_at hl 3 rfl) ?_
      refine lv_aload_n hx hb dX7_nearestTo_6 rfl (lv_at hl 0 rfl) ?_
      refine r_getr (C := RX7) (T := TX7) hx hb hts hown hK hW (xF_mo0).1 (xF_mo0).2.1 inlX7 rfl (by decide) 0 (by decide) (show xro (xkey 12 0 0) 0 = some (xkey 12 1 0) from by decide +kernel) xw_79 rfl dX7_nearestTo_7 ?_
      refine lv_bipush (v := 7) hx hb dX7_nearestTo_10 (by decide) ?_
      refine r_iald hx hb hK hW (N := 440) (xF_mo1) 7 (by decide) (by decide) (by decide) (xr_model 1 (by decide) (by decide) 7) (x := nI n) ((xat_s (sg := sg) (L := L) (O := O) (Y := Y) (k := 7) (by omega)).trans hn) dX7_nearestTo_12 ?_
      refine lv_icmp_ge (tgt := 55) hx hb dX7_nearestTo_13 (by decide) (fun c_2 => absurd c_2 (nI_ge (by omega) (by omega))) (fun c_2 => ?_)
      refine lv_iload_n hx hb dX7_nearestTo_16 rfl (lv_at hl 2 rfl) ?_
      refine lv_if_lt (tgt := 43) hx hb dX7_nearestTo_17 (by decide) (fun c_3 => ?_) (fun c_3 => ?_)
      · skip
        refine lv_iload_n hx hb dX7_nearestTo_43 rfl (lv_at hl 3 rfl) ?_
        refine lv_goto (tgt := 48) hx hb dX7_nearestTo_44 (by decide) ?_
        refine lv_istore_n (lv' := [(2, .int (nI i)), (0, .ref (xB X + xkey 12 0 0)), (1, .int x), (3, .int (nI i))]) hx hb dX7_nearestTo_48 rfl hl (by decide) rfl (fun ls hl => ?_)
        refine lv_iinc (v := nI (i + 1)) (lv' := [(3, .int (nI (i + 1))), (2, .int (nI i)), (0, .ref (xB X + xkey 12 0 0)), (1, .int x)]) hx hb dX7_nearestTo_49 hl (k := 3) rfl (nI_1 i) (by decide) rfl (fun ls hl => ?_)
        refine lv_goto (tgt := 5) hx hb dX7_nearestTo_52 (by decide) ?_
        refine ih_5 (i + 1) (nI i) (by omega) (Or.inr ⟨by rw [nI_clamp (by omega)], by rw [nI_clamp (by omega)]; omega⟩) ?_ H locs ls hW (lv_sub hl [2, 3, 1, 0] rfl)
        rw [← hsp_5]; simp [xloop, c_2, c_3, Int32.not_le.mpr c_3]
      · skip
        have hb9 := hv0_5.resolve_left (fun e => c_3 (by rw [e]; decide))
        refine lv_aload_n hx hb dX7_nearestTo_20 rfl (lv_at hl 0 rfl) ?_
        refine lv_iload_n hx hb dX7_nearestTo_21 rfl (lv_at hl 3 rfl) ?_
        refine lv_iconst (v := 0) hx hb dX7_nearestTo_22 (by decide) ?_
        refine x_callV hx hb hml hown hts hK hW hl.1 (c_X7_ofL l X G (i := i) (w := 0) (hi := (by omega)) (hw := (by decide)) (hres := rfl)) (xF_mo0).1 (xF_mo0).2.1 (by decide) rfl xw_198 xw_199 xw_200 xw_5 xw_201 hdV_yX7_ofL ⟨Nat.le_of_ble_eq_true rfl, Nat.le_of_ble_eq_true rfl⟩ rfl (Nat.le_of_ble_eq_true rfl) ⟨Nat.le_refl _, Nat.le_refl _⟩ dX7_nearestTo_23 (fun H locs hW => ?_)
        refine lv_iload_n hx hb dX7_nearestTo_26 rfl (lv_at hl 1 rfl) ?_
        refine x_callS hx hb hml hown hts hK hW hl.1 (c_X7_far l X _ (a := L i 0) (b := x) (hres := rfl)) xw_385 xw_386 xw_5 xw_387 hdS_yX7_far ⟨Nat.le_of_ble_eq_true rfl, Nat.le_of_ble_eq_true rfl⟩ rfl (Nat.le_of_ble_eq_true rfl) ⟨Nat.le_refl _, Nat.le_refl _⟩ dX7_nearestTo_27 (fun H locs hW => ?_)
        refine lv_aload_n hx hb dX7_nearestTo_30 rfl (lv_at hl 0 rfl) ?_
        refine lv_iload_n hx hb dX7_nearestTo_31 rfl (lv_at hl 2 rfl) ?_
        refine lv_eqi (y := nI ba.toNatClampNeg) hb9.1 ?_
        refine lv_iconst (v := 0) hx hb dX7_nearestTo_32 (by decide) ?_
        refine x_callV hx hb hml hown hts hK hW hl.1 (c_X7_ofL l X G (i := ba.toNatClampNeg) (w := 0) (hi := (by omega)) (hw := (by decide)) (hres := rfl)) (xF_mo0).1 (xF_mo0).2.1 (by decide) rfl xw_198 xw_199 xw_200 xw_5 xw_201 hdV_yX7_ofL ⟨Nat.le_of_ble_eq_true rfl, Nat.le_of_ble_eq_true rfl⟩ rfl (Nat.le_of_ble_eq_true rfl) ⟨Nat.le_refl _, Nat.le_refl _⟩ dX7_nearestTo_33 (fun H locs hW => ?_)
        refine lv_iload_n hx hb dX7_nearestTo_36 rfl (lv_at hl 1 rfl) ?_
        refine x_callS hx hb hml hown hts hK hW hl.1 (c_X7_far l X _ (a := L ba.toNatClampNeg 0) (b := x) (hres := rfl)) xw_385 xw_386 xw_5 xw_387 hdS_yX7_far ⟨Nat.le_of_ble_eq_true rfl, Nat.le_of_ble_eq_true rfl⟩ rfl (Nat.le_of_ble_eq_true rfl) ⟨Nat.le_refl _, Nat.le_refl _⟩ dX7_nearestTo_37 (fun H locs hW => ?_)
        refine lv_icmp_ge (tgt := 47) hx hb dX7_nearestTo_40 (by decide) (fun c_4 => ?_) (fun c_4 => ?_)
        · skip
          refine lv_iload_n hx hb dX7_nearestTo_47 rfl (lv_at hl 2 rfl) ?_
          refine lv_istore_n (lv' := [(2, .int ba), (0, .ref (xB X + xkey 12 0 0)), (1, .int x), (3, .int (nI i))]) hx hb dX7_nearestTo_48 rfl hl (by decide) rfl (fun ls hl => ?_)
          refine lv_iinc (v := nI (i + 1)) (lv' := [(3, .int (nI (i + 1))), (2, .int ba), (0, .ref (xB X + xkey 12 0 0)), (1, .int x)]) hx hb dX7_nearestTo_49 hl (k := 3) rfl (nI_1 i) (by decide) rfl (fun ls hl => ?_)
          refine lv_goto (tgt := 5) hx hb dX7_nearestTo_52 (by decide) ?_
          refine ih_5 (i + 1) ba (by omega) hv0_5 ?_ H locs ls hW (lv_sub hl [2, 3, 1, 0] rfl)
          rw [← hsp_5]; simp [xloop, c_2, c_3, Int32.not_lt.mp c_3, c_4, Int32.not_lt.mpr c_4]
        · skip
          refine lv_iload_n hx hb dX7_nearestTo_43 rfl (lv_at hl 3 rfl) ?_
          refine lv_goto (tgt := 48) hx hb dX7_nearestTo_44 (by decide) ?_
          refine lv_istore_n (lv' := [(2, .int (nI i)), (0, .ref (xB X + xkey 12 0 0)), (1, .int x), (3, .int (nI i))]) hx hb dX7_nearestTo_48 rfl hl (by decide) rfl (fun ls hl => ?_)
          refine lv_iinc (v := nI (i + 1)) (lv' := [(3, .int (nI (i + 1))), (2, .int (nI i)), (0, .ref (xB X + xkey 12 0 0)), (1, .int x)]) hx hb dX7_nearestTo_49 hl (k := 3) rfl (nI_1 i) (by decide) rfl (fun ls hl => ?_)
          refine lv_goto (tgt := 5) hx hb dX7_nearestTo_52 (by decide) ?_
          refine ih_5 (i + 1) (nI i) (by omega) (Or.inr ⟨by rw [nI_clamp (by omega)], by rw [nI_clamp (by omega)]; omega⟩) ?_ H locs ls hW (lv_sub hl [2, 3, 1, 0] rfl)
          rw [← hsp_5]; simp [xloop, c_2, c_3, Int32.not_lt.mp c_3, c_4, Int32.not_le.mp c_4]
  exact loop_5 n 0 (-6) (by omega) (Or.inl rfl) rfl _ _ _ hW (lv_sub hl [2, 3, 1, 0] rfl)
