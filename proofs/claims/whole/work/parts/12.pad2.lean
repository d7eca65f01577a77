theorem hdV_yX3_readNumber : yX3_readNumber.cls = RX3 ∧ yX3_readNumber.cls ≠ "java/lang/invoke/MethodHandle" ∧ yX3_readNumber.cls ≠ "java/lang/invoke/VarHandle" ∧ (parseMethodDescriptor yX3_readNumber.desc).map (fun d => d.parameters.length) = some 0 := by decide +kernel
theorem hdV_yX3_readMode : yX3_readMode.cls = RX3 ∧ yX3_readMode.cls ≠ "java/lang/invoke/MethodHandle" ∧ yX3_readMode.cls ≠ "java/lang/invoke/VarHandle" ∧ (parseMethodDescriptor yX3_readMode.desc).map (fun d => d.parameters.length) = some 0 := by decide +kernel
theorem hdV_yX3_readGoals : yX3_readGoals.cls = RX3 ∧ yX3_readGoals.cls ≠ "java/lang/invoke/MethodHandle" ∧ yX3_readGoals.cls ≠ "java/lang/invoke/VarHandle" ∧ (parseMethodDescriptor yX3_readGoals.desc).map (fun d => d.parameters.length) = some 0 := by decide +kernel
theorem hdV_yX3_readOrder : yX3_readOrder.cls = RX3 ∧ yX3_readOrder.cls ≠ "java/lang/invoke/MethodHandle" ∧ yX3_readOrder.cls ≠ "java/lang/invoke/VarHandle" ∧ (parseMethodDescriptor yX3_readOrder.desc).map (fun d => d.parameters.length) = some 0 := by decide +kernel
theorem hdV_yX3_readNextOrder : yX3_readNextOrder.cls = RX3 ∧ yX3_readNextOrder.cls ≠ "java/lang/invoke/MethodHandle" ∧ yX3_readNextOrder.cls ≠ "java/lang/invoke/VarHandle" ∧ (parseMethodDescriptor yX3_readNextOrder.desc).map (fun d => d.parameters.length) = some 0 := by decide +kernel
theorem hdV_yX3_firstFault : yX3_firstFault.cls = RX3 ∧ yX3_firstFault.cls ≠ "java/lang/invoke/MethodHandle" ∧ yX3_firstFault.cls ≠ "java/lang/invoke/VarHandle" ∧ (parseMethodDescriptor yX3_firstFault.desc).map (fun d => d.parameters.length) = some 0 := by decide +kernel
set_option maxHeartbeats 4000000 in
set_option maxRecDepth 100000 in
theorem c_X3_readNumber (l : Launch) (X : xX) (G : xG) {sv hs pf sn nb : Nat → Int32}  (hp : Pok pf) (hc : Cok sn) {pf' : Nat → Int32} (ho0 : ((Frn sn (pf, nb)).1.1) = pf') {nb' : Nat → Int32} (ho1 : ((Frn sn (pf, nb)).1.2) = nb') {res : Int32} (hres : ((Frn sn (pf, nb)).2) = res) : XC l yX3_readNumber cX3_readNumber 4 (some .boolean) 1 21 0 0 X xsh [.ref (xB X + xkey 11 2 0)] 603 603 (xval (xB X) (va_up G 11 (xMi sv hs pf sn nb))) (xval (xB X) (va_up G 11 (xMi sv hs pf' sn nb'))) (some (.int res)) := by
  refine XC.of RX3 "readNumber" [(0, .ref (xB X + xkey 11 2 0))] (by decide) rfl rfl (Nat.le_of_ble_eq_true rfl) rfl ?_
  intro p e s m args below meth c ls hx hb hret hml hts hown hlocks hnm hK hW hl
  have hW : XR X G 11 (xMi sv hs pf sn nb) s.heap [] := hW
  obtain ⟨Q0, hQ0⟩ : ∃ z, z = MQ below (xQ X xsh 603 (xval (xB X) (va_up G 11 (xMi sv hs pf' sn nb'))) (some (.int res))) args s 0 0 (fun q => xB X ≤ q) := ⟨_, rfl⟩
  rw [← hQ0]
  refine lv_aload_n hx hb dX3_readNumber_0 rfl (lv_at hl 0 rfl) ?_
  refine x_callV hx hb hml hown hts hK hW hl.1 (c_X3_sign l X G  (hp := hp) (hc := (by assumption)) (hres := rfl)) (xF_mi2).1 (xF_mi2).2.1 (by decide) rfl xw_811 xw_812 xw_813 xw_27 xw_814 hdV_yX3_sign ⟨Nat.le_of_ble_eq_true rfl, Nat.le_of_ble_eq_true rfl⟩ rfl (Nat.le_of_ble_eq_true rfl) ⟨Nat.le_refl _, Nat.le_refl _⟩ dX3_readNumber_1 (fun H locs hW => ?_)
  refine x_callS hx hb hml hown hts hK hW hl.1 (c_X3_isDigit l X _ (c0 := Fsign sn pf) (hres := rfl)) xw_823 xw_824 xw_27 xw_825 hdS_yX3_isDigit ⟨Nat.le_of_ble_eq_true rfl, Nat.le_of_ble_eq_true rfl⟩ rfl (Nat.le_of_ble_eq_true rfl) ⟨Nat.le_refl _, Nat.le_refl _⟩ dX3_readNumber_4 (fun H locs hW => ?_)
  refine lv_if_ne (tgt := 12) hx hb dX3_readNumber_7 (by decide) (fun c_1 => ?_) (fun c_1 => ?_)
  · skip
    refine lv_aload_n hx hb dX3_readNumber_12 rfl (lv_at hl 0 rfl) ?_
    refine x_callV hx hb hml hown hts hK hW hl.1 (c_X3_sign l X G  (hp := hp) (hc := (by assumption)) (hres := rfl)) (xF_mi2).1 (xF_mi2).2.1 (by decide) rfl xw_811 xw_812 xw_813 xw_27 xw_814 hdV_yX3_sign ⟨Nat.le_of_ble_eq_true rfl, Nat.le_of_ble_eq_true rfl⟩ rfl (Nat.le_of_ble_eq_true rfl) ⟨Nat.le_refl _, Nat.le_refl _⟩ dX3_readNumber_13 (fun H locs hW => ?_)
    refine lv_bipush (v := 48) hx hb dX3_readNumber_16 (by decide) ?_
    refine lv_icmp_ne (tgt := 25) hx hb dX3_readNumber_18 (by decide) (fun c_2 => ?_) (fun c_2 => ?_)
    · skip
      refine lv_iconst (v := nI 3) hx hb dX3_readNumber_25 (by decide) ?_
      refine lv_istore_n (lv' := [(1, .int (nI 3)), (0, .ref (xB X + xkey 11 2 0))]) hx hb dX3_readNumber_26 rfl hl (by decide) rfl (fun ls hl => ?_)
      refine lv_iconst (v := 0) hx hb dX3_readNumber_27 (by decide) ?_
      refine lv_istore_n (lv' := [(2, .int 0), (1, .int (nI 3)), (0, .ref (xB X + xkey 11 2 0))]) hx hb dX3_readNumber_28 rfl hl (by decide) rfl (fun ls hl => ?_)
      refine lv_iconst (v := nI 0) hx hb dX3_readNumber_29 (by decide) ?_
      refine lv_istore_n (lv' := [(3, .int (nI 0)), (2, .int 0), (1, .int (nI 3)), (0, .ref (xB X + xkey 11 2 0))]) hx hb dX3_readNumber_30 rfl hl (by decide) rfl (fun ls hl => ?_)
      have loop_31 : ∀ (k_31 i : Nat) (pa : Nat → Int32) (na : Int32), i + k_31 = 3 → Pok pa → Fnum sn k_31 (pa, na) = Fnum sn 3 (pf, 0) → ∀ (H : Heap) (locs : List Loc) (ls : Array Slot), XR X G 11 (xMi sv hs pa sn nb) H locs → lv_has ls 4 [(0, .ref (xB X + xkey 11 2 0)), (1, .int (nI 3)), (2, .int na), (3, .int (nI i))] → W p l e { frames := 1, cells := 0, slots := 0, locals := 21 } s m args below meth c H locs 0 0 Q0 (F0 m 31 ls []) := by
        intro k_31
        induction k_31 with
        | zero =>
          intro i pa na hik_31 hv0_31 hsp_31 H locs ls hW hl
          refine lv_iload_n hx hb dX3_readNumber_31 rfl (lv_at hl 3 rfl) ?_
          refine lv_iload_n hx hb dX3_readNumber_32 rfl (lv_at hl 1 rfl) ?_
          refine lv_icmp_ge (tgt := 75) hx hb dX3_readNumber_33 (by decide) (fun c_3 => ?_) (fun c_3 => absurd (xge_refl (by omega)) c_3)
          have hex : (pa, na) = Fnum sn 3 (pf, 0) := by rw [← hsp_31]; simp [Fnum, c_1, c_2, c_3]
          refine lv_aload_n hx hb dX3_readNumber_75 rfl (lv_at hl 0 rfl) ?_
          refine lv_iload_n hx hb dX3_readNumber_76 rfl (lv_at hl 2 rfl) ?_
          refine x_callV hx hb hml hown hts hK hW hl.1 (c_X3_keepNumber l X G (v := na) (hp := hv0_31) (ho0 := rfl) (ho1 := rfl)) (xF_mi2).1 (xF_mi2).2.1 (by decide) rfl xw_826 xw_827 xw_828 xw_27 xw_829 hdV_yX3_keepNumber ⟨Nat.le_of_ble_eq_true rfl, Nat.le_of_ble_eq_true rfl⟩ rfl (Nat.le_of_ble_eq_true rfl) ⟨Nat.le_refl _, Nat.le_refl _⟩ dX3_readNumber_77 (fun H locs hW => ?_)
          have hW : XR X G 11 (xMi sv hs (Pcap pa) sn (Ncap na pa nb)) H locs := hW
          have hp_4 : Pok (Pcap pa) := Pok_cap hv0_31
          refine lv_iconst (v := 1) hx hb dX3_readNumber_80 (by decide) ?_
          obtain rfl : (Pcap pa) = pf' := by (rw [← ho0]) <;> (simp [Frn, Kcap, c_1, c_2, c_3, ← hex, (by decide : ¬ Fdig 48 = 0)])
          obtain rfl : (Ncap na pa nb) = nb' := by (rw [← ho1]) <;> (simp [Frn, Kcap, c_1, c_2, c_3, ← hex, (by decide : ¬ Fdig 48 = 0)])
          obtain rfl : 1 = res := by (rw [← hres]) <;> (simp [Frn, Kcap, c_1, c_2, c_3, ← hex, (by decide : ¬ Fdig 48 = 0)])
          rw [hQ0]
          exact x_iret hx hb hret hlocks rfl hW rfl dX3_readNumber_81
        | succ k_31 ih_31 =>
          intro i pa na hik_31 hv0_31 hsp_31 H locs ls hW hl
          refine lv_iload_n hx hb dX3_readNumber_31 rfl (lv_at hl 3 rfl) ?_
          refine lv_iload_n hx hb dX3_readNumber_32 rfl (lv_at hl 1 rfl) ?_
          refine lv_icmp_ge (tgt := 75) hx hb dX3_readNumber_33 (by decide) (fun c_5 => absurd c_5 (nI_ge (by omega) (by omega))) (fun c_5 => ?_)
          refine lv_aload_n hx hb dX3_readNumber_36 rfl (lv_at hl 0 rfl) ?_
          refine x_callV hx hb hml hown hts hK hW hl.1 (c_X3_sign l X G  (hp := hv0_31) (hc := (by assumption)) (hres := rfl)) (xF_mi2).1 (xF_mi2).2.1 (by decide) rfl xw_811 xw_812 xw_813 xw_27 xw_814 hdV_yX3_sign ⟨Nat.le_of_ble_eq_true rfl, Nat.le_of_ble_eq_true rfl⟩ rfl (Nat.le_of_ble_eq_true rfl) ⟨Nat.le_refl _, Nat.le_refl _⟩ dX3_readNumber_37 (fun H locs hW => ?_)
          refine x_callS hx hb hml hown hts hK hW hl.1 (c_X3_isDigit l X _ (c0 := Fsign sn pa) (hres := rfl)) xw_823 xw_824 xw_27 xw_825 hdS_yX3_isDigit ⟨Nat.le_of_ble_eq_true rfl, Nat.le_of_ble_eq_true rfl⟩ rfl (Nat.le_of_ble_eq_true rfl) ⟨Nat.le_refl _, Nat.le_refl _⟩ dX3_readNumber_40 (fun H locs hW => ?_)
          refine lv_if_eq (tgt := 75) hx hb dX3_readNumber_43 (by decide) (fun c_6 => ?_) (fun c_6 => ?_)
          · skip
            have hex : (pa, na) = Fnum sn 3 (pf, 0) := by rw [← hsp_31]; simp [Fnum, c_1, c_2, c_5, c_6]
            refine lv_aload_n hx hb dX3_readNumber_75 rfl (lv_at hl 0 rfl) ?_
            refine lv_iload_n hx hb dX3_readNumber_76 rfl (lv_at hl 2 rfl) ?_
            refine x_callV hx hb hml hown hts hK hW hl.1 (c_X3_keepNumber l X G (v := na) (hp := hv0_31) (ho0 := rfl) (ho1 := rfl)) (xF_mi2).1 (xF_mi2).2.1 (by decide) rfl xw_826 xw_827 xw_828 xw_27 xw_829 hdV_yX3_keepNumber ⟨Nat.le_of_ble_eq_true rfl, Nat.le_of_ble_eq_true rfl⟩ rfl (Nat.le_of_ble_eq_true rfl) ⟨Nat.le_refl _, Nat.le_refl _⟩ dX3_readNumber_77 (fun H locs hW => ?_)
            have hW : XR X G 11 (xMi sv hs (Pcap pa) sn (Ncap na pa nb)) H locs := hW
            have hp_7 : Pok (Pcap pa) := Pok_cap hv0_31
            refine lv_iconst (v := 1) hx hb dX3_readNumber_80 (by decide) ?_
            obtain rfl : (Pcap pa) = pf' := by (rw [← ho0]) <;> (simp [Frn, Kcap, c_1, c_2, c_5, c_6, ← hex, (by decide : ¬ Fdig 48 = 0)])
            obtain rfl : (Ncap na pa nb) = nb' := by (rw [← ho1]) <;> (simp [Frn, Kcap, c_1, c_2, c_5, c_6, ← hex, (by decide : ¬ Fdig 48 = 0)])
            obtain rfl : 1 = res := by (rw [← hres]) <;> (simp [Frn, Kcap, c_1, c_2, c_5, c_6, ← hex, (by decide : ¬ Fdig 48 = 0)])
            rw [hQ0]
            exact x_iret hx hb hret hlocks rfl hW rfl dX3_readNumber_81
          · skip
            have hp9 : Pok (va_up pa 3 ((pa 3) + 1)) := Pok_inc hv0_31 (Fdig_ne c_6)
            refine lv_bipush (v := 10) hx hb dX3_readNumber_46 (by decide) ?_
            refine lv_iload_n hx hb dX3_readNumber_48 rfl (lv_at hl 2 rfl) ?_
            refine lv_imul hx hb dX3_readNumber_49 ?_
            refine lv_aload_n hx hb dX3_readNumber_50 rfl (lv_at hl 0 rfl) ?_
            refine x_callV hx hb hml hown hts hK hW hl.1 (c_X3_sign l X G  (hp := hv0_31) (hc := (by assumption)) (hres := rfl)) (xF_mi2).1 (xF_mi2).2.1 (by decide) rfl xw_811 xw_812 xw_813 xw_27 xw_814 hdV_yX3_sign ⟨Nat.le_of_ble_eq_true rfl, Nat.le_of_ble_eq_true rfl⟩ rfl (Nat.le_of_ble_eq_true rfl) ⟨Nat.le_refl _, Nat.le_refl _⟩ dX3_readNumber_51 (fun H locs hW => ?_)
            refine lv_bipush (v := 48) hx hb dX3_readNumber_54 (by decide) ?_
            refine lv_isub hx hb dX3_readNumber_56 ?_
            refine lv_iadd hx hb dX3_readNumber_57 ?_
            refine lv_istore_n (lv' := [(2, .int ((10 * na) + ((Fsign sn pa) - 48))), (0, .ref (xB X + xkey 11 2 0)), (1, .int (nI 3)), (3, .int (nI i))]) hx hb dX3_readNumber_58 rfl hl (by decide) rfl (fun ls hl => ?_)
            refine lv_aload_n hx hb dX3_readNumber_59 rfl (lv_at hl 1 rfl) ?_
            refine lv_dup hx hb dX3_readNumber_60 rfl ?_
            refine r_get hx hb hts hown hK hW (C := RX3) (T := TX3) (xF_mi2) inlX3 rfl (by decide) 3 (by decide) (by decide +kernel) xw_800 rfl (x := pa 3) rfl dX3_readNumber_61 ?_
            refine lv_iconst (v := 1) hx hb dX3_readNumber_64 (by decide) ?_
            refine lv_iadd hx hb dX3_readNumber_65 ?_
            refine r_put hx hb hts hown hK hW (C := RX3) (T := TX3) (xF_mi2) inlX3 tyX3 tyX3_ok nmX3 rfl (by decide) 3 (by decide) (by decide +kernel) xw_800 rfl rfl rfl rfl xMi2 dX3_readNumber_66 (fun H locs hW => ?_)
            refine lv_iinc (v := nI (i + 1)) (lv' := [(3, .int (nI (i + 1))), (2, .int ((10 * na) + ((Fsign sn pa) - 48))), (0, .ref (xB X + xkey 11 2 0)), (1, .int (nI 3))]) hx hb dX3_readNumber_69 hl (k := 3) rfl (nI_1 i) (by decide) rfl (fun ls hl => ?_)
            refine lv_goto (tgt := 31) hx hb dX3_readNumber_72 (by decide) ?_
            refine ih_31 (i + 1) (va_up pa 3 ((pa 3) + 1)) ((10 * na) + ((Fsign sn pa) - 48)) (by omega) hp9 ?_ H locs ls hW (lv_sub hl [2, 3, 1, 0] rfl)
            rw [← hsp_31]; simp [Fnum, Pinc, c_1, c_2, c_5, c_6]
      exact loop_31 3 0 pf 0 (by omega) hp rfl _ _ _ hW (lv_sub hl [3, 2, 1, 0] rfl)
    · skip
      refine lv_iconst (v := nI 1) hx hb dX3_readNumber_21 (by decide) ?_
      refine lv_goto (tgt := 26) hx hb dX3_readNumber_22 (by decide) ?_
      refine lv_istore_n (lv' := [(1, .int (nI 1)), (0, .ref (xB X + xkey 11 2 0))]) hx hb dX3_readNumber_26 rfl hl (by decide) rfl (fun ls hl => ?_)
      refine lv_iconst (v := 0) hx hb dX3_readNumber_27 (by decide) ?_
      refine lv_istore_n (lv' := [(2, .int 0), (1, .int (nI 1)), (0, .ref (xB X + xkey 11 2 0))]) hx hb dX3_readNumber_28 rfl hl (by decide) rfl (fun ls hl => ?_)
      refine lv_iconst (v := nI 0) hx hb dX3_readNumber_29 (by decide) ?_
      refine lv_istore_n (lv' := [(3, .int (nI 0)), (2, .int 0), (1, .int (nI 1)), (0, .ref (xB X + xkey 11 2 0))]) hx hb dX3_readNumber_30 rfl hl (by decide) rfl (fun ls hl => ?_)
      have loop_31 : ∀ (k_31 i : Nat) (pa : Nat → Int32) (na : Int32), i + k_31 = 1 → Pok pa → Fnum sn k_31 (pa, na) = Fnum sn 1 (pf, 0) → ∀ (H : Heap) (locs : List Loc) (ls : Array Slot), XR X G 11 (xMi sv hs pa sn nb) H locs → lv_has ls 4 [(0, .ref (xB X + xkey 11 2 0)), (1, .int (nI 1)), (2, .int na), (3, .int (nI i))] → W p l e { frames := 1, cells := 0, slots := 0, locals := 21 } s m args below meth c H locs 0 0 Q0 (F0 m 31 ls []) := by
        intro k_31
        induction k_31 with
        | zero =>
          intro i pa na hik_31 hv0_31 hsp_31 H locs ls hW hl
          refine lv_iload_n hx hb dX3_readNumber_31 rfl (lv_at hl 3 rfl) ?_
          refine lv_iload_n hx hb dX3_readNumber_32 rfl (lv_at hl 1 rfl) ?_
          refine lv_icmp_ge (tgt := 75) hx hb dX3_readNumber_33 (by decide) (fun c_8 => ?_) (fun c_8 => absurd (xge_refl (by omega)) c_8)
          have hex : (pa, na) = Fnum sn 1 (pf, 0) := by rw [← hsp_31]; simp [Fnum, c_1, c_2, c_8]
          refine lv_aload_n hx hb dX3_readNumber_75 rfl (lv_at hl 0 rfl) ?_
          refine lv_iload_n hx hb dX3_readNumber_76 rfl (lv_at hl 2 rfl) ?_
          refine x_callV hx hb hml hown hts hK hW hl.1 (c_X3_keepNumber l X G (v := na) (hp := hv0_31) (ho0 := rfl) (ho1 := rfl)) (xF_mi2).1 (xF_mi2).2.1 (by decide) rfl xw_826 xw_827 xw_828 xw_27 xw_829 hdV_yX3_keepNumber ⟨Nat.le_of_ble_eq_true rfl, Nat.le_of_ble_eq_true rfl⟩ rfl (Nat.le_of_ble_eq_true rfl) ⟨Nat.le_refl _, Nat.le_refl _⟩ dX3_readNumber_77 (fun H locs hW => ?_)
          have hW : XR X G 11 (xMi sv hs (Pcap pa) sn (Ncap na pa nb)) H locs := hW
          have hp_9 : Pok (Pcap pa) := Pok_cap hv0_31
          refine lv_iconst (v := 1) hx hb dX3_readNumber_80 (by decide) ?_
          obtain rfl : (Pcap pa) = pf' := by (rw [← ho0]) <;> (simp [Frn, Kcap, c_1, c_2, c_8, ← hex, (by decide : ¬ Fdig 48 = 0)])
          obtain rfl : (Ncap na pa nb) = nb' := by (rw [← ho1]) <;> (simp [Frn, Kcap, c_1, c_2, c_8, ← hex, (by decide : ¬ Fdig 48 = 0)])
          obtain rfl : 1 = res := by (rw [← hres]) <;> (simp [Frn, Kcap, c_1, c_2, c_8, ← hex, (by decide : ¬ Fdig 48 = 0)])
          rw [hQ0]
          exact x_iret hx hb hret hlocks rfl hW rfl dX3_readNumber_81
        | succ k_31 ih_31 =>
          intro i pa na hik_31 hv0_31 hsp_31 H locs ls hW hl
          refine lv_iload_n hx hb dX3_readNumber_31 rfl (lv_at hl 3 rfl) ?_
          refine lv_iload_n hx hb dX3_readNumber_32 rfl (lv_at hl 1 rfl) ?_
          refine lv_icmp_ge (tgt := 75) hx hb dX3_readNumber_33 (by decide) (fun c_10 => absurd c_10 (nI_ge (by omega) (by omega))) (fun c_10 => ?_)
          refine lv_aload_n hx hb dX3_readNumber_36 rfl (lv_at hl 0 rfl) ?_
          refine x_callV hx hb hml hown hts hK hW hl.1 (c_X3_sign l X G  (hp := hv0_31) (hc := (by assumption)) (hres := rfl)) (xF_mi2).1 (xF_mi2).2.1 (by decide) rfl xw_811 xw_812 xw_813 xw_27 xw_814 hdV_yX3_sign ⟨Nat.le_of_ble_eq_true rfl, Nat.le_of_ble_eq_true rfl⟩ rfl (Nat.le_of_ble_eq_true rfl) ⟨Nat.le_refl _, Nat.le_refl _⟩ dX3_readNumber_37 (fun H locs hW => ?_)
          refine x_callS hx hb hml hown hts hK hW hl.1 (c_X3_isDigit l X _ (c0 := Fsign sn pa) (hres := rfl)) xw_823 xw_824 xw_27 xw_825 hdS_yX3_isDigit ⟨Nat.le_of_ble_eq_true rfl, Nat.le_of_ble_eq_true rfl⟩ rfl (Nat.le_of_ble_eq_true rfl) ⟨Nat.le_refl _, Nat.le_refl _⟩ dX3_readNumber_40 (fun H locs hW => ?_)
          refine lv_if_eq (tgt := 75) hx hb dX3_readNumber_43 (by decide) (fun c_11 => ?_) (fun c_11 => ?_)
          · skip
            have hex : (pa, na) = Fnum sn 1 (pf, 0) := by rw [← hsp_31]; simp [Fnum, c_1, c_2, c_10, c_11]
            refine lv_aload_n hx hb dX3_readNumber_75 rfl (lv_at hl 0 rfl) ?_
            refine lv_iload_n hx hb dX3_readNumber_76 rfl (lv_at hl 2 rfl) ?_
            refine x_callV hx hb hml hown hts hK hW hl.1 (c_X3_keepNumber l X G (v := na) (hp := hv0_31) (ho0 := rfl) (ho1 := rfl)) (xF_mi2).1 (xF_mi2).2.1 (by decide) rfl xw_826 xw_827 xw_828 xw_27 xw_829 hdV_yX3_keepNumber ⟨Nat.le_of_ble_eq_true rfl, Nat.le_of_ble_eq_true rfl⟩ rfl (Nat.le_of_ble_eq_true rfl) ⟨Nat.le_refl _, Nat.le_refl _⟩ dX3_readNumber_77 (fun H locs hW => ?_)
            have hW : XR X G 11 (xMi sv hs (Pcap pa) sn (Ncap na pa nb)) H locs := hW
            have hp_12 : Pok (Pcap pa) := Pok_cap hv0_31
            refine lv_iconst (v := 1) hx hb dX3_readNumber_80 (by decide) ?_
            obtain rfl : (Pcap pa) = pf' := by (rw [← ho0]) <;> (simp [Frn, Kcap, c_1, c_2, c_10, c_11, ← hex, (by decide : ¬ Fdig 48 = 0)])
            obtain rfl : (Ncap na pa nb) = nb' := by (rw [← ho1]) <;> (simp [Frn, Kcap, c_1, c_2, c_10, c_11, ← hex, (by decide : ¬ Fdig 48 = 0)])
            obtain rfl : 1 = res := by (rw [← hres]) <;> (simp [Frn, Kcap, c_1, c_2, c_10, c_11, ← hex, (by decide : ¬ Fdig 48 = 0)])
            rw [hQ0]
            exact x_iret hx hb hret hlocks rfl hW rfl dX3_readNumber_81
          · skip
            have hp9 : Pok (va_up pa 3 ((pa 3) + 1)) := Pok_inc hv0_31 (Fdig_ne c_11)
            refine lv_bipush (v := 10) hx hb dX3_readNumber_46 (by decide) ?_
            refine lv_iload_n hx hb dX3_readNumber_48 rfl (lv_at hl 2 rfl) ?_
            refine lv_imul hx hb dX3_readNumber_49 ?_
            refine lv_aload_n hx hb dX3_readNumber_50 rfl (lv_at hl 0 rfl) ?_
            refine x_callV hx hb hml hown hts hK hW hl.1 (c_X3_sign l X G  (hp := hv0_31) (hc := (by assumption)) (hres := rfl)) (xF_mi2).1 (xF_mi2).2.1 (by decide) rfl xw_811 xw_812 xw_813 xw_27 xw_814 hdV_yX3_sign ⟨Nat.le_of_ble_eq_true rfl, Nat.le_of_ble_eq_true rfl⟩ rfl (Nat.le_of_ble_eq_true rfl) ⟨Nat.le_refl _, Nat.le_refl _⟩ dX3_readNumber_51 (fun H locs hW => ?_)
            refine lv_bipush (v := 48) hx hb dX3_readNumber_54 (by decide) ?_
            refine lv_isub hx hb dX3_readNumber_56 ?_
            refine lv_iadd hx hb dX3_readNumber_57 ?_
            refine lv_istore_n (lv' := [(2, .int ((10 * na) + ((Fsign sn pa) - 48))), (0, .ref (xB X + xkey 11 2 0)), (1, .int (nI 1)), (3, .int (nI i))]) hx hb dX3_readNumber_58 rfl hl (by decide) rfl (fun ls hl => ?_)
            refine lv_aload_n hx hb dX3_readNumber_59 rfl (lv_at hl 1 rfl) ?_
            refine lv_dup hx hb dX3_readNumber_60 rfl ?_
            refine r_get hx hb hts hown hK hW (C := RX3) (T := TX3) (xF_mi2) inlX3 rfl (by decide) 3 (by decide) (by decide +kernel) xw_800 rfl (x := pa 3) rfl dX3_readNumber_61 ?_
            refine lv_iconst (v := 1) hx hb dX3_readNumber_64 (by decide) ?_
            refine lv_iadd hx hb dX3_readNumber_65 ?_
            refine r_put hx hb hts hown hK hW (C := RX3) (T := TX3) (xF_mi2) inlX3 tyX3 tyX3_ok nmX3 rfl (by decide) 3 (by decide) (by decide +kernel) xw_800 rfl rfl rfl rfl xMi2 dX3_readNumber_66 (fun H locs hW => ?_)
            refine lv_iinc (v := nI (i + 1)) (lv' := [(3, .int (nI (i + 1))), (2, .int ((10 * na) + ((Fsign sn pa) - 48))), (0, .ref (xB X + xkey 11 2 0)), (1, .int (nI 1))]) hx hb dX3_readNumber_69 hl (k := 3) rfl (nI_1 i) (by decide) rfl (fun ls hl => ?_)
            refine lv_goto (tgt := 31) hx hb dX3_readNumber_72 (by decide) ?_
            refine ih_31 (i + 1) (va_up pa 3 ((pa 3) + 1)) ((10 * na) + ((Fsign sn pa) - 48)) (by omega) hp9 ?_ H locs ls hW (lv_sub hl [2, 3, 1, 0] rfl)
            rw [← hsp_31]; simp [Fnum, Pinc, c_1, c_2, c_10, c_11]
      exact loop_31 1 0 pf 0 (by omega) hp rfl _ _ _ hW (lv_sub hl [3, 2, 1, 0] rfl)
  · skip
    refine lv_iconst (v := 0) hx hb dX3_readNumber_10 (by decide) ?_
    obtain rfl : pf = pf' := by (rw [← ho0]) <;> (simp [Frn, Kcap, c_1])
    obtain rfl : nb = nb' := by (rw [← ho1]) <;> (simp [Frn, Kcap, c_1])
    obtain rfl : 0 = res := by (rw [← hres]) <;> (simp [Frn, Kcap, c_1])
    rw [hQ0]
    exact x_iret hx hb hret hlocks rfl hW rfl dX3_readNumber_11
set_option maxHeartbeats 4000000 in
set_option maxRecDepth 100000 in
theorem c_X3_readMode (l : Launch) (X : xX) (G : xG) {sv hs pf sn nb : Nat → Int32}  (hp : Pok pf) (hc : Cok sn) {pf' : Nat → Int32} (ho0 : ((Frm sn (pf, nb)).1.1) = pf') {nb' : Nat → Int32} (ho1 : ((Frm sn (pf, nb)).1.2) = nb') {res : Int32} (hres : ((Frm sn (pf, nb)).2) = res) : XC l yX3_readMode cX3_readMode 2 (some .boolean) 1 21 0 0 X xsh [.ref (xB X + xkey 11 2 0)] 603 603 (xval (xB X) (va_up G 11 (xMi sv hs pf sn nb))) (xval (xB X) (va_up G 11 (xMi sv hs pf' sn nb'))) (some (.int res)) := by
  refine XC.of RX3 "readMode" [(0, .ref (xB X + xkey 11 2 0))] (by decide) rfl rfl (Nat.le_of_ble_eq_true rfl) rfl ?_
  intro p e s m args below meth c ls hx hb hret hml hts hown hlocks hnm hK hW hl
  have hW : XR X G 11 (xMi sv hs pf sn nb) s.heap [] := hW
  obtain ⟨Q0, hQ0⟩ : ∃ z, z = MQ below (xQ X xsh 603 (xval (xB X) (va_up G 11 (xMi sv hs pf' sn nb'))) (some (.int res))) args s 0 0 (fun q => xB X ≤ q) := ⟨_, rfl⟩
  rw [← hQ0]
  refine lv_aload_n hx hb dX3_readMode_0 rfl (lv_at hl 0 rfl) ?_
  refine x_callV hx hb hml hown hts hK hW hl.1 (c_X3_sign l X G  (hp := hp) (hc := (by assumption)) (hres := rfl)) (xF_mi2).1 (xF_mi2).2.1 (by decide) rfl xw_811 xw_812 xw_813 xw_27 xw_814 hdV_yX3_sign ⟨Nat.le_of_ble_eq_true rfl, Nat.le_of_ble_eq_true rfl⟩ rfl (Nat.le_of_ble_eq_true rfl) ⟨Nat.le_refl _, Nat.le_refl _⟩ dX3_readMode_1 (fun H locs hW => ?_)
  refine lv_istore_n (lv' := [(1, .int (Fsign sn pf)), (0, .ref (xB X + xkey 11 2 0))]) hx hb dX3_readMode_4 rfl hl (by decide) rfl (fun ls hl => ?_)
  refine lv_iload_n hx hb dX3_readMode_5 rfl (lv_at hl 0 rfl) ?_
  refine lv_bipush (v := 48) hx hb dX3_readMode_6 (by decide) ?_
  refine lv_icmp_lt (tgt := 17) hx hb dX3_readMode_8 (by decide) (fun c_1 => ?_) (fun c_1 => ?_)
  · skip
    refine lv_iconst (v := 0) hx hb dX3_readMode_17 (by decide) ?_
    obtain rfl : pf = pf' := by (rw [← ho0]) <;> (simp [Frm, Pinc, c_1, Int32.not_le.mpr c_1])
    obtain rfl : nb = nb' := by (rw [← ho1]) <;> (simp [Frm, Pinc, c_1, Int32.not_le.mpr c_1])
    obtain rfl : 0 = res := by (rw [← hres]) <;> (simp [Frm, Pinc, c_1, Int32.not_le.mpr c_1])
    rw [hQ0]
    exact x_iret hx hb hret hlocks rfl hW rfl dX3_readMode_18
  · skip
    refine lv_iload_n hx hb dX3_readMode_11 rfl (lv_at hl 0 rfl) ?_
    refine lv_bipush (v := 50) hx hb dX3_readMode_12 (by decide) ?_
    refine lv_icmp_le (tgt := 19) hx hb dX3_readMode_14 (by decide) (fun c_2 => ?_) (fun c_2 => ?_)
    · skip
      refine lv_aload_n hx hb dX3_readMode_19 rfl (lv_at hl 1 rfl) ?_
      refine lv_iload_n hx hb dX3_readMode_20 rfl (lv_at hl 0 rfl) ?_
      refine lv_bipush (v := 48) hx hb dX3_readMode_21 (by decide) ?_
      refine lv_isub hx hb dX3_readMode_23 ?_
      refine x_callV hx hb hml hown hts hK hW hl.1 (c_X3_keepNumber l X G (v := (Fsign sn pf) - 48) (hp := hp) (ho0 := rfl) (ho1 := rfl)) (xF_mi2).1 (xF_mi2).2.1 (by decide) rfl xw_826 xw_827 xw_828 xw_27 xw_829 hdV_yX3_keepNumber ⟨Nat.le_of_ble_eq_true rfl, Nat.le_of_ble_eq_true rfl⟩ rfl (Nat.le_of_ble_eq_true rfl) ⟨Nat.le_refl _, Nat.le_refl _⟩ dX3_readMode_24 (fun H locs hW => ?_)
      have hW : XR X G 11 (xMi sv hs (Pcap pf) sn (Ncap ((Fsign sn pf) - 48) pf nb)) H locs := hW
      have hp_3 : Pok (Pcap pf) := Pok_cap hp
      refine lv_aload_n hx hb dX3_readMode_27 rfl (lv_at hl 1 rfl) ?_
      refine lv_dup hx hb dX3_readMode_28 rfl ?_
      refine r_get hx hb hts hown hK hW (C := RX3) (T := TX3) (xF_mi2) inlX3 rfl (by decide) 3 (by decide) (by decide +kernel) xw_800 rfl (x := (Pcap pf) 3) rfl dX3_readMode_29 ?_
      refine lv_iconst (v := 1) hx hb dX3_readMode_32 (by decide) ?_
      refine lv_iadd hx hb dX3_readMode_33 ?_
      refine r_put hx hb hts hown hK hW (C := RX3) (T := TX3) (xF_mi2) inlX3 tyX3 tyX3_ok nmX3 rfl (by decide) 3 (by decide) (by decide +kernel) xw_800 rfl rfl rfl rfl xMi2 dX3_readMode_34 (fun H locs hW => ?_)
      refine lv_iconst (v := 1) hx hb dX3_readMode_37 (by decide) ?_
      obtain rfl : (va_up (Pcap pf) 3 (((Pcap pf) 3) + 1)) = pf' := by (rw [← ho0]) <;> (simp [Frm, Pinc, c_1, Int32.not_lt.mp c_1, c_2, Int32.not_lt.mpr c_2])
      obtain rfl : (Ncap ((Fsign sn pf) - 48) pf nb) = nb' := by (rw [← ho1]) <;> (simp [Frm, Pinc, c_1, Int32.not_lt.mp c_1, c_2, Int32.not_lt.mpr c_2])
      obtain rfl : 1 = res := by (rw [← hres]) <;> (simp [Frm, Pinc, c_1, Int32.not_lt.mp c_1, c_2, Int32.not_lt.mpr c_2])
      rw [hQ0]
      exact x_iret hx hb hret hlocks rfl hW rfl dX3_readMode_38
    · skip
      refine lv_iconst (v := 0) hx hb dX3_readMode_17 (by decide) ?_
      obtain rfl : pf = pf' := by (rw [← ho0]) <;> (simp [Frm, Pinc, c_1, Int32.not_lt.mp c_1, c_2, Int32.not_le.mp c_2])
      obtain rfl : nb = nb' := by (rw [← ho1]) <;> (simp [Frm, Pinc, c_1, Int32.not_lt.mp c_1, c_2, Int32.not_le.mp c_2])
      obtain rfl : 0 = res := by (rw [← hres]) <;> (simp [Frm, Pinc, c_1, Int32.not_lt.mp c_1, c_2, Int32.not_le.mp c_2])
      rw [hQ0]
      exact x_iret hx hb hret hlocks rfl hW rfl dX3_readMode_18
set_option maxHeartbeats 4000000 in
set_option maxRecDepth 100000 in
theorem c_X3_readGoals (l : Launch) (X : xX) (G : xG) {sv hs pf sn nb : Nat → Int32}  (hp : Pok pf) (hc : Cok sn) {pf' : Nat → Int32} (ho0 : ((Fgoals sn 80 (pf, nb)).1.1) = pf') {nb' : Nat → Int32} (ho1 : ((Fgoals sn 80 (pf, nb)).1.2) = nb') {res : Int32} (hres : ((Fgoals sn 80 (pf, nb)).2) = res) : XC l yX3_readGoals cX3_readGoals 2 (some .boolean) 2 44 0 0 X xsh [.ref (xB X + xkey 11 2 0)] 603 603 (xval (xB X) (va_up G 11 (xMi sv hs pf sn nb))) (xval (xB X) (va_up G 11 (xMi sv hs pf' sn nb'))) (some (.int res)) := by
  refine XC.of RX3 "readGoals" [(0, .ref (xB X + xkey 11 2 0))] (by decide) rfl rfl (Nat.le_of_ble_eq_true rfl) rfl ?_
  intro p e s m args below meth c ls hx hb hret hml hts hown hlocks hnm hK hW hl
  have hW : XR X G 11 (xMi sv hs pf sn nb) s.heap [] := hW
  obtain ⟨Q0, hQ0⟩ : ∃ z, z = MQ below (xQ X xsh 603 (xval (xB X) (va_up G 11 (xMi sv hs pf' sn nb'))) (some (.int res))) args s 0 0 (fun q => xB X ≤ q) := ⟨_, rfl⟩
  rw [← hQ0]
  refine lv_iconst (v := nI 0) hx hb dX3_readGoals_0 (by decide) ?_
  refine lv_istore_n (lv' := [(1, .int (nI 0)), (0, .ref (xB X + xkey 11 2 0))]) hx hb dX3_readGoals_1 rfl hl (by decide) rfl (fun ls hl => ?_)
  have loop_2 : ∀ (k_2 i : Nat) (pa : Nat → Int32) (ua : Nat → Int32), i + k_2 = 80 → Pok pa → Fgoals sn k_2 (pa, ua) = Fgoals sn 80 (pf, nb) → ∀ (H : Heap) (locs : List Loc) (ls : Array Slot), XR X G 11 (xMi sv hs pa sn ua) H locs → lv_has ls 2 [(0, .ref (xB X + xkey 11 2 0)), (1, .int (nI i))] → W p l e { frames := 2, cells := 0, slots := 0, locals := 44 } s m args below meth c H locs 0 0 Q0 (F0 m 2 ls []) := by
    intro k_2
    induction k_2 with
    | zero =>
      intro i pa ua hik_2 hv0_2 hsp_2 H locs ls hW hl
      refine lv_iload_n hx hb dX3_readGoals_2 rfl (lv_at hl 1 rfl) ?_
      refine lv_bipush (v := nI 80) hx hb dX3_readGoals_3 (by decide) ?_
      refine lv_icmp_ge (tgt := 77) hx hb dX3_readGoals_5 (by decide) (fun c_1 => ?_) (fun c_1 => absurd (xge_refl (by omega)) c_1)
      refine lv_iconst (v := 1) hx hb dX3_readGoals_77 (by decide) ?_
      obtain rfl : pa = pf' := by (rw [← ho0]) <;> (rw [← hsp_2]; simp [Fgoals, Fgoal1, Pand, Fone, Frs2, Kcap, Pinc, c_1])
      obtain rfl : ua = nb' := by (rw [← ho1]) <;> (rw [← hsp_2]; simp [Fgoals, Fgoal1, Pand, Fone, Frs2, Kcap, Pinc, c_1])
      obtain rfl : 1 = res := by (rw [← hres]) <;> (rw [← hsp_2]; simp [Fgoals, Fgoal1, Pand, Fone, Frs2, Kcap, Pinc, c_1])
      rw [hQ0]
      exact x_iret hx hb hret hlocks rfl hW rfl dX3_readGoals_78
    | succ k_2 ih_2 =>
      intro i pa ua hik_2 hv0_2 hsp_2 H locs ls hW hl
      refine lv_iload_n hx hb dX3_readGoals_2 rfl (lv_at hl 1 rfl) ?_
      refine lv_bipush (v := nI 80) hx hb dX3_readGoals_3 (by decide) ?_
      refine lv_icmp_ge (tgt := 77) hx hb dX3_readGoals_5 (by decide) (fun c_2 => absurd c_2 (nI_ge (by omega) (by omega))) (fun c_2 => ?_)
      refine lv_aload_n hx hb dX3_readGoals_8 rfl (lv_at hl 0 rfl) ?_
      refine x_callV hx hb hml hown hts hK hW hl.1 (c_X3_sign l X G  (hp := hv0_2) (hc := (by assumption)) (hres := rfl)) (xF_mi2).1 (xF_mi2).2.1 (by decide) rfl xw_811 xw_812 xw_813 xw_27 xw_814 hdV_yX3_sign ⟨Nat.le_of_ble_eq_true rfl, Nat.le_of_ble_eq_true rfl⟩ rfl (Nat.le_of_ble_eq_true rfl) ⟨Nat.le_refl _, Nat.le_refl _⟩ dX3_readGoals_9 (fun H locs hW => ?_)
      refine lv_bipush (v := 62) hx hb dX3_readGoals_12 (by decide) ?_
      refine lv_icmp_ne (tgt := 77) hx hb dX3_readGoals_14 (by decide) (fun c_3 => ?_) (fun c_3 => ?_)
      · skip
        refine lv_iconst (v := 1) hx hb dX3_readGoals_77 (by decide) ?_
        obtain rfl : pa = pf' := by (rw [← ho0]) <;> (rw [← hsp_2]; simp [Fgoals, Fgoal1, Pand, Fone, Frs2, Kcap, Pinc, c_2, c_3])
        obtain rfl : ua = nb' := by (rw [← ho1]) <;> (rw [← hsp_2]; simp [Fgoals, Fgoal1, Pand, Fone, Frs2, Kcap, Pinc, c_2, c_3])
        obtain rfl : 1 = res := by (rw [← hres]) <;> (rw [← hsp_2]; simp [Fgoals, Fgoal1, Pand, Fone, Frs2, Kcap, Pinc, c_2, c_3])
        rw [hQ0]
        exact x_iret hx hb hret hlocks rfl hW rfl dX3_readGoals_78
      · skip
        have hp9 : Pok (va_up pa 3 ((pa 3) + 1)) := Pok_inc hv0_2 (sn := sn) (by rw [c_3]; decide)
        refine lv_aload_n hx hb dX3_readGoals_17 rfl (lv_at hl 0 rfl) ?_
        refine lv_dup hx hb dX3_readGoals_18 rfl ?_
        refine r_get hx hb hts hown hK hW (C := RX3) (T := TX3) (xF_mi2) inlX3 rfl (by decide) 3 (by decide) (by decide +kernel) xw_800 rfl (x := pa 3) rfl dX3_readGoals_19 ?_
        refine lv_iconst (v := 1) hx hb dX3_readGoals_22 (by decide) ?_
        refine lv_iadd hx hb dX3_readGoals_23 ?_
        refine r_put hx hb hts hown hK hW (C := RX3) (T := TX3) (xF_mi2) inlX3 tyX3 tyX3_ok nmX3 rfl (by decide) 3 (by decide) (by decide +kernel) xw_800 rfl rfl rfl rfl xMi2 dX3_readGoals_24 (fun H locs hW => ?_)
        refine lv_aload_n hx hb dX3_readGoals_27 rfl (lv_at hl 0 rfl) ?_
        obtain ⟨q_4, eq_4⟩ : ∃ z, z = Frn sn ((va_up pa 3 ((pa 3) + 1)), ua) := ⟨_, rfl⟩
        refine x_callV hx hb hml hown hts hK hW hl.1 (c_X3_readNumber l X G  (hp := hp9) (hc := (by assumption)) (ho0 := (congrArg (fun z => z.1.1) eq_4.symm)) (ho1 := (congrArg (fun z => z.1.2) eq_4.symm)) (hres := (congrArg (fun z => z.2) eq_4.symm))) (xF_mi2).1 (xF_mi2).2.1 (by decide) rfl xw_819 xw_820 xw_821 xw_27 xw_822 hdV_yX3_readNumber ⟨Nat.le_of_ble_eq_true rfl, Nat.le_of_ble_eq_true rfl⟩ rfl (Nat.le_of_ble_eq_true rfl) ⟨Nat.le_refl _, Nat.le_refl _⟩ dX3_readGoals_28 (fun H locs hW => ?_)
        have hW : XR X G 11 (xMi sv hs q_4.1.1 sn q_4.1.2) H locs := hW
        have hp_5 : Pok q_4.1.1 := by rw [eq_4]; exact Pok_rn (q := ((va_up pa 3 ((pa 3) + 1)), ua)) hp9
        refine lv_if_ne (tgt := 36) hx hb dX3_readGoals_31 (by decide) (fun c_6 => ?_) (fun c_6 => ?_)
        · skip
          refine lv_aload_n hx hb dX3_readGoals_36 rfl (lv_at hl 0 rfl) ?_
          refine x_callV hx hb hml hown hts hK hW hl.1 (c_X3_sign l X G  (hp := hp_5) (hc := (by assumption)) (hres := rfl)) (xF_mi2).1 (xF_mi2).2.1 (by decide) rfl xw_811 xw_812 xw_813 xw_27 xw_814 hdV_yX3_sign ⟨Nat.le_of_ble_eq_true rfl, Nat.le_of_ble_eq_true rfl⟩ rfl (Nat.le_of_ble_eq_true rfl) ⟨Nat.le_refl _, Nat.le_refl _⟩ dX3_readGoals_37 (fun H locs hW => ?_)
          refine lv_bipush (v := 42) hx hb dX3_readGoals_40 (by decide) ?_
          refine lv_icmp_eq (tgt := 53) hx hb dX3_readGoals_42 (by decide) (fun c_7 => ?_) (fun c_7 => ?_)
          · skip
            refine lv_aload_n hx hb dX3_readGoals_53 rfl (lv_at hl 0 rfl) ?_
            refine lv_bipush (v := 42) hx hb dX3_readGoals_54 (by decide) ?_
            obtain ⟨q_8, eq_8⟩ : ∃ z, z = Frs 42 sn q_4.1.1 := ⟨_, rfl⟩
            refine x_callV hx hb hml hown hts hK hW hl.1 (c_X3_readSign l X G (w := 42) (hp := hp_5) (hc := (by assumption)) (ho0 := (congrArg (fun z => z.1) eq_8.symm)) (hres := (congrArg (fun z => z.2) eq_8.symm))) (xF_mi2).1 (xF_mi2).2.1 (by decide) rfl xw_815 xw_816 xw_817 xw_27 xw_818 hdV_yX3_readSign ⟨Nat.le_of_ble_eq_true rfl, Nat.le_of_ble_eq_true rfl⟩ rfl (Nat.le_of_ble_eq_true rfl) ⟨Nat.le_refl _, Nat.le_refl _⟩ dX3_readGoals_56 (fun H locs hW => ?_)
            have hW : XR X G 11 (xMi sv hs q_8.1 sn q_4.1.2) H locs := hW
            have hp_9 : Pok q_8.1 := by rw [eq_8]; exact Pok_rs hp_5 (by decide)
            refine lv_if_eq (tgt := 69) hx hb dX3_readGoals_59 (by decide) (fun c_10 => ?_) (fun c_10 => ?_)
            · skip
              refine lv_iconst (v := 0) hx hb dX3_readGoals_69 (by decide) ?_
              obtain rfl : q_8.1 = pf' := by (rw [← ho0]) <;> (rw [← hsp_2]; simp [Fgoals, Fgoal1, Pand, Fone, Frs2, Kcap, Pinc, c_2, c_3, ← eq_4, c_6, c_7, ← eq_8, c_10])
              obtain rfl : q_4.1.2 = nb' := by (rw [← ho1]) <;> (rw [← hsp_2]; simp [Fgoals, Fgoal1, Pand, Fone, Frs2, Kcap, Pinc, c_2, c_3, ← eq_4, c_6, c_7, ← eq_8, c_10])
              obtain rfl : 0 = res := by (rw [← hres]) <;> (rw [← hsp_2]; simp [Fgoals, Fgoal1, Pand, Fone, Frs2, Kcap, Pinc, c_2, c_3, ← eq_4, c_6, c_7, ← eq_8, c_10])
              rw [hQ0]
              exact x_iret hx hb hret hlocks rfl hW rfl dX3_readGoals_70
            · skip
              refine lv_aload_n hx hb dX3_readGoals_62 rfl (lv_at hl 0 rfl) ?_
              obtain ⟨q_11, eq_11⟩ : ∃ z, z = Frn sn (q_8.1, q_4.1.2) := ⟨_, rfl⟩
              refine x_callV hx hb hml hown hts hK hW hl.1 (c_X3_readNumber l X G  (hp := hp_9) (hc := (by assumption)) (ho0 := (congrArg (fun z => z.1.1) eq_11.symm)) (ho1 := (congrArg (fun z => z.1.2) eq_11.symm)) (hres := (congrArg (fun z => z.2) eq_11.symm))) (xF_mi2).1 (xF_mi2).2.1 (by decide) rfl xw_819 xw_820 xw_821 xw_27 xw_822 hdV_yX3_readNumber ⟨Nat.le_of_ble_eq_true rfl, Nat.le_of_ble_eq_true rfl⟩ rfl (Nat.le_of_ble_eq_true rfl) ⟨Nat.le_refl _, Nat.le_refl _⟩ dX3_readGoals_63 (fun H locs hW => ?_)
              have hW : XR X G 11 (xMi sv hs q_11.1.1 sn q_11.1.2) H locs := hW
              have hp_12 : Pok q_11.1.1 := by rw [eq_11]; exact Pok_rn (q := (q_8.1, q_4.1.2)) hp_9
              refine lv_if_ne (tgt := 71) hx hb dX3_readGoals_66 (by decide) (fun c_13 => ?_) (fun c_13 => ?_)
              · skip
                refine lv_iinc (v := nI (i + 1)) (lv' := [(1, .int (nI (i + 1))), (0, .ref (xB X + xkey 11 2 0))]) hx hb dX3_readGoals_71 hl (k := 1) rfl (nI_1 i) (by decide) rfl (fun ls hl => ?_)
                refine lv_goto (tgt := 2) hx hb dX3_readGoals_74 (by decide) ?_
                refine ih_2 (i + 1) q_11.1.1 q_11.1.2 (by omega) hp_12 ?_ H locs ls hW (lv_sub hl [1, 0] rfl)
                rw [← hsp_2]; simp [xloop, xfind, Fgoals, Fgoal1, Pand, Fone, Frs2, Kcap, Pinc, Fgoals, c_2, c_3, ← eq_4, c_6, c_7, ← eq_8, c_10, ← eq_11, c_13]
              · skip
                refine lv_iconst (v := 0) hx hb dX3_readGoals_69 (by decide) ?_
                obtain rfl : q_11.1.1 = pf' := by (rw [← ho0]) <;> (rw [← hsp_2]; simp [Fgoals, Fgoal1, Pand, Fone, Frs2, Kcap, Pinc, c_2, c_3, ← eq_4, c_6, c_7, ← eq_8, c_10, ← eq_11, c_13])
                obtain rfl : q_11.1.2 = nb' := by (rw [← ho1]) <;> (rw [← hsp_2]; simp [Fgoals, Fgoal1, Pand, Fone, Frs2, Kcap, Pinc, c_2, c_3, ← eq_4, c_6, c_7, ← eq_8, c_10, ← eq_11, c_13])
                obtain rfl : 0 = res := by (rw [← hres]) <;> (rw [← hsp_2]; simp [Fgoals, Fgoal1, Pand, Fone, Frs2, Kcap, Pinc, c_2, c_3, ← eq_4, c_6, c_7, ← eq_8, c_10, ← eq_11, c_13])
                rw [hQ0]
                exact x_iret hx hb hret hlocks rfl hW rfl dX3_readGoals_70
          · skip
            refine lv_aload_n hx hb dX3_readGoals_45 rfl (lv_at hl 0 rfl) ?_
            refine lv_iconst (v := 0) hx hb dX3_readGoals_46 (by decide) ?_
            refine x_callV hx hb hml hown hts hK hW hl.1 (c_X3_keepNumber l X G (v := 0) (hp := hp_5) (ho0 := rfl) (ho1 := rfl)) (xF_mi2).1 (xF_mi2).2.1 (by decide) rfl xw_826 xw_827 xw_828 xw_27 xw_829 hdV_yX3_keepNumber ⟨Nat.le_of_ble_eq_true rfl, Nat.le_of_ble_eq_true rfl⟩ rfl (Nat.le_of_ble_eq_true rfl) ⟨Nat.le_refl _, Nat.le_refl _⟩ dX3_readGoals_47 (fun H locs hW => ?_)
            have hW : XR X G 11 (xMi sv hs (Pcap q_4.1.1) sn (Ncap 0 q_4.1.1 q_4.1.2)) H locs := hW
            have hp_14 : Pok (Pcap q_4.1.1) := Pok_cap hp_5
            refine lv_goto (tgt := 71) hx hb dX3_readGoals_50 (by decide) ?_
            refine lv_iinc (v := nI (i + 1)) (lv' := [(1, .int (nI (i + 1))), (0, .ref (xB X + xkey 11 2 0))]) hx hb dX3_readGoals_71 hl (k := 1) rfl (nI_1 i) (by decide) rfl (fun ls hl => ?_)
            refine lv_goto (tgt := 2) hx hb dX3_readGoals_74 (by decide) ?_
            refine ih_2 (i + 1) (Pcap q_4.1.1) (Ncap 0 q_4.1.1 q_4.1.2) (by omega) hp_14 ?_ H locs ls hW (lv_sub hl [1, 0] rfl)
            rw [← hsp_2]; simp [xloop, xfind, Fgoals, Fgoal1, Pand, Fone, Frs2, Kcap, Pinc, Fgoals, c_2, c_3, ← eq_4, c_6, c_7]
        · skip
          refine lv_iconst (v := 0) hx hb dX3_readGoals_34 (by decide) ?_
          obtain rfl : q_4.1.1 = pf' := by (rw [← ho0]) <;> (rw [← hsp_2]; simp [Fgoals, Fgoal1, Pand, Fone, Frs2, Kcap, Pinc, c_2, c_3, ← eq_4, c_6])
          obtain rfl : q_4.1.2 = nb' := by (rw [← ho1]) <;> (rw [← hsp_2]; simp [Fgoals, Fgoal1, Pand, Fone, Frs2, Kcap, Pinc, c_2, c_3, ← eq_4, c_6])
          obtain rfl : 0 = res := by (rw [← hres]) <;> (rw [← hsp_2]; simp [Fgoals, Fgoal1, Pand, Fone, Frs2, Kcap, Pinc, c_2, c_3, ← eq_4, c_6])
          rw [hQ0]
          exact x_iret hx hb hret hlocks rfl hW rfl dX3_readGoals_35
  exact loop_2 80 0 pf nb (by omega) hp rfl _ _ _ hW (lv_sub hl [1, 0] rfl)
set_option maxHeartbeats 4000000 in
set_option maxRecDepth 100000 in
theorem c_X3_readOrder (l : Launch) (X : xX) (G : xG) {sv hs pf sn nb : Nat → Int32}  (hp : Pok pf) (hc : Cok sn) {pf' : Nat → Int32} (ho0 : ((Fro sn (pf, nb)).1.1) = pf') {nb' : Nat → Int32} (ho1 : ((Fro sn (pf, nb)).1.2) = nb') {res : Int32} (hres : ((Fro sn (pf, nb)).2) = res) : XC l yX3_readOrder cX3_readOrder 1 (some .boolean) 3 65 0 0 X xsh [.ref (xB X + xkey 11 2 0)] 603 603 (xval (xB X) (va_up G 11 (xMi sv hs pf sn nb))) (xval (xB X) (va_up G 11 (xMi sv hs pf' sn nb'))) (some (.int res)) := by
  refine XC.of RX3 "readOrder" [(0, .ref (xB X + xkey 11 2 0))] (by decide) rfl rfl (Nat.le_of_ble_eq_true rfl) rfl ?_
  intro p e s m args below meth c ls hx hb hret hml hts hown hlocks hnm hK hW hl
  have hW : XR X G 11 (xMi sv hs pf sn nb) s.heap [] := hW
  obtain ⟨Q0, hQ0⟩ : ∃ z, z = MQ below (xQ X xsh 603 (xval (xB X) (va_up G 11 (xMi sv hs pf' sn nb'))) (some (.int res))) args s 0 0 (fun q => xB X ≤ q) := ⟨_, rfl⟩
  rw [← hQ0]
  refine lv_aload_n hx hb dX3_readOrder_0 rfl (lv_at hl 0 rfl) ?_
  refine lv_iconst (v := 0) hx hb dX3_readOrder_1 (by decide) ?_
  refine r_put hx hb hts hown hK hW (C := RX3) (T := TX3) (xF_mi2) inlX3 tyX3 tyX3_ok nmX3 rfl (by decide) 4 (by decide) (by decide +kernel) xw_809 rfl rfl rfl rfl xMi2 dX3_readOrder_2 (fun H locs hW => ?_)
  have hp7 : Pok (va_up pf 4 0) := Pok_4 hp
  refine lv_aload_n hx hb dX3_readOrder_5 rfl (lv_at hl 0 rfl) ?_
  refine lv_aload_n hx hb dX3_readOrder_6 rfl (lv_at hl 0 rfl) ?_
  refine x_callV hx hb hml hown hts hK hW hl.1 (c_X3_sign l X G  (hp := hp7) (hc := (by assumption)) (hres := rfl)) (xF_mi2).1 (xF_mi2).2.1 (by decide) rfl xw_811 xw_812 xw_813 xw_27 xw_814 hdV_yX3_sign ⟨Nat.le_of_ble_eq_true rfl, Nat.le_of_ble_eq_true rfl⟩ rfl (Nat.le_of_ble_eq_true rfl) ⟨Nat.le_refl _, Nat.le_refl _⟩ dX3_readOrder_7 (fun H locs hW => ?_)
  refine lv_eqi (y := Fsign sn pf) rfl ?_
  refine r_put hx hb hts hown hK hW (C := RX3) (T := TX3) (xF_mi2) inlX3 tyX3 tyX3_ok nmX3 rfl (by decide) 5 (by decide) (by decide +kernel) xw_810 rfl rfl rfl rfl xMi2 dX3_readOrder_10 (fun H locs hW => ?_)
  have hp8 : Pok (va_up (va_up pf 4 0) 5 (Fsign sn pf)) := Pok_0 hp _
  refine lv_aload_n hx hb dX3_readOrder_13 rfl (lv_at hl 0 rfl) ?_
  refine r_get hx hb hts hown hK hW (C := RX3) (T := TX3) (xF_mi2) inlX3 rfl (by decide) 5 (by decide) (by decide +kernel) xw_810 rfl (x := Fsign sn pf) rfl dX3_readOrder_14 ?_
  by_cases c_1 : Fsign sn pf = 99
  · skip
    refine lv_lookup (off := 88) (tgt := 105) hx hb dX3_readOrder_17 (by decide) (by rw [c_1]; decide) (by decide) ?_
    refine lv_aload_n hx hb dX3_readOrder_105 rfl (lv_at hl 0 rfl) ?_
    refine lv_bipush (v := 99) hx hb dX3_readOrder_106 (by decide) ?_
    obtain ⟨q_2, eq_2⟩ : ∃ z, z = Frs 99 sn (va_up (va_up pf 4 0) 5 (Fsign sn pf)) := ⟨_, rfl⟩
    refine x_callV hx hb hml hown hts hK hW hl.1 (c_X3_readSign l X G (w := 99) (hp := hp8) (hc := (by assumption)) (ho0 := (congrArg (fun z => z.1) eq_2.symm)) (hres := (congrArg (fun z => z.2) eq_2.symm))) (xF_mi2).1 (xF_mi2).2.1 (by decide) rfl xw_815 xw_816 xw_817 xw_27 xw_818 hdV_yX3_readSign ⟨Nat.le_of_ble_eq_true rfl, Nat.le_of_ble_eq_true rfl⟩ rfl (Nat.le_of_ble_eq_true rfl) ⟨Nat.le_refl _, Nat.le_refl _⟩ dX3_readOrder_108 (fun H locs hW => ?_)
    have hW : XR X G 11 (xMi sv hs q_2.1 sn nb) H locs := hW
    have hp_3 : Pok q_2.1 := by rw [eq_2]; exact Pok_rs hp8 (by decide)
    refine lv_if_eq (tgt := 125) hx hb dX3_readOrder_111 (by decide) (fun c_4 => ?_) (fun c_4 => ?_)
    · skip
      refine lv_iconst (v := 0) hx hb dX3_readOrder_125 (by decide) ?_
      obtain rfl : q_2.1 = pf' := by (rw [← ho0]) <;> (simp only [Fro]; (rw [if_pos c_1]) <;> simp [Pand, Fone, Frs2, Kcap, Pinc, ← eq_2, c_4])
      obtain rfl : nb = nb' := by (rw [← ho1]) <;> (simp only [Fro]; (rw [if_pos c_1]) <;> simp [Pand, Fone, Frs2, Kcap, Pinc, ← eq_2, c_4])
      obtain rfl : 0 = res := by (rw [← hres]) <;> (simp only [Fro]; (rw [if_pos c_1]) <;> simp [Pand, Fone, Frs2, Kcap, Pinc, ← eq_2, c_4])
      rw [hQ0]
      exact x_iret hx hb hret hlocks rfl hW rfl dX3_readOrder_126
    · skip
      refine lv_aload_n hx hb dX3_readOrder_114 rfl (lv_at hl 0 rfl) ?_
      obtain ⟨q_5, eq_5⟩ : ∃ z, z = Frn sn (q_2.1, nb) := ⟨_, rfl⟩
      refine x_callV hx hb hml hown hts hK hW hl.1 (c_X3_readNumber l X G  (hp := hp_3) (hc := (by assumption)) (ho0 := (congrArg (fun z => z.1.1) eq_5.symm)) (ho1 := (congrArg (fun z => z.1.2) eq_5.symm)) (hres := (congrArg (fun z => z.2) eq_5.symm))) (xF_mi2).1 (xF_mi2).2.1 (by decide) rfl xw_819 xw_820 xw_821 xw_27 xw_822 hdV_yX3_readNumber ⟨Nat.le_of_ble_eq_true rfl, Nat.le_of_ble_eq_true rfl⟩ rfl (Nat.le_of_ble_eq_true rfl) ⟨Nat.le_refl _, Nat.le_refl _⟩ dX3_readOrder_115 (fun H locs hW => ?_)
      have hW : XR X G 11 (xMi sv hs q_5.1.1 sn q_5.1.2) H locs := hW
      have hp_6 : Pok q_5.1.1 := by rw [eq_5]; exact Pok_rn (q := (q_2.1, nb)) hp_3
      refine lv_if_eq (tgt := 125) hx hb dX3_readOrder_118 (by decide) (fun c_7 => ?_) (fun c_7 => ?_)
      · skip
        refine lv_iconst (v := 0) hx hb dX3_readOrder_125 (by decide) ?_
        obtain rfl : q_5.1.1 = pf' := by (rw [← ho0]) <;> (simp only [Fro]; (rw [if_pos c_1]) <;> simp [Pand, Fone, Frs2, Kcap, Pinc, ← eq_2, c_4, ← eq_5, c_7])
        obtain rfl : q_5.1.2 = nb' := by (rw [← ho1]) <;> (simp only [Fro]; (rw [if_pos c_1]) <;> simp [Pand, Fone, Frs2, Kcap, Pinc, ← eq_2, c_4, ← eq_5, c_7])
        obtain rfl : 0 = res := by (rw [← hres]) <;> (simp only [Fro]; (rw [if_pos c_1]) <;> simp [Pand, Fone, Frs2, Kcap, Pinc, ← eq_2, c_4, ← eq_5, c_7])
        rw [hQ0]
        exact x_iret hx hb hret hlocks rfl hW rfl dX3_readOrder_126
      · skip
        refine lv_iconst (v := 1) hx hb dX3_readOrder_121 (by decide) ?_
        refine lv_goto (tgt := 126) hx hb dX3_readOrder_122 (by decide) ?_
        obtain rfl : q_5.1.1 = pf' := by (rw [← ho0]) <;> (simp only [Fro]; (rw [if_pos c_1]) <;> simp [Pand, Fone, Frs2, Kcap, Pinc, ← eq_2, c_4, ← eq_5, c_7])
        obtain rfl : q_5.1.2 = nb' := by (rw [← ho1]) <;> (simp only [Fro]; (rw [if_pos c_1]) <;> simp [Pand, Fone, Frs2, Kcap, Pinc, ← eq_2, c_4, ← eq_5, c_7])
        obtain rfl : 1 = res := by (rw [← hres]) <;> (simp only [Fro]; (rw [if_pos c_1]) <;> simp [Pand, Fone, Frs2, Kcap, Pinc, ← eq_2, c_4, ← eq_5, c_7])
        rw [hQ0]
        exact x_iret hx hb hret hlocks rfl hW rfl dX3_readOrder_126
  · skip
    by_cases c_8 : Fsign sn pf = 109
    · skip
      refine lv_lookup (off := 110) (tgt := 127) hx hb dX3_readOrder_17 (by decide) (by rw [c_8]; decide) (by decide) ?_
      refine lv_aload_n hx hb dX3_readOrder_127 rfl (lv_at hl 0 rfl) ?_
      refine lv_bipush (v := 109) hx hb dX3_readOrder_128 (by decide) ?_
      obtain ⟨q_9, eq_9⟩ : ∃ z, z = Frs 109 sn (va_up (va_up pf 4 0) 5 (Fsign sn pf)) := ⟨_, rfl⟩
      refine x_callV hx hb hml hown hts hK hW hl.1 (c_X3_readSign l X G (w := 109) (hp := hp8) (hc := (by assumption)) (ho0 := (congrArg (fun z => z.1) eq_9.symm)) (hres := (congrArg (fun z => z.2) eq_9.symm))) (xF_mi2).1 (xF_mi2).2.1 (by decide) rfl xw_815 xw_816 xw_817 xw_27 xw_818 hdV_yX3_readSign ⟨Nat.le_of_ble_eq_true rfl, Nat.le_of_ble_eq_true rfl⟩ rfl (Nat.le_of_ble_eq_true rfl) ⟨Nat.le_refl _, Nat.le_refl _⟩ dX3_readOrder_130 (fun H locs hW => ?_)
      have hW : XR X G 11 (xMi sv hs q_9.1 sn nb) H locs := hW
      have hp_10 : Pok q_9.1 := by rw [eq_9]; exact Pok_rs hp8 (by decide)
      refine lv_if_eq (tgt := 163) hx hb dX3_readOrder_133 (by decide) (fun c_11 => ?_) (fun c_11 => ?_)
      · skip
        refine lv_iconst (v := 0) hx hb dX3_readOrder_163 (by decide) ?_
        obtain rfl : q_9.1 = pf' := by (rw [← ho0]) <;> (simp only [Fro]; (rw [if_neg c_1, if_pos c_8]) <;> simp [Pand, Fone, Frs2, Kcap, Pinc, ← eq_9, c_11])
        obtain rfl : nb = nb' := by (rw [← ho1]) <;> (simp only [Fro]; (rw [if_neg c_1, if_pos c_8]) <;> simp [Pand, Fone, Frs2, Kcap, Pinc, ← eq_9, c_11])
        obtain rfl : 0 = res := by (rw [← hres]) <;> (simp only [Fro]; (rw [if_neg c_1, if_pos c_8]) <;> simp [Pand, Fone, Frs2, Kcap, Pinc, ← eq_9, c_11])
        rw [hQ0]
        exact x_iret hx hb hret hlocks rfl hW rfl dX3_readOrder_164
      · skip
        refine lv_aload_n hx hb dX3_readOrder_136 rfl (lv_at hl 0 rfl) ?_
        obtain ⟨q_12, eq_12⟩ : ∃ z, z = Frn sn (q_9.1, nb) := ⟨_, rfl⟩
        refine x_callV hx hb hml hown hts hK hW hl.1 (c_X3_readNumber l X G  (hp := hp_10) (hc := (by assumption)) (ho0 := (congrArg (fun z => z.1.1) eq_12.symm)) (ho1 := (congrArg (fun z => z.1.2) eq_12.symm)) (hres := (congrArg (fun z => z.2) eq_12.symm))) (xF_mi2).1 (xF_mi2).2.1 (by decide) rfl xw_819 xw_820 xw_821 xw_27 xw_822 hdV_yX3_readNumber ⟨Nat.le_of_ble_eq_true rfl, Nat.le_of_ble_eq_true rfl⟩ rfl (Nat.le_of_ble_eq_true rfl) ⟨Nat.le_refl _, Nat.le_refl _⟩ dX3_readOrder_137 (fun H locs hW => ?_)
        have hW : XR X G 11 (xMi sv hs q_12.1.1 sn q_12.1.2) H locs := hW
        have hp_13 : Pok q_12.1.1 := by rw [eq_12]; exact Pok_rn (q := (q_9.1, nb)) hp_10
        refine lv_if_eq (tgt := 163) hx hb dX3_readOrder_140 (by decide) (fun c_14 => ?_) (fun c_14 => ?_)
        · skip
          refine lv_iconst (v := 0) hx hb dX3_readOrder_163 (by decide) ?_
          obtain rfl : q_12.1.1 = pf' := by (rw [← ho0]) <;> (simp only [Fro]; (rw [if_neg c_1, if_pos c_8]) <;> simp [Pand, Fone, Frs2, Kcap, Pinc, ← eq_9, c_11, ← eq_12, c_14])
          obtain rfl : q_12.1.2 = nb' := by (rw [← ho1]) <;> (simp only [Fro]; (rw [if_neg c_1, if_pos c_8]) <;> simp [Pand, Fone, Frs2, Kcap, Pinc, ← eq_9, c_11, ← eq_12, c_14])
          obtain rfl : 0 = res := by (rw [← hres]) <;> (simp only [Fro]; (rw [if_neg c_1, if_pos c_8]) <;> simp [Pand, Fone, Frs2, Kcap, Pinc, ← eq_9, c_11, ← eq_12, c_14])
          rw [hQ0]
          exact x_iret hx hb hret hlocks rfl hW rfl dX3_readOrder_164
        · skip
          refine lv_aload_n hx hb dX3_readOrder_143 rfl (lv_at hl 0 rfl) ?_
          refine lv_bipush (v := 61) hx hb dX3_readOrder_144 (by decide) ?_
          obtain ⟨q_15, eq_15⟩ : ∃ z, z = Frs 61 sn q_12.1.1 := ⟨_, rfl⟩
          refine x_callV hx hb hml hown hts hK hW hl.1 (c_X3_readSign l X G (w := 61) (hp := hp_13) (hc := (by assumption)) (ho0 := (congrArg (fun z => z.1) eq_15.symm)) (hres := (congrArg (fun z => z.2) eq_15.symm))) (xF_mi2).1 (xF_mi2).2.1 (by decide) rfl xw_815 xw_816 xw_817 xw_27 xw_818 hdV_yX3_readSign ⟨Nat.le_of_ble_eq_true rfl, Nat.le_of_ble_eq_true rfl⟩ rfl (Nat.le_of_ble_eq_true rfl) ⟨Nat.le_refl _, Nat.le_refl _⟩ dX3_readOrder_146 (fun H locs hW => ?_)
          have hW : XR X G 11 (xMi sv hs q_15.1 sn q_12.1.2) H locs := hW
          have hp_16 : Pok q_15.1 := by rw [eq_15]; exact Pok_rs hp_13 (by decide)
          refine lv_if_eq (tgt := 163) hx hb dX3_readOrder_149 (by decide) (fun c_17 => ?_) (fun c_17 => ?_)
          · skip
            refine lv_iconst (v := 0) hx hb dX3_readOrder_163 (by decide) ?_
            obtain rfl : q_15.1 = pf' := by (rw [← ho0]) <;> (simp only [Fro]; (rw [if_neg c_1, if_pos c_8]) <;> simp [Pand, Fone, Frs2, Kcap, Pinc, ← eq_9, c_11, ← eq_12, c_14, ← eq_15, c_17])
            obtain rfl : q_12.1.2 = nb' := by (rw [← ho1]) <;> (simp only [Fro]; (rw [if_neg c_1, if_pos c_8]) <;> simp [Pand, Fone, Frs2, Kcap, Pinc, ← eq_9, c_11, ← eq_12, c_14, ← eq_15, c_17])
            obtain rfl : 0 = res := by (rw [← hres]) <;> (simp only [Fro]; (rw [if_neg c_1, if_pos c_8]) <;> simp [Pand, Fone, Frs2, Kcap, Pinc, ← eq_9, c_11, ← eq_12, c_14, ← eq_15, c_17])
            rw [hQ0]
            exact x_iret hx hb hret hlocks rfl hW rfl dX3_readOrder_164
          · skip
            refine lv_aload_n hx hb dX3_readOrder_152 rfl (lv_at hl 0 rfl) ?_
            obtain ⟨q_18, eq_18⟩ : ∃ z, z = Frm sn (q_15.1, q_12.1.2) := ⟨_, rfl⟩
            refine x_callV hx hb hml hown hts hK hW hl.1 (c_X3_readMode l X G  (hp := hp_16) (hc := (by assumption)) (ho0 := (congrArg (fun z => z.1.1) eq_18.symm)) (ho1 := (congrArg (fun z => z.1.2) eq_18.symm)) (hres := (congrArg (fun z => z.2) eq_18.symm))) (xF_mi2).1 (xF_mi2).2.1 (by decide) rfl xw_834 xw_835 xw_836 xw_27 xw_837 hdV_yX3_readMode ⟨Nat.le_of_ble_eq_true rfl, Nat.le_of_ble_eq_true rfl⟩ rfl (Nat.le_of_ble_eq_true rfl) ⟨Nat.le_refl _, Nat.le_refl _⟩ dX3_readOrder_153 (fun H locs hW => ?_)
            have hW : XR X G 11 (xMi sv hs q_18.1.1 sn q_18.1.2) H locs := hW
            have hp_19 : Pok q_18.1.1 := by rw [eq_18]; exact Pok_rm (q := (q_15.1, q_12.1.2)) hp_16
            refine lv_if_eq (tgt := 163) hx hb dX3_readOrder_156 (by decide) (fun c_20 => ?_) (fun c_20 => ?_)
            · skip
              refine lv_iconst (v := 0) hx hb dX3_readOrder_163 (by decide) ?_
              obtain rfl : q_18.1.1 = pf' := by (rw [← ho0]) <;> (simp only [Fro]; (rw [if_neg c_1, if_pos c_8]) <;> simp [Pand, Fone, Frs2, Kcap, Pinc, ← eq_9, c_11, ← eq_12, c_14, ← eq_15, c_17, ← eq_18, c_20])
              obtain rfl : q_18.1.2 = nb' := by (rw [← ho1]) <;> (simp only [Fro]; (rw [if_neg c_1, if_pos c_8]) <;> simp [Pand, Fone, Frs2, Kcap, Pinc, ← eq_9, c_11, ← eq_12, c_14, ← eq_15, c_17, ← eq_18, c_20])
              obtain rfl : 0 = res := by (rw [← hres]) <;> (simp only [Fro]; (rw [if_neg c_1, if_pos c_8]) <;> simp [Pand, Fone, Frs2, Kcap, Pinc, ← eq_9, c_11, ← eq_12, c_14, ← eq_15, c_17, ← eq_18, c_20])
              rw [hQ0]
              exact x_iret hx hb hret hlocks rfl hW rfl dX3_readOrder_164
            · skip
              refine lv_iconst (v := 1) hx hb dX3_readOrder_159 (by decide) ?_
              refine lv_goto (tgt := 164) hx hb dX3_readOrder_160 (by decide) ?_
              obtain rfl : q_18.1.1 = pf' := by (rw [← ho0]) <;> (simp only [Fro]; (rw [if_neg c_1, if_pos c_8]) <;> simp [Pand, Fone, Frs2, Kcap, Pinc, ← eq_9, c_11, ← eq_12, c_14, ← eq_15, c_17, ← eq_18, c_20])
              obtain rfl : q_18.1.2 = nb' := by (rw [← ho1]) <;> (simp only [Fro]; (rw [if_neg c_1, if_pos c_8]) <;> simp [Pand, Fone, Frs2, Kcap, Pinc, ← eq_9, c_11, ← eq_12, c_14, ← eq_15, c_17, ← eq_18, c_20])
              obtain rfl : 1 = res := by (rw [← hres]) <;> (simp only [Fro]; (rw [if_neg c_1, if_pos c_8]) <;> simp [Pand, Fone, Frs2, Kcap, Pinc, ← eq_9, c_11, ← eq_12, c_14, ← eq_15, c_17, ← eq_18, c_20])
              rw [hQ0]
              exact x_iret hx hb hret hlocks rfl hW rfl dX3_readOrder_164
    · skip
      by_cases c_21 : Fsign sn pf = 116
      · skip
        refine lv_lookup (off := 148) (tgt := 165) hx hb dX3_readOrder_17 (by decide) (by rw [c_21]; decide) (by decide) ?_
        refine lv_aload_n hx hb dX3_readOrder_165 rfl (lv_at hl 0 rfl) ?_
        refine lv_bipush (v := 116) hx hb dX3_readOrder_166 (by decide) ?_
        obtain ⟨q_22, eq_22⟩ : ∃ z, z = Frs 116 sn (va_up (va_up pf 4 0) 5 (Fsign sn pf)) := ⟨_, rfl⟩
        refine x_callV hx hb hml hown hts hK hW hl.1 (c_X3_readSign l X G (w := 116) (hp := hp8) (hc := (by assumption)) (ho0 := (congrArg (fun z => z.1) eq_22.symm)) (hres := (congrArg (fun z => z.2) eq_22.symm))) (xF_mi2).1 (xF_mi2).2.1 (by decide) rfl xw_815 xw_816 xw_817 xw_27 xw_818 hdV_yX3_readSign ⟨Nat.le_of_ble_eq_true rfl, Nat.le_of_ble_eq_true rfl⟩ rfl (Nat.le_of_ble_eq_true rfl) ⟨Nat.le_refl _, Nat.le_refl _⟩ dX3_readOrder_168 (fun H locs hW => ?_)
        have hW : XR X G 11 (xMi sv hs q_22.1 sn nb) H locs := hW
        have hp_23 : Pok q_22.1 := by rw [eq_22]; exact Pok_rs hp8 (by decide)
        refine lv_if_eq (tgt := 185) hx hb dX3_readOrder_171 (by decide) (fun c_24 => ?_) (fun c_24 => ?_)
        · skip
          refine lv_iconst (v := 0) hx hb dX3_readOrder_185 (by decide) ?_
          obtain rfl : q_22.1 = pf' := by (rw [← ho0]) <;> (simp only [Fro]; (rw [if_neg c_1, if_neg c_8, if_pos c_21]) <;> simp [Pand, Fone, Frs2, Kcap, Pinc, ← eq_22, c_24])
          obtain rfl : nb = nb' := by (rw [← ho1]) <;> (simp only [Fro]; (rw [if_neg c_1, if_neg c_8, if_pos c_21]) <;> simp [Pand, Fone, Frs2, Kcap, Pinc, ← eq_22, c_24])
          obtain rfl : 0 = res := by (rw [← hres]) <;> (simp only [Fro]; (rw [if_neg c_1, if_neg c_8, if_pos c_21]) <;> simp [Pand, Fone, Frs2, Kcap, Pinc, ← eq_22, c_24])
          rw [hQ0]
          exact x_iret hx hb hret hlocks rfl hW rfl dX3_readOrder_186
        · skip
          refine lv_aload_n hx hb dX3_readOrder_174 rfl (lv_at hl 0 rfl) ?_
          obtain ⟨q_25, eq_25⟩ : ∃ z, z = Frn sn (q_22.1, nb) := ⟨_, rfl⟩
          refine x_callV hx hb hml hown hts hK hW hl.1 (c_X3_readNumber l X G  (hp := hp_23) (hc := (by assumption)) (ho0 := (congrArg (fun z => z.1.1) eq_25.symm)) (ho1 := (congrArg (fun z => z.1.2) eq_25.symm)) (hres := (congrArg (fun z => z.2) eq_25.symm))) (xF_mi2).1 (xF_mi2).2.1 (by decide) rfl xw_819 xw_820 xw_821 xw_27 xw_822 hdV_yX3_readNumber ⟨Nat.le_of_ble_eq_true rfl, Nat.le_of_ble_eq_true rfl⟩ rfl (Nat.le_of_ble_eq_true rfl) ⟨Nat.le_refl _, Nat.le_refl _⟩ dX3_readOrder_175 (fun H locs hW => ?_)
          have hW : XR X G 11 (xMi sv hs q_25.1.1 sn q_25.1.2) H locs := hW
          have hp_26 : Pok q_25.1.1 := by rw [eq_25]; exact Pok_rn (q := (q_22.1, nb)) hp_23
          refine lv_if_eq (tgt := 185) hx hb dX3_readOrder_178 (by decide) (fun c_27 => ?_) (fun c_27 => ?_)
          · skip
            refine lv_iconst (v := 0) hx hb dX3_readOrder_185 (by decide) ?_
            obtain rfl : q_25.1.1 = pf' := by (rw [← ho0]) <;> (simp only [Fro]; (rw [if_neg c_1, if_neg c_8, if_pos c_21]) <;> simp [Pand, Fone, Frs2, Kcap, Pinc, ← eq_22, c_24, ← eq_25, c_27])
            obtain rfl : q_25.1.2 = nb' := by (rw [← ho1]) <;> (simp only [Fro]; (rw [if_neg c_1, if_neg c_8, if_pos c_21]) <;> simp [Pand, Fone, Frs2, Kcap, Pinc, ← eq_22, c_24, ← eq_25, c_27])
            obtain rfl : 0 = res := by (rw [← hres]) <;> (simp only [Fro]; (rw [if_neg c_1, if_neg c_8, if_pos c_21]) <;> simp [Pand, Fone, Frs2, Kcap, Pinc, ← eq_22, c_24, ← eq_25, c_27])
            rw [hQ0]
            exact x_iret hx hb hret hlocks rfl hW rfl dX3_readOrder_186
          · skip
            refine lv_iconst (v := 1) hx hb dX3_readOrder_181 (by decide) ?_
            refine lv_goto (tgt := 186) hx hb dX3_readOrder_182 (by decide) ?_
            obtain rfl : q_25.1.1 = pf' := by (rw [← ho0]) <;> (simp only [Fro]; (rw [if_neg c_1, if_neg c_8, if_pos c_21]) <;> simp [Pand, Fone, Frs2, Kcap, Pinc, ← eq_22, c_24, ← eq_25, c_27])
            obtain rfl : q_25.1.2 = nb' := by (rw [← ho1]) <;> (simp only [Fro]; (rw [if_neg c_1, if_neg c_8, if_pos c_21]) <;> simp [Pand, Fone, Frs2, Kcap, Pinc, ← eq_22, c_24, ← eq_25, c_27])
            obtain rfl : 1 = res := by (rw [← hres]) <;> (simp only [Fro]; (rw [if_neg c_1, if_neg c_8, if_pos c_21]) <;> simp [Pand, Fone, Frs2, Kcap, Pinc, ← eq_22, c_24, ← eq_25, c_27])
            rw [hQ0]
            exact x_iret hx hb hret hlocks rfl hW rfl dX3_readOrder_186
      · skip
        by_cases c_28 : Fsign sn pf = 119
        · skip
          refine lv_lookup (off := 43) (tgt := 60) hx hb dX3_readOrder_17 (by decide) (by rw [c_28]; decide) (by decide) ?_
          refine lv_aload_n hx hb dX3_readOrder_60 rfl (lv_at hl 0 rfl) ?_
          refine lv_bipush (v := 119) hx hb dX3_readOrder_61 (by decide) ?_
          obtain ⟨q_29, eq_29⟩ : ∃ z, z = Frs 119 sn (va_up (va_up pf 4 0) 5 (Fsign sn pf)) := ⟨_, rfl⟩
          refine x_callV hx hb hml hown hts hK hW hl.1 (c_X3_readSign l X G (w := 119) (hp := hp8) (hc := (by assumption)) (ho0 := (congrArg (fun z => z.1) eq_29.symm)) (hres := (congrArg (fun z => z.2) eq_29.symm))) (xF_mi2).1 (xF_mi2).2.1 (by decide) rfl xw_815 xw_816 xw_817 xw_27 xw_818 hdV_yX3_readSign ⟨Nat.le_of_ble_eq_true rfl, Nat.le_of_ble_eq_true rfl⟩ rfl (Nat.le_of_ble_eq_true rfl) ⟨Nat.le_refl _, Nat.le_refl _⟩ dX3_readOrder_63 (fun H locs hW => ?_)
          have hW : XR X G 11 (xMi sv hs q_29.1 sn nb) H locs := hW
          have hp_30 : Pok q_29.1 := by rw [eq_29]; exact Pok_rs hp8 (by decide)
          refine lv_if_eq (tgt := 103) hx hb dX3_readOrder_66 (by decide) (fun c_31 => ?_) (fun c_31 => ?_)
          · skip
            refine lv_iconst (v := 0) hx hb dX3_readOrder_103 (by decide) ?_
            obtain rfl : q_29.1 = pf' := by (rw [← ho0]) <;> (simp only [Fro]; (rw [if_neg c_1, if_neg c_8, if_neg c_21, if_pos c_28]) <;> simp [Pand, Fone, Frs2, Kcap, Pinc, ← eq_29, c_31])
            obtain rfl : nb = nb' := by (rw [← ho1]) <;> (simp only [Fro]; (rw [if_neg c_1, if_neg c_8, if_neg c_21, if_pos c_28]) <;> simp [Pand, Fone, Frs2, Kcap, Pinc, ← eq_29, c_31])
            obtain rfl : 0 = res := by (rw [← hres]) <;> (simp only [Fro]; (rw [if_neg c_1, if_neg c_8, if_neg c_21, if_pos c_28]) <;> simp [Pand, Fone, Frs2, Kcap, Pinc, ← eq_29, c_31])
            rw [hQ0]
            exact x_iret hx hb hret hlocks rfl hW rfl dX3_readOrder_104
          · skip
            refine lv_aload_n hx hb dX3_readOrder_69 rfl (lv_at hl 0 rfl) ?_
            obtain ⟨q_32, eq_32⟩ : ∃ z, z = Frn sn (q_29.1, nb) := ⟨_, rfl⟩
            refine x_callV hx hb hml hown hts hK hW hl.1 (c_X3_readNumber l X G  (hp := hp_30) (hc := (by assumption)) (ho0 := (congrArg (fun z => z.1.1) eq_32.symm)) (ho1 := (congrArg (fun z => z.1.2) eq_32.symm)) (hres := (congrArg (fun z => z.2) eq_32.symm))) (xF_mi2).1 (xF_mi2).2.1 (by decide) rfl xw_819 xw_820 xw_821 xw_27 xw_822 hdV_yX3_readNumber ⟨Nat.le_of_ble_eq_true rfl, Nat.le_of_ble_eq_true rfl⟩ rfl (Nat.le_of_ble_eq_true rfl) ⟨Nat.le_refl _, Nat.le_refl _⟩ dX3_readOrder_70 (fun H locs hW => ?_)
            have hW : XR X G 11 (xMi sv hs q_32.1.1 sn q_32.1.2) H locs := hW
            have hp_33 : Pok q_32.1.1 := by rw [eq_32]; exact Pok_rn (q := (q_29.1, nb)) hp_30
            refine lv_if_eq (tgt := 103) hx hb dX3_readOrder_73 (by decide) (fun c_34 => ?_) (fun c_34 => ?_)
            · skip
              refine lv_iconst (v := 0) hx hb dX3_readOrder_103 (by decide) ?_
              obtain rfl : q_32.1.1 = pf' := by (rw [← ho0]) <;> (simp only [Fro]; (rw [if_neg c_1, if_neg c_8, if_neg c_21, if_pos c_28]) <;> simp [Pand, Fone, Frs2, Kcap, Pinc, ← eq_29, c_31, ← eq_32, c_34])
              obtain rfl : q_32.1.2 = nb' := by (rw [← ho1]) <;> (simp only [Fro]; (rw [if_neg c_1, if_neg c_8, if_neg c_21, if_pos c_28]) <;> simp [Pand, Fone, Frs2, Kcap, Pinc, ← eq_29, c_31, ← eq_32, c_34])
              obtain rfl : 0 = res := by (rw [← hres]) <;> (simp only [Fro]; (rw [if_neg c_1, if_neg c_8, if_neg c_21, if_pos c_28]) <;> simp [Pand, Fone, Frs2, Kcap, Pinc, ← eq_29, c_31, ← eq_32, c_34])
              rw [hQ0]
              exact x_iret hx hb hret hlocks rfl hW rfl dX3_readOrder_104
            · skip
              refine lv_aload_n hx hb dX3_readOrder_76 rfl (lv_at hl 0 rfl) ?_
              refine lv_bipush (v := 47) hx hb dX3_readOrder_77 (by decide) ?_
              obtain ⟨q_35, eq_35⟩ : ∃ z, z = Frs 47 sn q_32.1.1 := ⟨_, rfl⟩
              refine x_callV hx hb hml hown hts hK hW hl.1 (c_X3_readSign l X G (w := 47) (hp := hp_33) (hc := (by assumption)) (ho0 := (congrArg (fun z => z.1) eq_35.symm)) (hres := (congrArg (fun z => z.2) eq_35.symm))) (xF_mi2).1 (xF_mi2).2.1 (by decide) rfl xw_815 xw_816 xw_817 xw_27 xw_818 hdV_yX3_readSign ⟨Nat.le_of_ble_eq_true rfl, Nat.le_of_ble_eq_true rfl⟩ rfl (Nat.le_of_ble_eq_true rfl) ⟨Nat.le_refl _, Nat.le_refl _⟩ dX3_readOrder_79 (fun H locs hW => ?_)
              have hW : XR X G 11 (xMi sv hs q_35.1 sn q_32.1.2) H locs := hW
              have hp_36 : Pok q_35.1 := by rw [eq_35]; exact Pok_rs hp_33 (by decide)
              refine lv_if_eq (tgt := 103) hx hb dX3_readOrder_82 (by decide) (fun c_37 => ?_) (fun c_37 => ?_)
              · skip
                refine lv_iconst (v := 0) hx hb dX3_readOrder_103 (by decide) ?_
                obtain rfl : q_35.1 = pf' := by (rw [← ho0]) <;> (simp only [Fro]; (rw [if_neg c_1, if_neg c_8, if_neg c_21, if_pos c_28]) <;> simp [Pand, Fone, Frs2, Kcap, Pinc, ← eq_29, c_31, ← eq_32, c_34, ← eq_35, c_37])
                obtain rfl : q_32.1.2 = nb' := by (rw [← ho1]) <;> (simp only [Fro]; (rw [if_neg c_1, if_neg c_8, if_neg c_21, if_pos c_28]) <;> simp [Pand, Fone, Frs2, Kcap, Pinc, ← eq_29, c_31, ← eq_32, c_34, ← eq_35, c_37])
                obtain rfl : 0 = res := by (rw [← hres]) <;> (simp only [Fro]; (rw [if_neg c_1, if_neg c_8, if_neg c_21, if_pos c_28]) <;> simp [Pand, Fone, Frs2, Kcap, Pinc, ← eq_29, c_31, ← eq_32, c_34, ← eq_35, c_37])
                rw [hQ0]
                exact x_iret hx hb hret hlocks rfl hW rfl dX3_readOrder_104
              · skip
                refine lv_aload_n hx hb dX3_readOrder_85 rfl (lv_at hl 0 rfl) ?_
                obtain ⟨q_38, eq_38⟩ : ∃ z, z = Frn sn (q_35.1, q_32.1.2) := ⟨_, rfl⟩
                refine x_callV hx hb hml hown hts hK hW hl.1 (c_X3_readNumber l X G  (hp := hp_36) (hc := (by assumption)) (ho0 := (congrArg (fun z => z.1.1) eq_38.symm)) (ho1 := (congrArg (fun z => z.1.2) eq_38.symm)) (hres := (congrArg (fun z => z.2) eq_38.symm))) (xF_mi2).1 (xF_mi2).2.1 (by decide) rfl xw_819 xw_820 xw_821 xw_27 xw_822 hdV_yX3_readNumber ⟨Nat.le_of_ble_eq_true rfl, Nat.le_of_ble_eq_true rfl⟩ rfl (Nat.le_of_ble_eq_true rfl) ⟨Nat.le_refl _, Nat.le_refl _⟩ dX3_readOrder_86 (fun H locs hW => ?_)
                have hW : XR X G 11 (xMi sv hs q_38.1.1 sn q_38.1.2) H locs := hW
                have hp_39 : Pok q_38.1.1 := by rw [eq_38]; exact Pok_rn (q := (q_35.1, q_32.1.2)) hp_36
                refine lv_if_eq (tgt := 103) hx hb dX3_readOrder_89 (by decide) (fun c_40 => ?_) (fun c_40 => ?_)
                · skip
                  refine lv_iconst (v := 0) hx hb dX3_readOrder_103 (by decide) ?_
                  obtain rfl : q_38.1.1 = pf' := by (rw [← ho0]) <;> (simp only [Fro]; (rw [if_neg c_1, if_neg c_8, if_neg c_21, if_pos c_28]) <;> simp [Pand, Fone, Frs2, Kcap, Pinc, ← eq_29, c_31, ← eq_32, c_34, ← eq_35, c_37, ← eq_38, c_40])
                  obtain rfl : q_38.1.2 = nb' := by (rw [← ho1]) <;> (simp only [Fro]; (rw [if_neg c_1, if_neg c_8, if_neg c_21, if_pos c_28]) <;> simp [Pand, Fone, Frs2, Kcap, Pinc, ← eq_29, c_31, ← eq_32, c_34, ← eq_35, c_37, ← eq_38, c_40])
                  obtain rfl : 0 = res := by (rw [← hres]) <;> (simp only [Fro]; (rw [if_neg c_1, if_neg c_8, if_neg c_21, if_pos c_28]) <;> simp [Pand, Fone, Frs2, Kcap, Pinc, ← eq_29, c_31, ← eq_32, c_34, ← eq_35, c_37, ← eq_38, c_40])
                  rw [hQ0]
                  exact x_iret hx hb hret hlocks rfl hW rfl dX3_readOrder_104
                · skip
                  refine lv_aload_n hx hb dX3_readOrder_92 rfl (lv_at hl 0 rfl) ?_
                  obtain ⟨q_41, eq_41⟩ : ∃ z, z = Fgoals sn 80 (q_38.1.1, q_38.1.2) := ⟨_, rfl⟩
                  refine x_callV hx hb hml hown hts hK hW hl.1 (c_X3_readGoals l X G  (hp := hp_39) (hc := (by assumption)) (ho0 := (congrArg (fun z => z.1.1) eq_41.symm)) (ho1 := (congrArg (fun z => z.1.2) eq_41.symm)) (hres := (congrArg (fun z => z.2) eq_41.symm))) (xF_mi2).1 (xF_mi2).2.1 (by decide) rfl xw_830 xw_831 xw_832 xw_27 xw_833 hdV_yX3_readGoals ⟨Nat.le_of_ble_eq_true rfl, Nat.le_of_ble_eq_true rfl⟩ rfl (Nat.le_of_ble_eq_true rfl) ⟨Nat.le_refl _, Nat.le_refl _⟩ dX3_readOrder_93 (fun H locs hW => ?_)
                  have hW : XR X G 11 (xMi sv hs q_41.1.1 sn q_41.1.2) H locs := hW
                  have hp_42 : Pok q_41.1.1 := by rw [eq_41]; exact Pok_goals 80 (q_38.1.1, q_38.1.2) hp_39
                  refine lv_if_eq (tgt := 103) hx hb dX3_readOrder_96 (by decide) (fun c_43 => ?_) (fun c_43 => ?_)
                  · skip
                    refine lv_iconst (v := 0) hx hb dX3_readOrder_103 (by decide) ?_
                    obtain rfl : q_41.1.1 = pf' := by (rw [← ho0]) <;> (simp only [Fro]; (rw [if_neg c_1, if_neg c_8, if_neg c_21, if_pos c_28]) <;> simp [Pand, Fone, Frs2, Kcap, Pinc, ← eq_29, c_31, ← eq_32, c_34, ← eq_35, c_37, ← eq_38, c_40, ← eq_41, c_43])
                    obtain rfl : q_41.1.2 = nb' := by (rw [← ho1]) <;> (simp only [Fro]; (rw [if_neg c_1, if_neg c_8, if_neg c_21, if_pos c_28]) <;> simp [Pand, Fone, Frs2, Kcap, Pinc, ← eq_29, c_31, ← eq_32, c_34, ← eq_35, c_37, ← eq_38, c_40, ← eq_41, c_43])
                    obtain rfl : 0 = res := by (rw [← hres]) <;> (simp only [Fro]; (rw [if_neg c_1, if_neg c_8, if_neg c_21, if_pos c_28]) <;> simp [Pand, Fone, Frs2, Kcap, Pinc, ← eq_29, c_31, ← eq_32, c_34, ← eq_35, c_37, ← eq_38, c_40, ← eq_41, c_43])
                    rw [hQ0]
                    exact x_iret hx hb hret hlocks rfl hW rfl dX3_readOrder_104
                  · skip
                    refine lv_iconst (v := 1) hx hb dX3_readOrder_99 (by decide) ?_
                    refine lv_goto (tgt := 104) hx hb dX3_readOrder_100 (by decide) ?_
                    obtain rfl : q_41.1.1 = pf' := by (rw [← ho0]) <;> (simp only [Fro]; (rw [if_neg c_1, if_neg c_8, if_neg c_21, if_pos c_28]) <;> simp [Pand, Fone, Frs2, Kcap, Pinc, ← eq_29, c_31, ← eq_32, c_34, ← eq_35, c_37, ← eq_38, c_40, ← eq_41, c_43])
                    obtain rfl : q_41.1.2 = nb' := by (rw [← ho1]) <;> (simp only [Fro]; (rw [if_neg c_1, if_neg c_8, if_neg c_21, if_pos c_28]) <;> simp [Pand, Fone, Frs2, Kcap, Pinc, ← eq_29, c_31, ← eq_32, c_34, ← eq_35, c_37, ← eq_38, c_40, ← eq_41, c_43])
                    obtain rfl : 1 = res := by (rw [← hres]) <;> (simp only [Fro]; (rw [if_neg c_1, if_neg c_8, if_neg c_21, if_pos c_28]) <;> simp [Pand, Fone, Frs2, Kcap, Pinc, ← eq_29, c_31, ← eq_32, c_34, ← eq_35, c_37, ← eq_38, c_40, ← eq_41, c_43])
                    rw [hQ0]
                    exact x_iret hx hb hret hlocks rfl hW rfl dX3_readOrder_104
        · skip
          refine lv_lookup (off := 170) (tgt := 187) hx hb dX3_readOrder_17 (by decide) (by show Op.lookupswitch.offset [(99, 88), (109, 110), (116, 148), (119, 43)] 170 _ = 170; rw [Op.lookupswitch.offset_cons, if_neg (x_nt2 c_1 (by decide)), Op.lookupswitch.offset_cons, if_neg (x_nt2 c_8 (by decide)), Op.lookupswitch.offset_cons, if_neg (x_nt2 c_21 (by decide)), Op.lookupswitch.offset_cons, if_neg (x_nt2 c_28 (by decide))]; rfl) (by decide) ?_
          refine lv_iconst (v := 0) hx hb dX3_readOrder_187 (by decide) ?_
          obtain rfl : (va_up (va_up pf 4 0) 5 (Fsign sn pf)) = pf' := by (rw [← ho0]) <;> (simp only [Fro]; (rw [if_neg c_1, if_neg c_8, if_neg c_21, if_neg c_28]) <;> simp [Pand, Fone, Frs2, Kcap, Pinc])
          obtain rfl : nb = nb' := by (rw [← ho1]) <;> (simp only [Fro]; (rw [if_neg c_1, if_neg c_8, if_neg c_21, if_neg c_28]) <;> simp [Pand, Fone, Frs2, Kcap, Pinc])
          obtain rfl : 0 = res := by (rw [← hres]) <;> (simp only [Fro]; (rw [if_neg c_1, if_neg c_8, if_neg c_21, if_neg c_28]) <;> simp [Pand, Fone, Frs2, Kcap, Pinc])
          rw [hQ0]
          exact x_iret hx hb hret hlocks rfl hW rfl dX3_readOrder_188
set_option maxHeartbeats 4000000 in
set_option maxRecDepth 100000 in
theorem c_X3_readNextOrder (l : Launch) (X : xX) (G : xG) {sv hs pf sn nb : Nat → Int32}  (hp : Pok pf) (hc : Cok sn) {pf' : Nat → Int32} (ho0 : ((Fnext sn (pf, nb)).1.1) = pf') {nb' : Nat → Int32} (ho1 : ((Fnext sn (pf, nb)).1.2) = nb') {res : Int32} (hres : ((Fnext sn (pf, nb)).2) = res) : XC l yX3_readNextOrder cX3_readNextOrder 1 (some .boolean) 4 85 0 0 X xsh [.ref (xB X + xkey 11 2 0)] 603 603 (xval (xB X) (va_up G 11 (xMi sv hs pf sn nb))) (xval (xB X) (va_up G 11 (xMi sv hs pf' sn nb'))) (some (.int res)) := by
  refine XC.of RX3 "readNextOrder" [(0, .ref (xB X + xkey 11 2 0))] (by decide) rfl rfl (Nat.le_of_ble_eq_true rfl) rfl ?_
  intro p e s m args below meth c ls hx hb hret hml hts hown hlocks hnm hK hW hl
  have hW : XR X G 11 (xMi sv hs pf sn nb) s.heap [] := hW
  obtain ⟨Q0, hQ0⟩ : ∃ z, z = MQ below (xQ X xsh 603 (xval (xB X) (va_up G 11 (xMi sv hs pf' sn nb'))) (some (.int res))) args s 0 0 (fun q => xB X ≤ q) := ⟨_, rfl⟩
  rw [← hQ0]
  refine lv_aload_n hx hb dX3_readNextOrder_0 rfl (lv_at hl 0 rfl) ?_
  refine r_get hx hb hts hown hK hW (C := RX3) (T := TX3) (xF_mi2) inlX3 rfl (by decide) 3 (by decide) (by decide +kernel) xw_800 rfl (x := pf 3) rfl dX3_readNextOrder_1 ?_
  refine lv_if_eq (tgt := 16) hx hb dX3_readNextOrder_4 (by decide) (fun c_1 => ?_) (fun c_1 => ?_)
  · skip
    refine lv_aload_n hx hb dX3_readNextOrder_16 rfl (lv_at hl 0 rfl) ?_
    obtain ⟨q_2, eq_2⟩ : ∃ z, z = Fro sn (pf, nb) := ⟨_, rfl⟩
    refine x_callV hx hb hml hown hts hK hW hl.1 (c_X3_readOrder l X G  (hp := hp) (hc := (by assumption)) (ho0 := (congrArg (fun z => z.1.1) eq_2.symm)) (ho1 := (congrArg (fun z => z.1.2) eq_2.symm)) (hres := (congrArg (fun z => z.2) eq_2.symm))) (xF_mi2).1 (xF_mi2).2.1 (by decide) rfl xw_805 xw_806 xw_807 xw_27 xw_808 hdV_yX3_readOrder ⟨Nat.le_of_ble_eq_true rfl, Nat.le_of_ble_eq_true rfl⟩ rfl (Nat.le_of_ble_eq_true rfl) ⟨Nat.le_refl _, Nat.le_refl _⟩ dX3_readNextOrder_17 (fun H locs hW => ?_)
    have hW : XR X G 11 (xMi sv hs q_2.1.1 sn q_2.1.2) H locs := hW
    have hp_3 : Pok q_2.1.1 := by rw [eq_2]; exact Pok_ro (q := (pf, nb)) hp
    refine lv_if_eq (tgt := 27) hx hb dX3_readNextOrder_20 (by decide) (fun c_4 => ?_) (fun c_4 => ?_)
    · skip
      refine lv_iconst (v := 0) hx hb dX3_readNextOrder_27 (by decide) ?_
      obtain rfl : q_2.1.1 = pf' := by (rw [← ho0]) <;> (simp [Fnext, Pand, Fone, Frs2, Kcap, Pinc, c_1, ← eq_2, c_4])
      obtain rfl : q_2.1.2 = nb' := by (rw [← ho1]) <;> (simp [Fnext, Pand, Fone, Frs2, Kcap, Pinc, c_1, ← eq_2, c_4])
      obtain rfl : 0 = res := by (rw [← hres]) <;> (simp [Fnext, Pand, Fone, Frs2, Kcap, Pinc, c_1, ← eq_2, c_4])
      rw [hQ0]
      exact x_iret hx hb hret hlocks rfl hW rfl dX3_readNextOrder_28
    · skip
      refine lv_iconst (v := 1) hx hb dX3_readNextOrder_23 (by decide) ?_
      refine lv_goto (tgt := 28) hx hb dX3_readNextOrder_24 (by decide) ?_
      obtain rfl : q_2.1.1 = pf' := by (rw [← ho0]) <;> (simp [Fnext, Pand, Fone, Frs2, Kcap, Pinc, c_1, ← eq_2, c_4])
      obtain rfl : q_2.1.2 = nb' := by (rw [← ho1]) <;> (simp [Fnext, Pand, Fone, Frs2, Kcap, Pinc, c_1, ← eq_2, c_4])
      obtain rfl : 1 = res := by (rw [← hres]) <;> (simp [Fnext, Pand, Fone, Frs2, Kcap, Pinc, c_1, ← eq_2, c_4])
      rw [hQ0]
      exact x_iret hx hb hret hlocks rfl hW rfl dX3_readNextOrder_28
  · skip
    refine lv_aload_n hx hb dX3_readNextOrder_7 rfl (lv_at hl 0 rfl) ?_
    refine lv_bipush (v := 59) hx hb dX3_readNextOrder_8 (by decide) ?_
    obtain ⟨q_5, eq_5⟩ : ∃ z, z = Frs 59 sn pf := ⟨_, rfl⟩
    refine x_callV hx hb hml hown hts hK hW hl.1 (c_X3_readSign l X G (w := 59) (hp := hp) (hc := (by assumption)) (ho0 := (congrArg (fun z => z.1) eq_5.symm)) (hres := (congrArg (fun z => z.2) eq_5.symm))) (xF_mi2).1 (xF_mi2).2.1 (by decide) rfl xw_815 xw_816 xw_817 xw_27 xw_818 hdV_yX3_readSign ⟨Nat.le_of_ble_eq_true rfl, Nat.le_of_ble_eq_true rfl⟩ rfl (Nat.le_of_ble_eq_true rfl) ⟨Nat.le_refl _, Nat.le_refl _⟩ dX3_readNextOrder_10 (fun H locs hW => ?_)
    have hW : XR X G 11 (xMi sv hs q_5.1 sn nb) H locs := hW
    have hp_6 : Pok q_5.1 := by rw [eq_5]; exact Pok_rs hp (by decide)
    refine lv_if_eq (tgt := 27) hx hb dX3_readNextOrder_13 (by decide) (fun c_7 => ?_) (fun c_7 => ?_)
    · skip
      refine lv_iconst (v := 0) hx hb dX3_readNextOrder_27 (by decide) ?_
      obtain rfl : q_5.1 = pf' := by (rw [← ho0]) <;> (simp [Fnext, Pand, Fone, Frs2, Kcap, Pinc, c_1, ← eq_5, c_7])
      obtain rfl : nb = nb' := by (rw [← ho1]) <;> (simp [Fnext, Pand, Fone, Frs2, Kcap, Pinc, c_1, ← eq_5, c_7])
      obtain rfl : 0 = res := by (rw [← hres]) <;> (simp [Fnext, Pand, Fone, Frs2, Kcap, Pinc, c_1, ← eq_5, c_7])
      rw [hQ0]
      exact x_iret hx hb hret hlocks rfl hW rfl dX3_readNextOrder_28
    · skip
      refine lv_aload_n hx hb dX3_readNextOrder_16 rfl (lv_at hl 0 rfl) ?_
      obtain ⟨q_8, eq_8⟩ : ∃ z, z = Fro sn (q_5.1, nb) := ⟨_, rfl⟩
      refine x_callV hx hb hml hown hts hK hW hl.1 (c_X3_readOrder l X G  (hp := hp_6) (hc := (by assumption)) (ho0 := (congrArg (fun z => z.1.1) eq_8.symm)) (ho1 := (congrArg (fun z => z.1.2) eq_8.symm)) (hres := (congrArg (fun z => z.2) eq_8.symm))) (xF_mi2).1 (xF_mi2).2.1 (by decide) rfl xw_805 xw_806 xw_807 xw_27 xw_808 hdV_yX3_readOrder ⟨Nat.le_of_ble_eq_true rfl, Nat.le_of_ble_eq_true rfl⟩ rfl (Nat.le_of_ble_eq_true rfl) ⟨Nat.le_refl _, Nat.le_refl _⟩ dX3_readNextOrder_17 (fun H locs hW => ?_)
      have hW : XR X G 11 (xMi sv hs q_8.1.1 sn q_8.1.2) H locs := hW
      have hp_9 : Pok q_8.1.1 := by rw [eq_8]; exact Pok_ro (q := (q_5.1, nb)) hp_6
      refine lv_if_eq (tgt := 27) hx hb dX3_readNextOrder_20 (by decide) (fun c_10 => ?_) (fun c_10 => ?_)
      · skip
        refine lv_iconst (v := 0) hx hb dX3_readNextOrder_27 (by decide) ?_
        obtain rfl : q_8.1.1 = pf' := by (rw [← ho0]) <;> (simp [Fnext, Pand, Fone, Frs2, Kcap, Pinc, c_1, ← eq_5, c_7, ← eq_8, c_10])
        obtain rfl : q_8.1.2 = nb' := by (rw [← ho1]) <;> (simp [Fnext, Pand, Fone, Frs2, Kcap, Pinc, c_1, ← eq_5, c_7, ← eq_8, c_10])
        obtain rfl : 0 = res := by (rw [← hres]) <;> (simp [Fnext, Pand, Fone, Frs2, Kcap, Pinc, c_1, ← eq_5, c_7, ← eq_8, c_10])
        rw [hQ0]
        exact x_iret hx hb hret hlocks rfl hW rfl dX3_readNextOrder_28
      · skip
        refine lv_iconst (v := 1) hx hb dX3_readNextOrder_23 (by decide) ?_
        refine lv_goto (tgt := 28) hx hb dX3_readNextOrder_24 (by decide) ?_
        obtain rfl : q_8.1.1 = pf' := by (rw [← ho0]) <;> (simp [Fnext, Pand, Fone, Frs2, Kcap, Pinc, c_1, ← eq_5, c_7, ← eq_8, c_10])
        obtain rfl : q_8.1.2 = nb' := by (rw [← ho1]) <;> (simp [Fnext, Pand, Fone, Frs2, Kcap, Pinc, c_1, ← eq_5, c_7, ← eq_8, c_10])
        obtain rfl : 1 = res := by (rw [← hres]) <;> (simp [Fnext, Pand, Fone, Frs2, Kcap, Pinc, c_1, ← eq_5, c_7, ← eq_8, c_10])
        rw [hQ0]
        exact x_iret hx hb hret hlocks rfl hW rfl dX3_readNextOrder_28
set_option maxHeartbeats 4000000 in
set_option maxRecDepth 100000 in
theorem c_X3_firstFault (l : Launch) (X : xX) (G : xG) {sv hs pf sn nb : Nat → Int32}  (hp : Pok pf) (hc : Cok sn) {pf' : Nat → Int32} (ho0 : ((Ffirst sn (pf, nb)).1.1) = pf') {nb' : Nat → Int32} (ho1 : ((Ffirst sn (pf, nb)).1.2) = nb') {res : Int32} (hres : ((Ffirst sn (pf, nb)).2) = res) : XC l yX3_firstFault cX3_firstFault 2 (some .int) 4 85 0 0 X xsh [.ref (xB X + xkey 11 2 0)] 603 603 (xval (xB X) (va_up G 11 (xMi sv hs pf sn nb))) (xval (xB X) (va_up G 11 (xMi sv hs pf' sn nb'))) (some (.int res)) := by
  refine XC.of RX3 "firstFault" [(0, .ref (xB X + xkey 11 2 0))] (by decide) rfl rfl (Nat.le_of_ble_eq_true rfl) rfl ?_
  intro p e s m args below meth c ls hx hb hret hml hts hown hlocks hnm hK hW hl
  have hW : XR X G 11 (xMi sv hs pf sn nb) s.heap [] := hW
  obtain ⟨Q0, hQ0⟩ : ∃ z, z = MQ below (xQ X xsh 603 (xval (xB X) (va_up G 11 (xMi sv hs pf' sn nb'))) (some (.int res))) args s 0 0 (fun q => xB X ≤ q) := ⟨_, rfl⟩
  rw [← hQ0]
  refine lv_aload_n hx hb dX3_firstFault_0 rfl (lv_at hl 0 rfl) ?_
  refine x_callV hx hb hml hown hts hK hW hl.1 (c_X3_rewind l X G  (hp := hp) (ho0 := rfl)) (xF_mi2).1 (xF_mi2).2.1 (by decide) rfl xw_801 xw_802 xw_803 xw_27 xw_804 hdV_yX3_rewind ⟨Nat.le_of_ble_eq_true rfl, Nat.le_of_ble_eq_true rfl⟩ rfl (Nat.le_of_ble_eq_true rfl) ⟨Nat.le_refl _, Nat.le_refl _⟩ dX3_firstFault_1 (fun H locs hW => ?_)
  have hW : XR X G 11 (xMi sv hs (va_up pf 3 0) sn nb) H locs := hW
  have hp_1 : Pok (va_up pf 3 0) := Pok_3 hp
  refine lv_iconst (v := nI 0) hx hb dX3_firstFault_4 (by decide) ?_
  refine lv_istore_n (lv' := [(1, .int (nI 0)), (0, .ref (xB X + xkey 11 2 0))]) hx hb dX3_firstFault_5 rfl hl (by decide) rfl (fun ls hl => ?_)
  have loop_6 : ∀ (k_6 i : Nat) (pa : Nat → Int32) (ua : Nat → Int32), i + k_6 = 80 → Pok pa → Fff sn k_6 (pa, ua) = Fff sn 80 ((va_up pf 3 0), nb) → ∀ (H : Heap) (locs : List Loc) (ls : Array Slot), XR X G 11 (xMi sv hs pa sn ua) H locs → lv_has ls 2 [(0, .ref (xB X + xkey 11 2 0)), (1, .int (nI i))] → W p l e { frames := 4, cells := 0, slots := 0, locals := 85 } s m args below meth c H locs 0 0 Q0 (F0 m 6 ls []) := by
    intro k_6
    induction k_6 with
    | zero =>
      intro i pa ua hik_6 hv0_6 hsp_6 H locs ls hW hl
      refine lv_iload_n hx hb dX3_firstFault_6 rfl (lv_at hl 1 rfl) ?_
      refine lv_bipush (v := nI 80) hx hb dX3_firstFault_7 (by decide) ?_
      refine lv_icmp_ge (tgt := 58) hx hb dX3_firstFault_9 (by decide) (fun c_2 => ?_) (fun c_2 => absurd (xge_refl (by omega)) c_2)
      refine lv_aload_n hx hb dX3_firstFault_58 rfl (lv_at hl 0 rfl) ?_
      refine r_get hx hb hts hown hK hW (C := RX3) (T := TX3) (xF_mi2) inlX3 rfl (by decide) 3 (by decide) (by decide +kernel) xw_800 rfl (x := pa 3) rfl dX3_firstFault_59 ?_
      obtain rfl : pa = pf' := by (rw [← ho0]) <;> ((show _ = _; unfold Ffirst; rw [← hsp_6]; simp [Fff, Frs2, c_2]))
      obtain rfl : ua = nb' := by (rw [← ho1]) <;> ((show _ = _; unfold Ffirst; rw [← hsp_6]; simp [Fff, Frs2, c_2]))
      obtain rfl : pa 3 = res := by (rw [← hres]) <;> ((show _ = _; unfold Ffirst; rw [← hsp_6]; simp [Fff, Frs2, c_2]))
      rw [hQ0]
      exact x_iret hx hb hret hlocks rfl hW rfl dX3_firstFault_62
    | succ k_6 ih_6 =>
      intro i pa ua hik_6 hv0_6 hsp_6 H locs ls hW hl
      refine lv_iload_n hx hb dX3_firstFault_6 rfl (lv_at hl 1 rfl) ?_
      refine lv_bipush (v := nI 80) hx hb dX3_firstFault_7 (by decide) ?_
      refine lv_icmp_ge (tgt := 58) hx hb dX3_firstFault_9 (by decide) (fun c_3 => absurd c_3 (nI_ge (by omega) (by omega))) (fun c_3 => ?_)
      refine lv_aload_n hx hb dX3_firstFault_12 rfl (lv_at hl 0 rfl) ?_
      obtain ⟨q_4, eq_4⟩ : ∃ z, z = Fro sn (pa, ua) := ⟨_, rfl⟩
      refine x_callV hx hb hml hown hts hK hW hl.1 (c_X3_readOrder l X G  (hp := hv0_6) (hc := (by assumption)) (ho0 := (congrArg (fun z => z.1.1) eq_4.symm)) (ho1 := (congrArg (fun z => z.1.2) eq_4.symm)) (hres := (congrArg (fun z => z.2) eq_4.symm))) (xF_mi2).1 (xF_mi2).2.1 (by decide) rfl xw_805 xw_806 xw_807 xw_27 xw_808 hdV_yX3_readOrder ⟨Nat.le_of_ble_eq_true rfl, Nat.le_of_ble_eq_true rfl⟩ rfl (Nat.le_of_ble_eq_true rfl) ⟨Nat.le_refl _, Nat.le_refl _⟩ dX3_firstFault_13 (fun H locs hW => ?_)
      have hW : XR X G 11 (xMi sv hs q_4.1.1 sn q_4.1.2) H locs := hW
      have hp_5 : Pok q_4.1.1 := by rw [eq_4]; exact Pok_ro (q := (pa, ua)) hv0_6
      refine lv_if_ne (tgt := 24) hx hb dX3_firstFault_16 (by decide) (fun c_6 => ?_) (fun c_6 => ?_)
      · skip
        refine lv_aload_n hx hb dX3_firstFault_24 rfl (lv_at hl 0 rfl) ?_
        refine r_get hx hb hts hown hK hW (C := RX3) (T := TX3) (xF_mi2) inlX3 rfl (by decide) 3 (by decide) (by decide +kernel) xw_800 rfl (x := q_4.1.1 3) rfl dX3_firstFault_25 ?_
        refine lv_aload_n hx hb dX3_firstFault_28 rfl (lv_at hl 0 rfl) ?_
        refine r_get hx hb hts hown hK hW (C := RX3) (T := TX3) (xF_mi2) inlX3 rfl (by decide) 2 (by decide) (by decide +kernel) xw_774 rfl (x := q_4.1.1 2) rfl dX3_firstFault_29 ?_
        refine lv_icmp_lt (tgt := 38) hx hb dX3_firstFault_32 (by decide) (fun c_7 => ?_) (fun c_7 => ?_)
        · skip
          refine lv_aload_n hx hb dX3_firstFault_38 rfl (lv_at hl 0 rfl) ?_
          refine lv_bipush (v := 59) hx hb dX3_firstFault_39 (by decide) ?_
          obtain ⟨q_8, eq_8⟩ : ∃ z, z = Frs 59 sn q_4.1.1 := ⟨_, rfl⟩
          refine x_callV hx hb hml hown hts hK hW hl.1 (c_X3_readSign l X G (w := 59) (hp := hp_5) (hc := (by assumption)) (ho0 := (congrArg (fun z => z.1) eq_8.symm)) (hres := (congrArg (fun z => z.2) eq_8.symm))) (xF_mi2).1 (xF_mi2).2.1 (by decide) rfl xw_815 xw_816 xw_817 xw_27 xw_818 hdV_yX3_readSign ⟨Nat.le_of_ble_eq_true rfl, Nat.le_of_ble_eq_true rfl⟩ rfl (Nat.le_of_ble_eq_true rfl) ⟨Nat.le_refl _, Nat.le_refl _⟩ dX3_firstFault_41 (fun H locs hW => ?_)
          have hW : XR X G 11 (xMi sv hs q_8.1 sn q_4.1.2) H locs := hW
          have hp_9 : Pok q_8.1 := by rw [eq_8]; exact Pok_rs hp_5 (by decide)
          refine lv_if_ne (tgt := 52) hx hb dX3_firstFault_44 (by decide) (fun c_10 => ?_) (fun c_10 => ?_)
          · skip
            refine lv_iinc (v := nI (i + 1)) (lv' := [(1, .int (nI (i + 1))), (0, .ref (xB X + xkey 11 2 0))]) hx hb dX3_firstFault_52 hl (k := 1) rfl (nI_1 i) (by decide) rfl (fun ls hl => ?_)
            refine lv_goto (tgt := 6) hx hb dX3_firstFault_55 (by decide) ?_
            refine ih_6 (i + 1) q_8.1 q_4.1.2 (by omega) hp_9 ?_ H locs ls hW (lv_sub hl [1, 0] rfl)
            rw [← hsp_6]; simp [xloop, xfind, Ffirst, Fff, Frs2, Fff, c_3, ← eq_4, c_6, c_7, Int32.not_le.mpr c_7, ← eq_8, c_10]
          · skip
            refine lv_aload_n hx hb dX3_firstFault_47 rfl (lv_at hl 0 rfl) ?_
            refine r_get hx hb hts hown hK hW (C := RX3) (T := TX3) (xF_mi2) inlX3 rfl (by decide) 3 (by decide) (by decide +kernel) xw_800 rfl (x := q_8.1 3) rfl dX3_firstFault_48 ?_
            obtain rfl : q_8.1 = pf' := by (rw [← ho0]) <;> ((show _ = _; unfold Ffirst; rw [← hsp_6]; simp [Fff, Frs2, c_3, ← eq_4, c_6, c_7, Int32.not_le.mpr c_7, ← eq_8, c_10]))
            obtain rfl : q_4.1.2 = nb' := by (rw [← ho1]) <;> ((show _ = _; unfold Ffirst; rw [← hsp_6]; simp [Fff, Frs2, c_3, ← eq_4, c_6, c_7, Int32.not_le.mpr c_7, ← eq_8, c_10]))
            obtain rfl : q_8.1 3 = res := by (rw [← hres]) <;> ((show _ = _; unfold Ffirst; rw [← hsp_6]; simp [Fff, Frs2, c_3, ← eq_4, c_6, c_7, Int32.not_le.mpr c_7, ← eq_8, c_10]))
            rw [hQ0]
            exact x_iret hx hb hret hlocks rfl hW rfl dX3_firstFault_51
        · skip
          refine lv_bipush (v := (-6)) hx hb dX3_firstFault_35 (by decide) ?_
          obtain rfl : q_4.1.1 = pf' := by (rw [← ho0]) <;> ((show _ = _; unfold Ffirst; rw [← hsp_6]; simp [Fff, Frs2, c_3, ← eq_4, c_6, c_7, Int32.not_lt.mp c_7]))
          obtain rfl : q_4.1.2 = nb' := by (rw [← ho1]) <;> ((show _ = _; unfold Ffirst; rw [← hsp_6]; simp [Fff, Frs2, c_3, ← eq_4, c_6, c_7, Int32.not_lt.mp c_7]))
          obtain rfl : (-6) = res := by (rw [← hres]) <;> ((show _ = _; unfold Ffirst; rw [← hsp_6]; simp [Fff, Frs2, c_3, ← eq_4, c_6, c_7, Int32.not_lt.mp c_7]))
          rw [hQ0]
          exact x_iret hx hb hret hlocks rfl hW rfl dX3_firstFault_37
      · skip
        refine lv_aload_n hx hb dX3_firstFault_19 rfl (lv_at hl 0 rfl) ?_
        refine r_get hx hb hts hown hK hW (C := RX3) (T := TX3) (xF_mi2) inlX3 rfl (by decide) 3 (by decide) (by decide +kernel) xw_800 rfl (x := q_4.1.1 3) rfl dX3_firstFault_20 ?_
        obtain rfl : q_4.1.1 = pf' := by (rw [← ho0]) <;> ((show _ = _; unfold Ffirst; rw [← hsp_6]; simp [Fff, Frs2, c_3, ← eq_4, c_6]))
        obtain rfl : q_4.1.2 = nb' := by (rw [← ho1]) <;> ((show _ = _; unfold Ffirst; rw [← hsp_6]; simp [Fff, Frs2, c_3, ← eq_4, c_6]))
        obtain rfl : q_4.1.1 3 = res := by (rw [← hres]) <;> ((show _ = _; unfold Ffirst; rw [← hsp_6]; simp [Fff, Frs2, c_3, ← eq_4, c_6]))
        rw [hQ0]
        exact x_iret hx hb hret hlocks rfl hW rfl dX3_firstFault_23
  exact loop_6 80 0 (va_up pf 3 0) nb (by omega) hp_1 rfl _ _ _ hW (lv_sub hl [1, 0] rfl)
