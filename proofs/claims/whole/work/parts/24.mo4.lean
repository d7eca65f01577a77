/-! ===== the model: a walker's way ===== -/
def Mmove (r : Nat → Int32) (g : Nat) : Nat → Int32 := xloop (fun k (r : Nat → Int32) => va_up r k (r (k + 2))) (2 * (g - 1)) 8 (va_up r 3 (nI (g - 1)))
def Mend (r : Nat → Int32) (g : Nat) : Nat → Int32 := va_up (va_up (Mmove r g) 4 (-6)) 2 (if g - 1 = 0 then 1 else 0)
theorem xnI_pred {g : Nat} (h : 1 ≤ g) : nI g - 1 = nI (g - 1) := by
  obtain ⟨k, rfl⟩ : ∃ k, g = k + 1 := ⟨g - 1, by omega⟩
  exact xdn1
theorem hdV_yX7_endGoal : yX7_endGoal.cls = RX7 ∧ yX7_endGoal.cls ≠ "java/lang/invoke/MethodHandle" ∧ yX7_endGoal.cls ≠ "java/lang/invoke/VarHandle" ∧ (parseMethodDescriptor yX7_endGoal.desc).map (fun d => d.parameters.length) = some 1 := by decide +kernel
set_option maxHeartbeats 4000000 in
set_option maxRecDepth 100000 in
theorem c_X7_endGoal (l : Launch) (X : xX) (G : xG) {f sg pb pc pd pe pg ph pp pq pt pu : Nat → Int32} {L O Y : Nat → Nat → Int32} {i g : Nat} {ℓ : Nat → Int32} (hi : i < 8) (hg : ℓ 3 = nI g) (hg1 : 1 ≤ g) (hg6 : g ≤ 6) {ℓ' : Nat → Int32} (ho0 : (Mend ℓ g) = ℓ') : XC l yX7_endGoal cX7_endGoal 3 none 1 23 0 0 X xsh [.ref (xB X + xkey 12 0 0), .int (nI i)] 603 603 (xval (xB X) (va_up G 12 (xMa f sg L O (va_up Y i ℓ) pb pc pd pe pg ph pp pq pt pu))) (xval (xB X) (va_up G 12 (xMa f sg L O (va_up Y i ℓ') pb pc pd pe pg ph pp pq pt pu))) none := by
  refine XC.of RX7 "endGoal" [(0, .ref (xB X + xkey 12 0 0)), (1, .int (nI i))] (by decide) rfl rfl (Nat.le_of_ble_eq_true rfl) rfl ?_
  intro p e s m args below meth c ls hx hb hret hml hts hown hlocks hnm hK hW hl
  have hW : XR X G 12 (xMa f sg L O (va_up Y i ℓ) pb pc pd pe pg ph pp pq pt pu) s.heap [] := hW
  obtain ⟨Q0, hQ0⟩ : ∃ z, z = MQ below (xQ X xsh 603 (xval (xB X) (va_up G 12 (xMa f sg L O (va_up Y i ℓ') pb pc pd pe pg ph pp pq pt pu))) none) args s 0 0 (fun q => xB X ≤ q) := ⟨_, rfl⟩
  rw [← hQ0]
  refine lv_aload_n hx hb dX7_endGoal_0 rfl (lv_at hl 0 rfl) ?_
  refine lv_iload_n hx hb dX7_endGoal_1 rfl (lv_at hl 1 rfl) ?_
  refine lv_iconst (v := 3) hx hb dX7_endGoal_2 (by decide) ?_
  refine lv_aload_n hx hb dX7_endGoal_3 rfl (lv_at hl 0 rfl) ?_
  refine lv_iload_n hx hb dX7_endGoal_4 rfl (lv_at hl 1 rfl) ?_
  refine lv_iconst (v := 3) hx hb dX7_endGoal_5 (by decide) ?_
  refine x_callV hx hb hml hown hts hK hW hl.1 (c_X7_ofW l X G (i := i) (w := 3) (hi := hi) (hw := (by decide)) (hres := rfl)) (xF_mo0).1 (xF_mo0).2.1 (by decide) rfl xw_278 xw_279 xw_280 xw_5 xw_281 hdV_yX7_ofW ⟨Nat.le_of_ble_eq_true rfl, Nat.le_of_ble_eq_true rfl⟩ rfl (Nat.le_of_ble_eq_true rfl) ⟨Nat.le_refl _, Nat.le_refl _⟩ dX7_endGoal_6 (fun H locs hW => ?_)
  refine lv_eqi (y := nI g) (xrd hg) ?_
  refine lv_iconst (v := 1) hx hb dX7_endGoal_9 (by decide) ?_
  refine lv_isub hx hb dX7_endGoal_10 ?_
  refine lv_eqi (y := nI (g - 1)) (xnI_pred hg1) ?_
  refine x_callV hx hb hml hown hts hK hW hl.1 (c_X7_layW l X G (i := i) (w := 3) (v := nI (g - 1)) (hi := hi) (hw := (by decide)) ) (xF_mo0).1 (xF_mo0).2.1 (by decide) rfl xw_246 xw_247 xw_248 xw_5 xw_249 hdV_yX7_layW ⟨Nat.le_of_ble_eq_true rfl, Nat.le_of_ble_eq_true rfl⟩ rfl (Nat.le_of_ble_eq_true rfl) ⟨Nat.le_refl _, Nat.le_refl _⟩ dX7_endGoal_11 (fun H locs hW => ?_)
  have hW : XR X G 12 (xMa f sg L O (va_up Y i (va_up ℓ 3 (nI (g - 1)))) pb pc pd pe pg ph pp pq pt pu) H locs := hW
  refine lv_bipush (v := nI 8) hx hb dX7_endGoal_14 (by decide) ?_
  refine lv_istore_n (lv' := [(2, .int (nI 8)), (0, .ref (xB X + xkey 12 0 0)), (1, .int (nI i))]) hx hb dX7_endGoal_16 rfl hl (by decide) rfl (fun ls hl => ?_)
  have loop_17 : ∀ (k_17 k : Nat) (ω : Nat → Int32), (k + k_17 = 8 + 2 * (g - 1) ∧ 8 ≤ k) → ω 3 = nI (g - 1) → xloop (fun k (r : Nat → Int32) => va_up r k (r (k + 2))) k_17 k ω = xloop (fun k (r : Nat → Int32) => va_up r k (r (k + 2))) (2 * (g - 1)) 8 (va_up ℓ 3 (nI (g - 1))) → ∀ (H : Heap) (locs : List Loc) (ls : Array Slot), XR X G 12 (xMa f sg L O (va_up Y i ω) pb pc pd pe pg ph pp pq pt pu) H locs → lv_has ls 3 [(0, .ref (xB X + xkey 12 0 0)), (1, .int (nI i)), (2, .int (nI k))] → W p l e { frames := 1, cells := 0, slots := 0, locals := 23 } s m args below meth c H locs 0 0 Q0 (F0 m 17 ls []) := by
    intro k_17
    induction k_17 with
    | zero =>
      intro k ω hik_17 hv0_17 hsp_17 H locs ls hW hl
      refine lv_iload_n hx hb dX7_endGoal_17 rfl (lv_at hl 2 rfl) ?_
      refine lv_bipush (v := nI 8) hx hb dX7_endGoal_18 (by decide) ?_
      refine lv_iconst (v := nI 2) hx hb dX7_endGoal_20 (by decide) ?_
      refine lv_aload_n hx hb dX7_endGoal_21 rfl (lv_at hl 0 rfl) ?_
      refine lv_iload_n hx hb dX7_endGoal_22 rfl (lv_at hl 1 rfl) ?_
      refine lv_iconst (v := 3) hx hb dX7_endGoal_23 (by decide) ?_
      refine x_callV hx hb hml hown hts hK hW hl.1 (c_X7_ofW l X G (i := i) (w := 3) (hi := hi) (hw := (by decide)) (hres := rfl)) (xF_mo0).1 (xF_mo0).2.1 (by decide) rfl xw_278 xw_279 xw_280 xw_5 xw_281 hdV_yX7_ofW ⟨Nat.le_of_ble_eq_true rfl, Nat.le_of_ble_eq_true rfl⟩ rfl (Nat.le_of_ble_eq_true rfl) ⟨Nat.le_refl _, Nat.le_refl _⟩ dX7_endGoal_24 (fun H locs hW => ?_)
      refine lv_eqi (y := ω 3) (xrd rfl) ?_
      refine lv_eqi (y := nI (g - 1)) hv0_17 ?_
      refine lv_imul hx hb dX7_endGoal_27 ?_
      refine lv_eqi (y := nI (2 * (g - 1))) (xnI_mul 2 (g - 1)) ?_
      refine lv_iadd hx hb dX7_endGoal_28 ?_
      refine lv_eqi (y := nI (8 + 2 * (g - 1))) (nI_add 8 (2 * (g - 1))) ?_
      refine lv_icmp_ge (tgt := 52) hx hb dX7_endGoal_29 (by decide) (fun c_1 => ?_) (fun c_1 => absurd (xge_refl (by omega)) c_1)
      refine lv_aload_n hx hb dX7_endGoal_52 rfl (lv_at hl 0 rfl) ?_
      refine lv_iload_n hx hb dX7_endGoal_53 rfl (lv_at hl 1 rfl) ?_
      refine lv_iconst (v := 4) hx hb dX7_endGoal_54 (by decide) ?_
      refine lv_bipush (v := (-6)) hx hb dX7_endGoal_55 (by decide) ?_
      refine x_callV hx hb hml hown hts hK hW hl.1 (c_X7_layW l X G (i := i) (w := 4) (v := (-6)) (hi := hi) (hw := (by decide)) ) (xF_mo0).1 (xF_mo0).2.1 (by decide) rfl xw_246 xw_247 xw_248 xw_5 xw_249 hdV_yX7_layW ⟨Nat.le_of_ble_eq_true rfl, Nat.le_of_ble_eq_true rfl⟩ rfl (Nat.le_of_ble_eq_true rfl) ⟨Nat.le_refl _, Nat.le_refl _⟩ dX7_endGoal_57 (fun H locs hW => ?_)
      have hW : XR X G 12 (xMa f sg L O (va_up Y i (va_up ω 4 (-6))) pb pc pd pe pg ph pp pq pt pu) H locs := hW
      refine lv_aload_n hx hb dX7_endGoal_60 rfl (lv_at hl 0 rfl) ?_
      refine lv_iload_n hx hb dX7_endGoal_61 rfl (lv_at hl 1 rfl) ?_
      refine lv_iconst (v := 2) hx hb dX7_endGoal_62 (by decide) ?_
      refine lv_aload_n hx hb dX7_endGoal_63 rfl (lv_at hl 0 rfl) ?_
      refine lv_iload_n hx hb dX7_endGoal_64 rfl (lv_at hl 1 rfl) ?_
      refine lv_iconst (v := 3) hx hb dX7_endGoal_65 (by decide) ?_
      refine x_callV hx hb hml hown hts hK hW hl.1 (c_X7_ofW l X G (i := i) (w := 3) (hi := hi) (hw := (by decide)) (hres := rfl)) (xF_mo0).1 (xF_mo0).2.1 (by decide) rfl xw_278 xw_279 xw_280 xw_5 xw_281 hdV_yX7_ofW ⟨Nat.le_of_ble_eq_true rfl, Nat.le_of_ble_eq_true rfl⟩ rfl (Nat.le_of_ble_eq_true rfl) ⟨Nat.le_refl _, Nat.le_refl _⟩ dX7_endGoal_66 (fun H locs hW => ?_)
      refine lv_eqi (y := ω 3) (xrd rfl) ?_
      refine lv_if_ne (tgt := 76) hx hb dX7_endGoal_69 (by decide) (fun c_2 => ?_) (fun c_2 => ?_)
      · skip
        refine lv_iconst (v := 0) hx hb dX7_endGoal_76 (by decide) ?_
        refine x_callV hx hb hml hown hts hK hW hl.1 (c_X7_layW l X G (i := i) (w := 2) (v := 0) (hi := hi) (hw := (by decide)) ) (xF_mo0).1 (xF_mo0).2.1 (by decide) rfl xw_246 xw_247 xw_248 xw_5 xw_249 hdV_yX7_layW ⟨Nat.le_of_ble_eq_true rfl, Nat.le_of_ble_eq_true rfl⟩ rfl (Nat.le_of_ble_eq_true rfl) ⟨Nat.le_refl _, Nat.le_refl _⟩ dX7_endGoal_77 (fun H locs hW => ?_)
        have hW : XR X G 12 (xMa f sg L O (va_up Y i (va_up (va_up ω 4 (-6)) 2 0)) pb pc pd pe pg ph pp pq pt pu) H locs := hW
        obtain rfl : (va_up (va_up ω 4 (-6)) 2 0) = ℓ' := by (rw [← ho0]) <;> (unfold Mend Mmove; rw [← hsp_17]; simp [xloop, c_1, c_2])
        rw [hQ0]
        exact x_vret hx hb hret hlocks hW rfl dX7_endGoal_80
      · skip
        refine lv_iconst (v := 1) hx hb dX7_endGoal_72 (by decide) ?_
        refine lv_goto (tgt := 77) hx hb dX7_endGoal_73 (by decide) ?_
        refine x_callV hx hb hml hown hts hK hW hl.1 (c_X7_layW l X G (i := i) (w := 2) (v := 1) (hi := hi) (hw := (by decide)) ) (xF_mo0).1 (xF_mo0).2.1 (by decide) rfl xw_246 xw_247 xw_248 xw_5 xw_249 hdV_yX7_layW ⟨Nat.le_of_ble_eq_true rfl, Nat.le_of_ble_eq_true rfl⟩ rfl (Nat.le_of_ble_eq_true rfl) ⟨Nat.le_refl _, Nat.le_refl _⟩ dX7_endGoal_77 (fun H locs hW => ?_)
        have hW : XR X G 12 (xMa f sg L O (va_up Y i (va_up (va_up ω 4 (-6)) 2 1)) pb pc pd pe pg ph pp pq pt pu) H locs := hW
        obtain rfl : (va_up (va_up ω 4 (-6)) 2 1) = ℓ' := by (rw [← ho0]) <;> (unfold Mend Mmove; rw [← hsp_17]; simp [xloop, c_1, c_2])
        rw [hQ0]
        exact x_vret hx hb hret hlocks hW rfl dX7_endGoal_80
    | succ k_17 ih_17 =>
      intro k ω hik_17 hv0_17 hsp_17 H locs ls hW hl
      refine lv_iload_n hx hb dX7_endGoal_17 rfl (lv_at hl 2 rfl) ?_
      refine lv_bipush (v := nI 8) hx hb dX7_endGoal_18 (by decide) ?_
      refine lv_iconst (v := nI 2) hx hb dX7_endGoal_20 (by decide) ?_
      refine lv_aload_n hx hb dX7_endGoal_21 rfl (lv_at hl 0 rfl) ?_
      refine lv_iload_n hx hb dX7_endGoal_22 rfl (lv_at hl 1 rfl) ?_
      refine lv_iconst (v := 3) hx hb dX7_endGoal_23 (by decide) ?_
      refine x_callV hx hb hml hown hts hK hW hl.1 (c_X7_ofW l X G (i := i) (w := 3) (hi := hi) (hw := (by decide)) (hres := rfl)) (xF_mo0).1 (xF_mo0).2.1 (by decide) rfl xw_278 xw_279 xw_280 xw_5 xw_281 hdV_yX7_ofW ⟨Nat.le_of_ble_eq_true rfl, Nat.le_of_ble_eq_true rfl⟩ rfl (Nat.le_of_ble_eq_true rfl) ⟨Nat.le_refl _, Nat.le_refl _⟩ dX7_endGoal_24 (fun H locs hW => ?_)
      refine lv_eqi (y := ω 3) (xrd rfl) ?_
      refine lv_eqi (y := nI (g - 1)) hv0_17 ?_
      refine lv_imul hx hb dX7_endGoal_27 ?_
      refine lv_eqi (y := nI (2 * (g - 1))) (xnI_mul 2 (g - 1)) ?_
      refine lv_iadd hx hb dX7_endGoal_28 ?_
      refine lv_eqi (y := nI (8 + 2 * (g - 1))) (nI_add 8 (2 * (g - 1))) ?_
      refine lv_icmp_ge (tgt := 52) hx hb dX7_endGoal_29 (by decide) (fun c_3 => absurd c_3 (nI_ge (by omega) (by omega))) (fun c_3 => ?_)
      refine lv_aload_n hx hb dX7_endGoal_32 rfl (lv_at hl 0 rfl) ?_
      refine lv_iload_n hx hb dX7_endGoal_33 rfl (lv_at hl 1 rfl) ?_
      refine lv_iload_n hx hb dX7_endGoal_34 rfl (lv_at hl 2 rfl) ?_
      refine lv_aload_n hx hb dX7_endGoal_35 rfl (lv_at hl 0 rfl) ?_
      refine lv_iload_n hx hb dX7_endGoal_36 rfl (lv_at hl 1 rfl) ?_
      refine lv_iload_n hx hb dX7_endGoal_37 rfl (lv_at hl 2 rfl) ?_
      refine lv_iconst (v := nI 2) hx hb dX7_endGoal_38 (by decide) ?_
      refine lv_iadd hx hb dX7_endGoal_39 ?_
      refine lv_eqi (y := nI (k + 2)) (nI_add k 2) ?_
      refine x_callV hx hb hml hown hts hK hW hl.1 (c_X7_ofW l X G (i := i) (w := k + 2) (hi := hi) (hw := (by omega)) (hres := rfl)) (xF_mo0).1 (xF_mo0).2.1 (by decide) rfl xw_278 xw_279 xw_280 xw_5 xw_281 hdV_yX7_ofW ⟨Nat.le_of_ble_eq_true rfl, Nat.le_of_ble_eq_true rfl⟩ rfl (Nat.le_of_ble_eq_true rfl) ⟨Nat.le_refl _, Nat.le_refl _⟩ dX7_endGoal_40 (fun H locs hW => ?_)
      refine lv_eqi (y := ω (k + 2)) (xrd rfl) ?_
      refine x_callV hx hb hml hown hts hK hW hl.1 (c_X7_layW l X G (i := i) (w := k) (v := ω (k + 2)) (hi := hi) (hw := (by omega)) ) (xF_mo0).1 (xF_mo0).2.1 (by decide) rfl xw_246 xw_247 xw_248 xw_5 xw_249 hdV_yX7_layW ⟨Nat.le_of_ble_eq_true rfl, Nat.le_of_ble_eq_true rfl⟩ rfl (Nat.le_of_ble_eq_true rfl) ⟨Nat.le_refl _, Nat.le_refl _⟩ dX7_endGoal_43 (fun H locs hW => ?_)
      have hW : XR X G 12 (xMa f sg L O (va_up Y i (va_up ω k (ω (k + 2)))) pb pc pd pe pg ph pp pq pt pu) H locs := hW
      refine lv_iinc (v := nI (k + 1)) (lv' := [(2, .int (nI (k + 1))), (0, .ref (xB X + xkey 12 0 0)), (1, .int (nI i))]) hx hb dX7_endGoal_46 hl (k := 2) rfl (nI_1 k) (by decide) rfl (fun ls hl => ?_)
      refine lv_goto (tgt := 17) hx hb dX7_endGoal_49 (by decide) ?_
      refine ih_17 (k + 1) (va_up ω k (ω (k + 2))) (by omega) (by rw [va_up_ne _ _ (by omega)]; exact hv0_17) ?_ H locs ls hW (lv_sub hl [1, 2, 0] rfl)
      rw [← hsp_17]; rfl
  exact loop_17 (2 * (g - 1)) 8 (va_up ℓ 3 (nI (g - 1))) (by omega) rfl rfl _ _ _ hW (lv_sub hl [1, 2, 0] rfl)
