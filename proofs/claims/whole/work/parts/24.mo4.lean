/-! ===== the model: a walker's way ===== -/
def Mmove (r : Nat → Int32) (g : Nat) : Nat → Int32 := xloop (fun k (r : Nat → Int32) => va_up r k (r (k + 2))) (2 * (g - 1)) 8 (va_up r 3 (nI (g - 1)))
def Mend (r : Nat → Int32) (g : Nat) : Nat → Int32 := va_up (va_up (Mmove r g) 4 (-6)) 2 (if nI (g - 1) = 0 then 1 else 0)
theorem xnI_pred {g : Nat} (h : 1 ≤ g) : nI g - 1 = nI (g - 1) := by
  obtain ⟨k, rfl⟩ : ∃ k, g = k + 1 := ⟨g - 1, by omega⟩
  exact xdn1
def Mby (r : Nat → Int32) : Int32 := if Mfar (r 0) (r 8) < r 1 then Mfar (r 0) (r 8) else r 1
def Mto (r : Nat → Int32) : Int32 := if r 8 < r 0 then r 0 - Mby r else r 0 + Mby r
def Mwent (r : Nat → Int32) : Nat → Int32 := va_up (va_up r 0 (Mto r)) 6 (r 6 + Mby r)
def Mwalk (r : Nat → Int32) (g : Nat) : Nat → Int32 := if Mto r = r 8 then (if 0 < r 9 then va_up (Mwent r) 4 0 else Mend (Mwent r) g) else Mwent r
def Mgo (r : Nat → Int32) (g : Nat) : Nat → Int32 :=
  if Mstr r = 0 then r else if nI g = 0 then r else if r 4 < 0 then Mwalk r g else if r 4 + 1 = r 9 then Mend (va_up r 4 (r 4 + 1)) g else va_up r 4 (r 4 + 1)
theorem xg1 {g : Nat} (h : ¬ nI g = 0) : 1 ≤ g := by
  rcases Nat.eq_zero_or_pos g with rfl | h'
  · exact absurd rfl h
  · exact h'
theorem hdV_yX7_endGoal : yX7_endGoal.cls = RX7 ∧ yX7_endGoal.cls ≠ "java/lang/invoke/MethodHandle" ∧ yX7_endGoal.cls ≠ "java/lang/invoke/VarHandle" ∧ (parseMethodDescriptor yX7_endGoal.desc).map (fun d => d.parameters.length) = some 1 := by decide +kernel
theorem hdV_yX7_walk : yX7_walk.cls = RX7 ∧ yX7_walk.cls ≠ "java/lang/invoke/MethodHandle" ∧ yX7_walk.cls ≠ "java/lang/invoke/VarHandle" ∧ (parseMethodDescriptor yX7_walk.desc).map (fun d => d.parameters.length) = some 1 := by decide +kernel
theorem hdV_yX7_go : yX7_go.cls = RX7 ∧ yX7_go.cls ≠ "java/lang/invoke/MethodHandle" ∧ yX7_go.cls ≠ "java/lang/invoke/VarHandle" ∧ (parseMethodDescriptor yX7_go.desc).map (fun d => d.parameters.length) = some 1 := by decide +kernel
set_option maxHeartbeats 4000000 in
set_option maxRecDepth 100000 in
theorem c_X7_endGoal (l : Launch) (X : xX) (G : xG) {f sg pb pc pd pe pg ph pp pq pt pu : Nat → Int32} {L O Y : Nat → Nat → Int32} {i g : Nat} {ℓ : Nat → Int32} (hi : i < 8) (hg : ℓ 3 = nI g) (hg1 : 1 ≤ g) (hg6 : g ≤ 6) {ℓ' : Nat → Int32} (ho0 : (Mend ℓ g) = ℓ') : XC l yX7_endGoal cX7_endGoal 3 none 1 23 0 0 X xsh [.ref (xB X + xkey 12 0 0), .int (nI i)] 603 603 (xval (xB X) (va_up G 12 (xMa f sg L O (va_up Y i ℓ) pb pc pd pe pg ph pp pq pt pu))) (xval (xB X) (va_up G 12 (xMa f sg L O (va_up Y i ℓ') pb pc pd pe pg ph pp pq pt pu))) none := by
  refine XC.of RX7 "endGoal" [(0, .ref (xB X + xkey 12 0 0)), (1, .int (nI i))] (by decide) rfl rfl (Nat.le_of_ble_eq_true rfl) rfl ?_
  intro p e s m args below meth c ls hx hb hret hml hts hown hlocks hnm hK hW hl
  have hW : XR X G 12 (xMa f sg L O (va_up Y i ℓ) pb pc pd pe pg ph pp pq pt pu) s.heap [] := hW
  obtain ⟨Q0, hQ0⟩ : ∃ z, z = MQ below (xQ X xsh 603 (xval (xB X) (va_up G 12 (xMa f sg L O (va_up Y i ℓ') pb pc pd pe pg ph pp pq pt pu))) none) args s 0 0 (fun q => xB X ≤ q) := ⟨_, rfl⟩
  rw [← hQ0]
  refine lv_aload_n hx hb dX7_endGoal_0 rfl (lv_at hl 0 rfl) ?_
  refine lv_iload_n hx hb dX7_endGoal_1 rfl (lv_at hl 1 rfl) ?_
  refine lv_iconst (v := 3) hx hb dX7_endGoal_2 (by decide) ?_
  refine lv_aload_n hx hb dX7_endGoal_3 rfl (lv_at hl 0 rfl) ?_
  refine lv_iload_n hx hb dX7_endGoal_4 rfl (lv_at hl 1 rfl) ?_
  refine lv_iconst (v := 3) hx hb dX7_endGoal_5 (by decide) ?_
  refine x_callV hx hb hml hown hts hK hW hl.1 (c_X7_ofW l X G (i := i) (w := 3) (hi := hi) (hw := (by decide)) (hres := rfl)) (xF_mo0).1 (xF_mo0).2.1 (by decide) rfl xw_278 xw_279 xw_280 xw_5 xw_281 hdV_yX7_ofW ⟨Nat.le_of_ble_eq_true rfl, Nat.le_of_ble_eq_true rfl⟩ rfl (Nat.le_of_ble_eq_true rfl) ⟨Nat.le_refl _, Nat.le_refl _⟩ dX7_endGoal_6 (fun H locs hW => ?_)
  refine lv_eqi (y := nI g) (xrd hg) ?_
  refine lv_iconst (v := 1) hx hb dX7_endGoal_9 (by decide) ?_
  refine lv_isub hx hb dX7_endGoal_10 ?_
  refine lv_eqi (y := nI (g - 1)) (xnI_pred hg1) ?_
  refine x_callV hx hb hml hown hts hK hW hl.1 (c_X7_layW l X G (i := i) (w := 3) (v := nI (g - 1)) (hi := hi) (hw := (by decide)) ) (xF_mo0).1 (xF_mo0).2.1 (by decide) rfl xw_246 xw_247 xw_248 xw_5 xw_249 hdV_yX7_layW ⟨Nat.le_of_ble_eq_true rfl, Nat.le_of_ble_eq_true rfl⟩ rfl (Nat.le_of_ble_eq_true rfl) ⟨Nat.le_refl _, Nat.le_refl _⟩ dX7_endGoal_11 (fun H locs hW => ?_)
  have hW : XR X G 12 (xMa f sg L O (va_up Y i (va_up ℓ 3 (nI (g - 1)))) pb pc pd pe pg ph pp pq pt pu) H locs := hW
  refine lv_bipush (v := nI 8) hx hb dX7_endGoal_14 (by decide) ?_
  refine lv_istore_n (lv' := [(2, .int (nI 8)), (0, .ref (xB X + xkey 12 0 0)), (1, .int (nI i))]) hx hb dX7_endGoal_16 rfl hl (by decide) rfl (fun ls hl => ?_)
  have loop_17 : ∀ (k_17 k : Nat) (ω : Nat → Int32), (k + k_17 = 8 + 2 * (g - 1) ∧ 8 ≤ k) → ω 3 = nI (g - 1) → xloop (fun k (r : Nat → Int32) => va_up r k (r (k + 2))) k_17 k ω = xloop (fun k (r : Nat → Int32) => va_up r k (r (k + 2))) (2 * (g - 1)) 8 (va_up ℓ 3 (nI (g - 1))) → ∀ (H : Heap) (locs : List Loc) (ls : Array Slot), XR X G 12 (xMa f sg L O (va_up Y i ω) pb pc pd pe pg ph pp pq pt pu) H locs → lv_has ls 3 [(0, .ref (xB X + xkey 12 0 0)), (1, .int (nI i)), (2, .int (nI k))] → W p l e { frames := 1, cells := 0, slots := 0, locals := 23 } s m args below meth c H locs 0 0 Q0 (F0 m 17 ls []) := by
    intro k_17
    induction k_17 with
    | zero =>
      intro k ω hik_17 hv0_17 hsp_17 H locs ls hW hl
      refine lv_iload_n hx hb dX7_endGoal_17 rfl (lv_at hl 2 rfl) ?_
      refine lv_bipush (v := nI 8) hx hb dX7_endGoal_18 (by decide) ?_
      refine lv_iconst (v := nI 2) hx hb dX7_endGoal_20 (by decide) ?_
      refine lv_aload_n hx hb dX7_endGoal_21 rfl (lv_at hl 0 rfl) ?_
      refine lv_iload_n hx hb dX7_endGoal_22 rfl (lv_at hl 1 rfl) ?_
      refine lv_iconst (v := 3) hx hb dX7_endGoal_23 (by decide) ?_
      refine x_callV hx hb hml hown hts hK hW hl.1 (c_X7_ofW l X G (i := i) (w := 3) (hi := hi) (hw := (by decide)) (hres := rfl)) (xF_mo0).1 (xF_mo0).2.1 (by decide) rfl xw_278 xw_279 xw_280 xw_5 xw_281 hdV_yX7_ofW ⟨Nat.le_of_ble_eq_true rfl, Nat.le_of_ble_eq_true rfl⟩ rfl (Nat.le_of_ble_eq_true rfl) ⟨Nat.le_refl _, Nat.le_refl _⟩ dX7_endGoal_24 (fun H locs hW => ?_)
      refine lv_eqi (y := ω 3) (xrd rfl) ?_
      refine lv_eqi (y := nI (g - 1)) hv0_17 ?_
      refine lv_imul hx hb dX7_endGoal_27 ?_
      refine lv_eqi (y := nI (2 * (g - 1))) (xnI_mul 2 (g - 1)) ?_
      refine lv_iadd hx hb dX7_endGoal_28 ?_
      refine lv_eqi (y := nI (8 + 2 * (g - 1))) (nI_add 8 (2 * (g - 1))) ?_
      refine lv_icmp_ge (tgt := 52) hx hb dX7_endGoal_29 (by decide) (fun c_1 => ?_) (fun c_1 => absurd (xge_refl (by omega)) c_1)
      refine lv_aload_n hx hb dX7_endGoal_52 rfl (lv_at hl 0 rfl) ?_
      refine lv_iload_n hx hb dX7_endGoal_53 rfl (lv_at hl 1 rfl) ?_
      refine lv_iconst (v := 4) hx hb dX7_endGoal_54 (by decide) ?_
      refine lv_bipush (v := (-6)) hx hb dX7_endGoal_55 (by decide) ?_
      refine x_callV hx hb hml hown hts hK hW hl.1 (c_X7_layW l X G (i := i) (w := 4) (v := (-6)) (hi := hi) (hw := (by decide)) ) (xF_mo0).1 (xF_mo0).2.1 (by decide) rfl xw_246 xw_247 xw_248 xw_5 xw_249 hdV_yX7_layW ⟨Nat.le_of_ble_eq_true rfl, Nat.le_of_ble_eq_true rfl⟩ rfl (Nat.le_of_ble_eq_true rfl) ⟨Nat.le_refl _, Nat.le_refl _⟩ dX7_endGoal_57 (fun H locs hW => ?_)
      have hW : XR X G 12 (xMa f sg L O (va_up Y i (va_up ω 4 (-6))) pb pc pd pe pg ph pp pq pt pu) H locs := hW
      refine lv_aload_n hx hb dX7_endGoal_60 rfl (lv_at hl 0 rfl) ?_
      refine lv_iload_n hx hb dX7_endGoal_61 rfl (lv_at hl 1 rfl) ?_
      refine lv_iconst (v := 2) hx hb dX7_endGoal_62 (by decide) ?_
      refine lv_aload_n hx hb dX7_endGoal_63 rfl (lv_at hl 0 rfl) ?_
      refine lv_iload_n hx hb dX7_endGoal_64 rfl (lv_at hl 1 rfl) ?_
      refine lv_iconst (v := 3) hx hb dX7_endGoal_65 (by decide) ?_
      refine x_callV hx hb hml hown hts hK hW hl.1 (c_X7_ofW l X G (i := i) (w := 3) (hi := hi) (hw := (by decide)) (hres := rfl)) (xF_mo0).1 (xF_mo0).2.1 (by decide) rfl xw_278 xw_279 xw_280 xw_5 xw_281 hdV_yX7_ofW ⟨Nat.le_of_ble_eq_true rfl, Nat.le_of_ble_eq_true rfl⟩ rfl (Nat.le_of_ble_eq_true rfl) ⟨Nat.le_refl _, Nat.le_refl _⟩ dX7_endGoal_66 (fun H locs hW => ?_)
      refine lv_eqi (y := ω 3) (xrd rfl) ?_
      refine lv_eqi (y := nI (g - 1)) hv0_17 ?_
      refine lv_if_ne (tgt := 76) hx hb dX7_endGoal_69 (by decide) (fun c_2 => ?_) (fun c_2 => ?_)
      · skip
        refine lv_iconst (v := 0) hx hb dX7_endGoal_76 (by decide) ?_
        refine x_callV hx hb hml hown hts hK hW hl.1 (c_X7_layW l X G (i := i) (w := 2) (v := 0) (hi := hi) (hw := (by decide)) ) (xF_mo0).1 (xF_mo0).2.1 (by decide) rfl xw_246 xw_247 xw_248 xw_5 xw_249 hdV_yX7_layW ⟨Nat.le_of_ble_eq_true rfl, Nat.le_of_ble_eq_true rfl⟩ rfl (Nat.le_of_ble_eq_true rfl) ⟨Nat.le_refl _, Nat.le_refl _⟩ dX7_endGoal_77 (fun H locs hW => ?_)
        have hW : XR X G 12 (xMa f sg L O (va_up Y i (va_up (va_up ω 4 (-6)) 2 0)) pb pc pd pe pg ph pp pq pt pu) H locs := hW
        obtain rfl : (va_up (va_up ω 4 (-6)) 2 0) = ℓ' := by (rw [← ho0]) <;> (unfold Mend Mmove; rw [← hsp_17]; simp [xloop, c_1, c_2])
        rw [hQ0]
        exact x_vret hx hb hret hlocks hW rfl dX7_endGoal_80
      · skip
        refine lv_iconst (v := 1) hx hb dX7_endGoal_72 (by decide) ?_
        refine lv_goto (tgt := 77) hx hb dX7_endGoal_73 (by decide) ?_
        refine x_callV hx hb hml hown hts hK hW hl.1 (c_X7_layW l X G (i := i) (w := 2) (v := 1) (hi := hi) (hw := (by decide)) ) (xF_mo0).1 (xF_mo0).2.1 (by decide) rfl xw_246 xw_247 xw_248 xw_5 xw_249 hdV_yX7_layW ⟨Nat.le_of_ble_eq_true rfl, Nat.le_of_ble_eq_true rfl⟩ rfl (Nat.le_of_ble_eq_true rfl) ⟨Nat.le_refl _, Nat.le_refl _⟩ dX7_endGoal_77 (fun H locs hW => ?_)
        have hW : XR X G 12 (xMa f sg L O (va_up Y i (va_up (va_up ω 4 (-6)) 2 1)) pb pc pd pe pg ph pp pq pt pu) H locs := hW
        obtain rfl : (va_up (va_up ω 4 (-6)) 2 1) = ℓ' := by (rw [← ho0]) <;> (unfold Mend Mmove; rw [← hsp_17]; simp [xloop, c_1, c_2])
        rw [hQ0]
        exact x_vret hx hb hret hlocks hW rfl dX7_endGoal_80
    | succ k_17 ih_17 =>
      intro k ω hik_17 hv0_17 hsp_17 H locs ls hW hl
      refine lv_iload_n hx hb dX7_endGoal_17 rfl (lv_at hl 2 rfl) ?_
      refine lv_bipush (v := nI 8) hx hb dX7_endGoal_18 (by decide) ?_
      refine lv_iconst (v := nI 2) hx hb dX7_endGoal_20 (by decide) ?_
      refine lv_aload_n hx hb dX7_endGoal_21 rfl (lv_at hl 0 rfl) ?_
      refine lv_iload_n hx hb dX7_endGoal_22 rfl (lv_at hl 1 rfl) ?_
      refine lv_iconst (v := 3) hx hb dX7_endGoal_23 (by decide) ?_
      refine x_callV hx hb hml hown hts hK hW hl.1 (c_X7_ofW l X G (i := i) (w := 3) (hi := hi) (hw := (by decide)) (hres := rfl)) (xF_mo0).1 (xF_mo0).2.1 (by decide) rfl xw_278 xw_279 xw_280 xw_5 xw_281 hdV_yX7_ofW ⟨Nat.le_of_ble_eq_true rfl, Nat.le_of_ble_eq_true rfl⟩ rfl (Nat.le_of_ble_eq_true rfl) ⟨Nat.le_refl _, Nat.le_refl _⟩ dX7_endGoal_24 (fun H locs hW => ?_)
      refine lv_eqi (y := ω 3) (xrd rfl) ?_
      refine lv_eqi (y := nI (g - 1)) hv0_17 ?_
      refine lv_imul hx hb dX7_endGoal_27 ?_
      refine lv_eqi (y := nI (2 * (g - 1))) (xnI_mul 2 (g - 1)) ?_
      refine lv_iadd hx hb dX7_endGoal_28 ?_
      refine lv_eqi (y := nI (8 + 2 * (g - 1))) (nI_add 8 (2 * (g - 1))) ?_
      refine lv_icmp_ge (tgt := 52) hx hb dX7_endGoal_29 (by decide) (fun c_3 => absurd c_3 (nI_ge (by omega) (by omega))) (fun c_3 => ?_)
      refine lv_aload_n hx hb dX7_endGoal_32 rfl (lv_at hl 0 rfl) ?_
      refine lv_iload_n hx hb dX7_endGoal_33 rfl (lv_at hl 1 rfl) ?_
      refine lv_iload_n hx hb dX7_endGoal_34 rfl (lv_at hl 2 rfl) ?_
      refine lv_aload_n hx hb dX7_endGoal_35 rfl (lv_at hl 0 rfl) ?_
      refine lv_iload_n hx hb dX7_endGoal_36 rfl (lv_at hl 1 rfl) ?_
      refine lv_iload_n hx hb dX7_endGoal_37 rfl (lv_at hl 2 rfl) ?_
      refine lv_iconst (v := nI 2) hx hb dX7_endGoal_38 (by decide) ?_
      refine lv_iadd hx hb dX7_endGoal_39 ?_
      refine lv_eqi (y := nI (k + 2)) (nI_add k 2) ?_
      refine x_callV hx hb hml hown hts hK hW hl.1 (c_X7_ofW l X G (i := i) (w := k + 2) (hi := hi) (hw := (by omega)) (hres := rfl)) (xF_mo0).1 (xF_mo0).2.1 (by decide) rfl xw_278 xw_279 xw_280 xw_5 xw_281 hdV_yX7_ofW ⟨Nat.le_of_ble_eq_true rfl, Nat.le_of_ble_eq_true rfl⟩ rfl (Nat.le_of_ble_eq_true rfl) ⟨Nat.le_refl _, Nat.le_refl _⟩ dX7_endGoal_40 (fun H locs hW => ?_)
      refine lv_eqi (y := ω (k + 2)) (xrd rfl) ?_
      refine x_callV hx hb hml hown hts hK hW hl.1 (c_X7_layW l X G (i := i) (w := k) (v := ω (k + 2)) (hi := hi) (hw := (by omega)) ) (xF_mo0).1 (xF_mo0).2.1 (by decide) rfl xw_246 xw_247 xw_248 xw_5 xw_249 hdV_yX7_layW ⟨Nat.le_of_ble_eq_true rfl, Nat.le_of_ble_eq_true rfl⟩ rfl (Nat.le_of_ble_eq_true rfl) ⟨Nat.le_refl _, Nat.le_refl _⟩ dX7_endGoal_43 (fun H locs hW => ?_)
      have hW : XR X G 12 (xMa f sg L O (va_up Y i (va_up ω k (ω (k + 2)))) pb pc pd pe pg ph pp pq pt pu) H locs := hW
      refine lv_iinc (v := nI (k + 1)) (lv' := [(2, .int (nI (k + 1))), (0, .ref (xB X + xkey 12 0 0)), (1, .int (nI i))]) hx hb dX7_endGoal_46 hl (k := 2) rfl (nI_1 k) (by decide) rfl (fun ls hl => ?_)
      refine lv_goto (tgt := 17) hx hb dX7_endGoal_49 (by decide) ?_
      refine ih_17 (k + 1) (va_up ω k (ω (k + 2))) (by omega) (by rw [va_up_ne _ _ (by omega)]; exact hv0_17) ?_ H locs ls hW (lv_sub hl [1, 2, 0] rfl)
      rw [← hsp_17]; rfl
  exact loop_17 (2 * (g - 1)) 8 (va_up ℓ 3 (nI (g - 1))) (by omega) rfl rfl _ _ _ hW (lv_sub hl [1, 2, 0] rfl)
set_option maxHeartbeats 4000000 in
set_option maxRecDepth 100000 in
theorem c_X7_walk (l : Launch) (X : xX) (G : xG) {f sg pb pc pd pe pg ph pp pq pt pu : Nat → Int32} {L O Y : Nat → Nat → Int32} {i g : Nat} {ℓ : Nat → Int32} (hi : i < 8) (hg : ℓ 3 = nI g) (hg1 : 1 ≤ g) (hg6 : g ≤ 6) {ℓ' : Nat → Int32} (ho0 : (Mwalk ℓ g) = ℓ') : XC l yX7_walk cX7_walk 5 none 2 45 0 0 X xsh [.ref (xB X + xkey 12 0 0), .int (nI i)] 603 603 (xval (xB X) (va_up G 12 (xMa f sg L O (va_up Y i ℓ) pb pc pd pe pg ph pp pq pt pu))) (xval (xB X) (va_up G 12 (xMa f sg L O (va_up Y i ℓ') pb pc pd pe pg ph pp pq pt pu))) none := by
  refine XC.of RX7 "walk" [(0, .ref (xB X + xkey 12 0 0)), (1, .int (nI i))] (by decide) rfl rfl (Nat.le_of_ble_eq_true rfl) rfl ?_
  intro p e s m args below meth c ls hx hb hret hml hts hown hlocks hnm hK hW hl
  have hW : XR X G 12 (xMa f sg L O (va_up Y i ℓ) pb pc pd pe pg ph pp pq pt pu) s.heap [] := hW
  obtain ⟨Q0, hQ0⟩ : ∃ z, z = MQ below (xQ X xsh 603 (xval (xB X) (va_up G 12 (xMa f sg L O (va_up Y i ℓ') pb pc pd pe pg ph pp pq pt pu))) none) args s 0 0 (fun q => xB X ≤ q) := ⟨_, rfl⟩
  rw [← hQ0]
  refine lv_aload_n hx hb dX7_walk_0 rfl (lv_at hl 0 rfl) ?_
  refine lv_iload_n hx hb dX7_walk_1 rfl (lv_at hl 1 rfl) ?_
  refine lv_bipush (v := 8) hx hb dX7_walk_2 (by decide) ?_
  refine x_callV hx hb hml hown hts hK hW hl.1 (c_X7_ofW l X G (i := i) (w := 8) (hi := hi) (hw := (by decide)) (hres := rfl)) (xF_mo0).1 (xF_mo0).2.1 (by decide) rfl xw_278 xw_279 xw_280 xw_5 xw_281 hdV_yX7_ofW ⟨Nat.le_of_ble_eq_true rfl, Nat.le_of_ble_eq_true rfl⟩ rfl (Nat.le_of_ble_eq_true rfl) ⟨Nat.le_refl _, Nat.le_refl _⟩ dX7_walk_4 (fun H locs hW => ?_)
  refine lv_eqi (y := ℓ 8) (xrd rfl) ?_
  refine lv_istore_n (lv' := [(2, .int (ℓ 8)), (0, .ref (xB X + xkey 12 0 0)), (1, .int (nI i))]) hx hb dX7_walk_7 rfl hl (by decide) rfl (fun ls hl => ?_)
  refine lv_aload_n hx hb dX7_walk_8 rfl (lv_at hl 1 rfl) ?_
  refine lv_iload_n hx hb dX7_walk_9 rfl (lv_at hl 2 rfl) ?_
  refine lv_iconst (v := 0) hx hb dX7_walk_10 (by decide) ?_
  refine x_callV hx hb hml hown hts hK hW hl.1 (c_X7_ofW l X G (i := i) (w := 0) (hi := hi) (hw := (by decide)) (hres := rfl)) (xF_mo0).1 (xF_mo0).2.1 (by decide) rfl xw_278 xw_279 xw_280 xw_5 xw_281 hdV_yX7_ofW ⟨Nat.le_of_ble_eq_true rfl, Nat.le_of_ble_eq_true rfl⟩ rfl (Nat.le_of_ble_eq_true rfl) ⟨Nat.le_refl _, Nat.le_refl _⟩ dX7_walk_11 (fun H locs hW => ?_)
  refine lv_eqi (y := ℓ 0) (xrd rfl) ?_
  refine lv_istore_n (lv' := [(3, .int (ℓ 0)), (2, .int (ℓ 8)), (0, .ref (xB X + xkey 12 0 0)), (1, .int (nI i))]) hx hb dX7_walk_14 rfl hl (by decide) rfl (fun ls hl => ?_)
  refine lv_iload_n hx hb dX7_walk_15 rfl (lv_at hl 0 rfl) ?_
  refine lv_iload_n hx hb dX7_walk_16 rfl (lv_at hl 1 rfl) ?_
  refine x_callS hx hb hml hown hts hK hW hl.1 (c_X7_far l X _ (a := ℓ 0) (b := ℓ 8) (hres := rfl)) xw_385 xw_386 xw_5 xw_387 hdS_yX7_far ⟨Nat.le_of_ble_eq_true rfl, Nat.le_of_ble_eq_true rfl⟩ rfl (Nat.le_of_ble_eq_true rfl) ⟨Nat.le_refl _, Nat.le_refl _⟩ dX7_walk_17 (fun H locs hW => ?_)
  refine lv_aload_n hx hb dX7_walk_20 rfl (lv_at hl 2 rfl) ?_
  refine lv_iload_n hx hb dX7_walk_21 rfl (lv_at hl 3 rfl) ?_
  refine lv_iconst (v := 1) hx hb dX7_walk_22 (by decide) ?_
  refine x_callV hx hb hml hown hts hK hW hl.1 (c_X7_ofW l X G (i := i) (w := 1) (hi := hi) (hw := (by decide)) (hres := rfl)) (xF_mo0).1 (xF_mo0).2.1 (by decide) rfl xw_278 xw_279 xw_280 xw_5 xw_281 hdV_yX7_ofW ⟨Nat.le_of_ble_eq_true rfl, Nat.le_of_ble_eq_true rfl⟩ rfl (Nat.le_of_ble_eq_true rfl) ⟨Nat.le_refl _, Nat.le_refl _⟩ dX7_walk_23 (fun H locs hW => ?_)
  refine lv_eqi (y := ℓ 1) (xrd rfl) ?_
  refine lv_icmp_ge (tgt := 37) hx hb dX7_walk_26 (by decide) (fun c_1 => ?_) (fun c_1 => ?_)
  · skip
    refine lv_aload_n hx hb dX7_walk_37 rfl (lv_at hl 2 rfl) ?_
    refine lv_iload_n hx hb dX7_walk_38 rfl (lv_at hl 3 rfl) ?_
    refine lv_iconst (v := 1) hx hb dX7_walk_39 (by decide) ?_
    refine x_callV hx hb hml hown hts hK hW hl.1 (c_X7_ofW l X G (i := i) (w := 1) (hi := hi) (hw := (by decide)) (hres := rfl)) (xF_mo0).1 (xF_mo0).2.1 (by decide) rfl xw_278 xw_279 xw_280 xw_5 xw_281 hdV_yX7_ofW ⟨Nat.le_of_ble_eq_true rfl, Nat.le_of_ble_eq_true rfl⟩ rfl (Nat.le_of_ble_eq_true rfl) ⟨Nat.le_refl _, Nat.le_refl _⟩ dX7_walk_40 (fun H locs hW => ?_)
    refine lv_eqi (y := ℓ 1) (xrd rfl) ?_
    refine lv_istore (lv' := [(4, .int (ℓ 1)), (3, .int (ℓ 0)), (2, .int (ℓ 8)), (0, .ref (xB X + xkey 12 0 0)), (1, .int (nI i))]) hx hb dX7_walk_43 hl (by decide) rfl (fun ls hl => ?_)
    refine lv_aload_n hx hb dX7_walk_45 rfl (lv_at hl 3 rfl) ?_
    refine lv_iload_n hx hb dX7_walk_46 rfl (lv_at hl 4 rfl) ?_
    refine lv_iconst (v := 0) hx hb dX7_walk_47 (by decide) ?_
    refine lv_iload_n hx hb dX7_walk_48 rfl (lv_at hl 2 rfl) ?_
    refine lv_iload_n hx hb dX7_walk_49 rfl (lv_at hl 1 rfl) ?_
    refine lv_icmp_ge (tgt := 60) hx hb dX7_walk_50 (by decide) (fun c_2 => ?_) (fun c_2 => ?_)
    · skip
      refine lv_iload_n hx hb dX7_walk_60 rfl (lv_at hl 1 rfl) ?_
      refine lv_iload hx hb dX7_walk_61 (lv_at hl 0 rfl) ?_
      refine lv_iadd hx hb dX7_walk_63 ?_
      refine x_callV hx hb hml hown hts hK hW hl.1 (c_X7_layW l X G (i := i) (w := 0) (v := (ℓ 0) + (ℓ 1)) (hi := hi) (hw := (by decide)) ) (xF_mo0).1 (xF_mo0).2.1 (by decide) rfl xw_246 xw_247 xw_248 xw_5 xw_249 hdV_yX7_layW ⟨Nat.le_of_ble_eq_true rfl, Nat.le_of_ble_eq_true rfl⟩ rfl (Nat.le_of_ble_eq_true rfl) ⟨Nat.le_refl _, Nat.le_refl _⟩ dX7_walk_64 (fun H locs hW => ?_)
      have hW : XR X G 12 (xMa f sg L O (va_up Y i (va_up ℓ 0 ((ℓ 0) + (ℓ 1)))) pb pc pd pe pg ph pp pq pt pu) H locs := hW
      refine lv_aload_n hx hb dX7_walk_67 rfl (lv_at hl 3 rfl) ?_
      refine lv_iload_n hx hb dX7_walk_68 rfl (lv_at hl 4 rfl) ?_
      refine lv_bipush (v := 6) hx hb dX7_walk_69 (by decide) ?_
      refine lv_aload_n hx hb dX7_walk_71 rfl (lv_at hl 3 rfl) ?_
      refine lv_iload_n hx hb dX7_walk_72 rfl (lv_at hl 4 rfl) ?_
      refine lv_bipush (v := 6) hx hb dX7_walk_73 (by decide) ?_
      refine x_callV hx hb hml hown hts hK hW hl.1 (c_X7_ofW l X G (i := i) (w := 6) (hi := hi) (hw := (by decide)) (hres := rfl)) (xF_mo0).1 (xF_mo0).2.1 (by decide) rfl xw_278 xw_279 xw_280 xw_5 xw_281 hdV_yX7_ofW ⟨Nat.le_of_ble_eq_true rfl, Nat.le_of_ble_eq_true rfl⟩ rfl (Nat.le_of_ble_eq_true rfl) ⟨Nat.le_refl _, Nat.le_refl _⟩ dX7_walk_75 (fun H locs hW => ?_)
      refine lv_eqi (y := ℓ 6) (xrd rfl) ?_
      refine lv_iload hx hb dX7_walk_78 (lv_at hl 0 rfl) ?_
      refine lv_iadd hx hb dX7_walk_80 ?_
      refine x_callV hx hb hml hown hts hK hW hl.1 (c_X7_layW l X G (i := i) (w := 6) (v := (ℓ 6) + (ℓ 1)) (hi := hi) (hw := (by decide)) ) (xF_mo0).1 (xF_mo0).2.1 (by decide) rfl xw_246 xw_247 xw_248 xw_5 xw_249 hdV_yX7_layW ⟨Nat.le_of_ble_eq_true rfl, Nat.le_of_ble_eq_true rfl⟩ rfl (Nat.le_of_ble_eq_true rfl) ⟨Nat.le_refl _, Nat.le_refl _⟩ dX7_walk_81 (fun H locs hW => ?_)
      have hW : XR X G 12 (xMa f sg L O (va_up Y i (va_up (va_up ℓ 0 ((ℓ 0) + (ℓ 1))) 6 ((ℓ 6) + (ℓ 1)))) pb pc pd pe pg ph pp pq pt pu) H locs := hW
      refine lv_aload_n hx hb dX7_walk_84 rfl (lv_at hl 3 rfl) ?_
      refine lv_iload_n hx hb dX7_walk_85 rfl (lv_at hl 4 rfl) ?_
      refine lv_iconst (v := 0) hx hb dX7_walk_86 (by decide) ?_
      refine x_callV hx hb hml hown hts hK hW hl.1 (c_X7_ofW l X G (i := i) (w := 0) (hi := hi) (hw := (by decide)) (hres := rfl)) (xF_mo0).1 (xF_mo0).2.1 (by decide) rfl xw_278 xw_279 xw_280 xw_5 xw_281 hdV_yX7_ofW ⟨Nat.le_of_ble_eq_true rfl, Nat.le_of_ble_eq_true rfl⟩ rfl (Nat.le_of_ble_eq_true rfl) ⟨Nat.le_refl _, Nat.le_refl _⟩ dX7_walk_87 (fun H locs hW => ?_)
      refine lv_eqi (y := (ℓ 0) + (ℓ 1)) (xrd rfl) ?_
      refine lv_iload_n hx hb dX7_walk_90 rfl (lv_at hl 2 rfl) ?_
      refine lv_icmp_ne (tgt := 119) hx hb dX7_walk_91 (by decide) (fun c_3 => ?_) (fun c_3 => ?_)
      · skip
        obtain rfl : (va_up (va_up ℓ 0 ((ℓ 0) + (ℓ 1))) 6 ((ℓ 6) + (ℓ 1))) = ℓ' := by (rw [← ho0]) <;> (simp [Mwalk, Mwent, Mto, Mby, c_1, Int32.not_lt.mpr c_1, c_2, Int32.not_lt.mpr c_2, c_3])
        rw [hQ0]
        exact x_vret hx hb hret hlocks hW rfl dX7_walk_119
      · skip
        refine lv_aload_n hx hb dX7_walk_94 rfl (lv_at hl 3 rfl) ?_
        refine lv_iload_n hx hb dX7_walk_95 rfl (lv_at hl 4 rfl) ?_
        refine lv_bipush (v := 9) hx hb dX7_walk_96 (by decide) ?_
        refine x_callV hx hb hml hown hts hK hW hl.1 (c_X7_ofW l X G (i := i) (w := 9) (hi := hi) (hw := (by decide)) (hres := rfl)) (xF_mo0).1 (xF_mo0).2.1 (by decide) rfl xw_278 xw_279 xw_280 xw_5 xw_281 hdV_yX7_ofW ⟨Nat.le_of_ble_eq_true rfl, Nat.le_of_ble_eq_true rfl⟩ rfl (Nat.le_of_ble_eq_true rfl) ⟨Nat.le_refl _, Nat.le_refl _⟩ dX7_walk_98 (fun H locs hW => ?_)
        refine lv_eqi (y := ℓ 9) (xrd rfl) ?_
        refine lv_if_le (tgt := 114) hx hb dX7_walk_101 (by decide) (fun c_4 => ?_) (fun c_4 => ?_)
        · skip
          refine lv_aload_n hx hb dX7_walk_114 rfl (lv_at hl 3 rfl) ?_
          refine lv_iload_n hx hb dX7_walk_115 rfl (lv_at hl 4 rfl) ?_
          refine x_callV hx hb hml hown hts hK hW hl.1 (c_X7_endGoal l X G (i := i) (g := g) (hi := hi) (hg := (by assumption)) (hg1 := (by assumption)) (hg6 := (by assumption)) (ho0 := rfl)) (xF_mo0).1 (xF_mo0).2.1 (by decide) rfl xw_510 xw_511 xw_512 xw_5 xw_513 hdV_yX7_endGoal ⟨Nat.le_of_ble_eq_true rfl, Nat.le_of_ble_eq_true rfl⟩ rfl (Nat.le_of_ble_eq_true rfl) ⟨Nat.le_refl _, Nat.le_refl _⟩ dX7_walk_116 (fun H locs hW => ?_)
          have hW : XR X G 12 (xMa f sg L O (va_up Y i (Mend (va_up (va_up ℓ 0 ((ℓ 0) + (ℓ 1))) 6 ((ℓ 6) + (ℓ 1))) g)) pb pc pd pe pg ph pp pq pt pu) H locs := hW
          obtain rfl : (Mend (va_up (va_up ℓ 0 ((ℓ 0) + (ℓ 1))) 6 ((ℓ 6) + (ℓ 1))) g) = ℓ' := by (rw [← ho0]) <;> (simp [Mwalk, Mwent, Mto, Mby, c_1, Int32.not_lt.mpr c_1, c_2, Int32.not_lt.mpr c_2, c_3, c_4, Int32.not_lt.mpr c_4])
          rw [hQ0]
          exact x_vret hx hb hret hlocks hW rfl dX7_walk_119
        · skip
          refine lv_aload_n hx hb dX7_walk_104 rfl (lv_at hl 3 rfl) ?_
          refine lv_iload_n hx hb dX7_walk_105 rfl (lv_at hl 4 rfl) ?_
          refine lv_iconst (v := 4) hx hb dX7_walk_106 (by decide) ?_
          refine lv_iconst (v := 0) hx hb dX7_walk_107 (by decide) ?_
          refine x_callV hx hb hml hown hts hK hW hl.1 (c_X7_layW l X G (i := i) (w := 4) (v := 0) (hi := hi) (hw := (by decide)) ) (xF_mo0).1 (xF_mo0).2.1 (by decide) rfl xw_246 xw_247 xw_248 xw_5 xw_249 hdV_yX7_layW ⟨Nat.le_of_ble_eq_true rfl, Nat.le_of_ble_eq_true rfl⟩ rfl (Nat.le_of_ble_eq_true rfl) ⟨Nat.le_refl _, Nat.le_refl _⟩ dX7_walk_108 (fun H locs hW => ?_)
          have hW : XR X G 12 (xMa f sg L O (va_up Y i (va_up (va_up (va_up ℓ 0 ((ℓ 0) + (ℓ 1))) 6 ((ℓ 6) + (ℓ 1))) 4 0)) pb pc pd pe pg ph pp pq pt pu) H locs := hW
          refine lv_goto (tgt := 119) hx hb dX7_walk_111 (by decide) ?_
          obtain rfl : (va_up (va_up (va_up ℓ 0 ((ℓ 0) + (ℓ 1))) 6 ((ℓ 6) + (ℓ 1))) 4 0) = ℓ' := by (rw [← ho0]) <;> (simp [Mwalk, Mwent, Mto, Mby, c_1, Int32.not_lt.mpr c_1, c_2, Int32.not_lt.mpr c_2, c_3, c_4, Int32.not_le.mp c_4])
          rw [hQ0]
          exact x_vret hx hb hret hlocks hW rfl dX7_walk_119
    · skip
      refine lv_iload_n hx hb dX7_walk_53 rfl (lv_at hl 1 rfl) ?_
      refine lv_iload hx hb dX7_walk_54 (lv_at hl 0 rfl) ?_
      refine lv_isub hx hb dX7_walk_56 ?_
      refine lv_goto (tgt := 64) hx hb dX7_walk_57 (by decide) ?_
      refine x_callV hx hb hml hown hts hK hW hl.1 (c_X7_layW l X G (i := i) (w := 0) (v := (ℓ 0) - (ℓ 1)) (hi := hi) (hw := (by decide)) ) (xF_mo0).1 (xF_mo0).2.1 (by decide) rfl xw_246 xw_247 xw_248 xw_5 xw_249 hdV_yX7_layW ⟨Nat.le_of_ble_eq_true rfl, Nat.le_of_ble_eq_true rfl⟩ rfl (Nat.le_of_ble_eq_true rfl) ⟨Nat.le_refl _, Nat.le_refl _⟩ dX7_walk_64 (fun H locs hW => ?_)
      have hW : XR X G 12 (xMa f sg L O (va_up Y i (va_up ℓ 0 ((ℓ 0) - (ℓ 1)))) pb pc pd pe pg ph pp pq pt pu) H locs := hW
      refine lv_aload_n hx hb dX7_walk_67 rfl (lv_at hl 3 rfl) ?_
      refine lv_iload_n hx hb dX7_walk_68 rfl (lv_at hl 4 rfl) ?_
      refine lv_bipush (v := 6) hx hb dX7_walk_69 (by decide) ?_
      refine lv_aload_n hx hb dX7_walk_71 rfl (lv_at hl 3 rfl) ?_
      refine lv_iload_n hx hb dX7_walk_72 rfl (lv_at hl 4 rfl) ?_
      refine lv_bipush (v := 6) hx hb dX7_walk_73 (by decide) ?_
      refine x_callV hx hb hml hown hts hK hW hl.1 (c_X7_ofW l X G (i := i) (w := 6) (hi := hi) (hw := (by decide)) (hres := rfl)) (xF_mo0).1 (xF_mo0).2.1 (by decide) rfl xw_278 xw_279 xw_280 xw_5 xw_281 hdV_yX7_ofW ⟨Nat.le_of_ble_eq_true rfl, Nat.le_of_ble_eq_true rfl⟩ rfl (Nat.le_of_ble_eq_true rfl) ⟨Nat.le_refl _, Nat.le_refl _⟩ dX7_walk_75 (fun H locs hW => ?_)
      refine lv_eqi (y := ℓ 6) (xrd rfl) ?_
      refine lv_iload hx hb dX7_walk_78 (lv_at hl 0 rfl) ?_
      refine lv_iadd hx hb dX7_walk_80 ?_
      refine x_callV hx hb hml hown hts hK hW hl.1 (c_X7_layW l X G (i := i) (w := 6) (v := (ℓ 6) + (ℓ 1)) (hi := hi) (hw := (by decide)) ) (xF_mo0).1 (xF_mo0).2.1 (by decide) rfl xw_246 xw_247 xw_248 xw_5 xw_249 hdV_yX7_layW ⟨Nat.le_of_ble_eq_true rfl, Nat.le_of_ble_eq_true rfl⟩ rfl (Nat.le_of_ble_eq_true rfl) ⟨Nat.le_refl _, Nat.le_refl _⟩ dX7_walk_81 (fun H locs hW => ?_)
      have hW : XR X G 12 (xMa f sg L O (va_up Y i (va_up (va_up ℓ 0 ((ℓ 0) - (ℓ 1))) 6 ((ℓ 6) + (ℓ 1)))) pb pc pd pe pg ph pp pq pt pu) H locs := hW
      refine lv_aload_n hx hb dX7_walk_84 rfl (lv_at hl 3 rfl) ?_
      refine lv_iload_n hx hb dX7_walk_85 rfl (lv_at hl 4 rfl) ?_
      refine lv_iconst (v := 0) hx hb dX7_walk_86 (by decide) ?_
      refine x_callV hx hb hml hown hts hK hW hl.1 (c_X7_ofW l X G (i := i) (w := 0) (hi := hi) (hw := (by decide)) (hres := rfl)) (xF_mo0).1 (xF_mo0).2.1 (by decide) rfl xw_278 xw_279 xw_280 xw_5 xw_281 hdV_yX7_ofW ⟨Nat.le_of_ble_eq_true rfl, Nat.le_of_ble_eq_true rfl⟩ rfl (Nat.le_of_ble_eq_true rfl) ⟨Nat.le_refl _, Nat.le_refl _⟩ dX7_walk_87 (fun H locs hW => ?_)
      refine lv_eqi (y := (ℓ 0) - (ℓ 1)) (xrd rfl) ?_
      refine lv_iload_n hx hb dX7_walk_90 rfl (lv_at hl 2 rfl) ?_
      refine lv_icmp_ne (tgt := 119) hx hb dX7_walk_91 (by decide) (fun c_5 => ?_) (fun c_5 => ?_)
      · skip
        obtain rfl : (va_up (va_up ℓ 0 ((ℓ 0) - (ℓ 1))) 6 ((ℓ 6) + (ℓ 1))) = ℓ' := by (rw [← ho0]) <;> (simp [Mwalk, Mwent, Mto, Mby, c_1, Int32.not_lt.mpr c_1, c_2, Int32.not_le.mp c_2, c_5])
        rw [hQ0]
        exact x_vret hx hb hret hlocks hW rfl dX7_walk_119
      · skip
        refine lv_aload_n hx hb dX7_walk_94 rfl (lv_at hl 3 rfl) ?_
        refine lv_iload_n hx hb dX7_walk_95 rfl (lv_at hl 4 rfl) ?_
        refine lv_bipush (v := 9) hx hb dX7_walk_96 (by decide) ?_
        refine x_callV hx hb hml hown hts hK hW hl.1 (c_X7_ofW l X G (i := i) (w := 9) (hi := hi) (hw := (by decide)) (hres := rfl)) (xF_mo0).1 (xF_mo0).2.1 (by decide) rfl xw_278 xw_279 xw_280 xw_5 xw_281 hdV_yX7_ofW ⟨Nat.le_of_ble_eq_true rfl, Nat.le_of_ble_eq_true rfl⟩ rfl (Nat.le_of_ble_eq_true rfl) ⟨Nat.le_refl _, Nat.le_refl _⟩ dX7_walk_98 (fun H locs hW => ?_)
        refine lv_eqi (y := ℓ 9) (xrd rfl) ?_
        refine lv_if_le (tgt := 114) hx hb dX7_walk_101 (by decide) (fun c_6 => ?_) (fun c_6 => ?_)
        · skip
          refine lv_aload_n hx hb dX7_walk_114 rfl (lv_at hl 3 rfl) ?_
          refine lv_iload_n hx hb dX7_walk_115 rfl (lv_at hl 4 rfl) ?_
          refine x_callV hx hb hml hown hts hK hW hl.1 (c_X7_endGoal l X G (i := i) (g := g) (hi := hi) (hg := (by assumption)) (hg1 := (by assumption)) (hg6 := (by assumption)) (ho0 := rfl)) (xF_mo0).1 (xF_mo0).2.1 (by decide) rfl xw_510 xw_511 xw_512 xw_5 xw_513 hdV_yX7_endGoal ⟨Nat.le_of_ble_eq_true rfl, Nat.le_of_ble_eq_true rfl⟩ rfl (Nat.le_of_ble_eq_true rfl) ⟨Nat.le_refl _, Nat.le_refl _⟩ dX7_walk_116 (fun H locs hW => ?_)
          have hW : XR X G 12 (xMa f sg L O (va_up Y i (Mend (va_up (va_up ℓ 0 ((ℓ 0) - (ℓ 1))) 6 ((ℓ 6) + (ℓ 1))) g)) pb pc pd pe pg ph pp pq pt pu) H locs := hW
          obtain rfl : (Mend (va_up (va_up ℓ 0 ((ℓ 0) - (ℓ 1))) 6 ((ℓ 6) + (ℓ 1))) g) = ℓ' := by (rw [← ho0]) <;> (simp [Mwalk, Mwent, Mto, Mby, c_1, Int32.not_lt.mpr c_1, c_2, Int32.not_le.mp c_2, c_5, c_6, Int32.not_lt.mpr c_6])
          rw [hQ0]
          exact x_vret hx hb hret hlocks hW rfl dX7_walk_119
        · skip
          refine lv_aload_n hx hb dX7_walk_104 rfl (lv_at hl 3 rfl) ?_
          refine lv_iload_n hx hb dX7_walk_105 rfl (lv_at hl 4 rfl) ?_
          refine lv_iconst (v := 4) hx hb dX7_walk_106 (by decide) ?_
          refine lv_iconst (v := 0) hx hb dX7_walk_107 (by decide) ?_
          refine x_callV hx hb hml hown hts hK hW hl.1 (c_X7_layW l X G (i := i) (w := 4) (v := 0) (hi := hi) (hw := (by decide)) ) (xF_mo0).1 (xF_mo0).2.1 (by decide) rfl xw_246 xw_247 xw_248 xw_5 xw_249 hdV_yX7_layW ⟨Nat.le_of_ble_eq_true rfl, Nat.le_of_ble_eq_true rfl⟩ rfl (Nat.le_of_ble_eq_true rfl) ⟨Nat.le_refl _, Nat.le_refl _⟩ dX7_walk_108 (fun H locs hW => ?_)
          have hW : XR X G 12 (xMa f sg L O (va_up Y i (va_up (va_up (va_up ℓ 0 ((ℓ 0) - (ℓ 1))) 6 ((ℓ 6) + (ℓ 1))) 4 0)) pb pc pd pe pg ph pp pq pt pu) H locs := hW
          refine lv_goto (tgt := 119) hx hb dX7_walk_111 (by decide) ?_
          obtain rfl : (va_up (va_up (va_up ℓ 0 ((ℓ 0) - (ℓ 1))) 6 ((ℓ 6) + (ℓ 1))) 4 0) = ℓ' := by (rw [← ho0]) <;> (simp [Mwalk, Mwent, Mto, Mby, c_1, Int32.not_lt.mpr c_1, c_2, Int32.not_le.mp c_2, c_5, c_6, Int32.not_le.mp c_6])
          rw [hQ0]
          exact x_vret hx hb hret hlocks hW rfl dX7_walk_119
  · skip
    refine lv_iload_n hx hb dX7_walk_29 rfl (lv_at hl 0 rfl) ?_
    refine lv_iload_n hx hb dX7_walk_30 rfl (lv_at hl 1 rfl) ?_
    refine x_callS hx hb hml hown hts hK hW hl.1 (c_X7_far l X _ (a := ℓ 0) (b := ℓ 8) (hres := rfl)) xw_385 xw_386 xw_5 xw_387 hdS_yX7_far ⟨Nat.le_of_ble_eq_true rfl, Nat.le_of_ble_eq_true rfl⟩ rfl (Nat.le_of_ble_eq_true rfl) ⟨Nat.le_refl _, Nat.le_refl _⟩ dX7_walk_31 (fun H locs hW => ?_)
    refine lv_goto (tgt := 43) hx hb dX7_walk_34 (by decide) ?_
    refine lv_istore (lv' := [(4, .int (Mfar (ℓ 0) (ℓ 8))), (3, .int (ℓ 0)), (2, .int (ℓ 8)), (0, .ref (xB X + xkey 12 0 0)), (1, .int (nI i))]) hx hb dX7_walk_43 hl (by decide) rfl (fun ls hl => ?_)
    refine lv_aload_n hx hb dX7_walk_45 rfl (lv_at hl 3 rfl) ?_
    refine lv_iload_n hx hb dX7_walk_46 rfl (lv_at hl 4 rfl) ?_
    refine lv_iconst (v := 0) hx hb dX7_walk_47 (by decide) ?_
    refine lv_iload_n hx hb dX7_walk_48 rfl (lv_at hl 2 rfl) ?_
    refine lv_iload_n hx hb dX7_walk_49 rfl (lv_at hl 1 rfl) ?_
    refine lv_icmp_ge (tgt := 60) hx hb dX7_walk_50 (by decide) (fun c_7 => ?_) (fun c_7 => ?_)
    · skip
      refine lv_iload_n hx hb dX7_walk_60 rfl (lv_at hl 1 rfl) ?_
      refine lv_iload hx hb dX7_walk_61 (lv_at hl 0 rfl) ?_
      refine lv_iadd hx hb dX7_walk_63 ?_
      refine x_callV hx hb hml hown hts hK hW hl.1 (c_X7_layW l X G (i := i) (w := 0) (v := (ℓ 0) + (Mfar (ℓ 0) (ℓ 8))) (hi := hi) (hw := (by decide)) ) (xF_mo0).1 (xF_mo0).2.1 (by decide) rfl xw_246 xw_247 xw_248 xw_5 xw_249 hdV_yX7_layW ⟨Nat.le_of_ble_eq_true rfl, Nat.le_of_ble_eq_true rfl⟩ rfl (Nat.le_of_ble_eq_true rfl) ⟨Nat.le_refl _, Nat.le_refl _⟩ dX7_walk_64 (fun H locs hW => ?_)
      have hW : XR X G 12 (xMa f sg L O (va_up Y i (va_up ℓ 0 ((ℓ 0) + (Mfar (ℓ 0) (ℓ 8))))) pb pc pd pe pg ph pp pq pt pu) H locs := hW
      refine lv_aload_n hx hb dX7_walk_67 rfl (lv_at hl 3 rfl) ?_
      refine lv_iload_n hx hb dX7_walk_68 rfl (lv_at hl 4 rfl) ?_
      refine lv_bipush (v := 6) hx hb dX7_walk_69 (by decide) ?_
      refine lv_aload_n hx hb dX7_walk_71 rfl (lv_at hl 3 rfl) ?_
      refine lv_iload_n hx hb dX7_walk_72 rfl (lv_at hl 4 rfl) ?_
      refine lv_bipush (v := 6) hx hb dX7_walk_73 (by decide) ?_
      refine x_callV hx hb hml hown hts hK hW hl.1 (c_X7_ofW l X G (i := i) (w := 6) (hi := hi) (hw := (by decide)) (hres := rfl)) (xF_mo0).1 (xF_mo0).2.1 (by decide) rfl xw_278 xw_279 xw_280 xw_5 xw_281 hdV_yX7_ofW ⟨Nat.le_of_ble_eq_true rfl, Nat.le_of_ble_eq_true rfl⟩ rfl (Nat.le_of_ble_eq_true rfl) ⟨Nat.le_refl _, Nat.le_refl _⟩ dX7_walk_75 (fun H locs hW => ?_)
      refine lv_eqi (y := ℓ 6) (xrd rfl) ?_
      refine lv_iload hx hb dX7_walk_78 (lv_at hl 0 rfl) ?_
      refine lv_iadd hx hb dX7_walk_80 ?_
      refine x_callV hx hb hml hown hts hK hW hl.1 (c_X7_layW l X G (i := i) (w := 6) (v := (ℓ 6) + (Mfar (ℓ 0) (ℓ 8))) (hi := hi) (hw := (by decide)) ) (xF_mo0).1 (xF_mo0).2.1 (by decide) rfl xw_246 xw_247 xw_248 xw_5 xw_249 hdV_yX7_layW ⟨Nat.le_of_ble_eq_true rfl, Nat.le_of_ble_eq_true rfl⟩ rfl (Nat.le_of_ble_eq_true rfl) ⟨Nat.le_refl _, Nat.le_refl _⟩ dX7_walk_81 (fun H locs hW => ?_)
      have hW : XR X G 12 (xMa f sg L O (va_up Y i (va_up (va_up ℓ 0 ((ℓ 0) + (Mfar (ℓ 0) (ℓ 8)))) 6 ((ℓ 6) + (Mfar (ℓ 0) (ℓ 8))))) pb pc pd pe pg ph pp pq pt pu) H locs := hW
      refine lv_aload_n hx hb dX7_walk_84 rfl (lv_at hl 3 rfl) ?_
      refine lv_iload_n hx hb dX7_walk_85 rfl (lv_at hl 4 rfl) ?_
      refine lv_iconst (v := 0) hx hb dX7_walk_86 (by decide) ?_
      refine x_callV hx hb hml hown hts hK hW hl.1 (c_X7_ofW l X G (i := i) (w := 0) (hi := hi) (hw := (by decide)) (hres := rfl)) (xF_mo0).1 (xF_mo0).2.1 (by decide) rfl xw_278 xw_279 xw_280 xw_5 xw_281 hdV_yX7_ofW ⟨Nat.le_of_ble_eq_true rfl, Nat.le_of_ble_eq_true rfl⟩ rfl (Nat.le_of_ble_eq_true rfl) ⟨Nat.le_refl _, Nat.le_refl _⟩ dX7_walk_87 (fun H locs hW => ?_)
      refine lv_eqi (y := (ℓ 0) + (Mfar (ℓ 0) (ℓ 8))) (xrd rfl) ?_
      refine lv_iload_n hx hb dX7_walk_90 rfl (lv_at hl 2 rfl) ?_
      refine lv_icmp_ne (tgt := 119) hx hb dX7_walk_91 (by decide) (fun c_8 => ?_) (fun c_8 => ?_)
      · skip
        obtain rfl : (va_up (va_up ℓ 0 ((ℓ 0) + (Mfar (ℓ 0) (ℓ 8)))) 6 ((ℓ 6) + (Mfar (ℓ 0) (ℓ 8)))) = ℓ' := by (rw [← ho0]) <;> (simp [Mwalk, Mwent, Mto, Mby, c_1, Int32.not_le.mp c_1, c_7, Int32.not_lt.mpr c_7, c_8])
        rw [hQ0]
        exact x_vret hx hb hret hlocks hW rfl dX7_walk_119
      · skip
        refine lv_aload_n hx hb dX7_walk_94 rfl (lv_at hl 3 rfl) ?_
        refine lv_iload_n hx hb dX7_walk_95 rfl (lv_at hl 4 rfl) ?_
        refine lv_bipush (v := 9) hx hb dX7_walk_96 (by decide) ?_
        refine x_callV hx hb hml hown hts hK hW hl.1 (c_X7_ofW l X G (i := i) (w := 9) (hi := hi) (hw := (by decide)) (hres := rfl)) (xF_mo0).1 (xF_mo0).2.1 (by decide) rfl xw_278 xw_279 xw_280 xw_5 xw_281 hdV_yX7_ofW ⟨Nat.le_of_ble_eq_true rfl, Nat.le_of_ble_eq_true rfl⟩ rfl (Nat.le_of_ble_eq_true rfl) ⟨Nat.le_refl _, Nat.le_refl _⟩ dX7_walk_98 (fun H locs hW => ?_)
        refine lv_eqi (y := ℓ 9) (xrd rfl) ?_
        refine lv_if_le (tgt := 114) hx hb dX7_walk_101 (by decide) (fun c_9 => ?_) (fun c_9 => ?_)
        · skip
          refine lv_aload_n hx hb dX7_walk_114 rfl (lv_at hl 3 rfl) ?_
          refine lv_iload_n hx hb dX7_walk_115 rfl (lv_at hl 4 rfl) ?_
          refine x_callV hx hb hml hown hts hK hW hl.1 (c_X7_endGoal l X G (i := i) (g := g) (hi := hi) (hg := (by assumption)) (hg1 := (by assumption)) (hg6 := (by assumption)) (ho0 := rfl)) (xF_mo0).1 (xF_mo0).2.1 (by decide) rfl xw_510 xw_511 xw_512 xw_5 xw_513 hdV_yX7_endGoal ⟨Nat.le_of_ble_eq_true rfl, Nat.le_of_ble_eq_true rfl⟩ rfl (Nat.le_of_ble_eq_true rfl) ⟨Nat.le_refl _, Nat.le_refl _⟩ dX7_walk_116 (fun H locs hW => ?_)
          have hW : XR X G 12 (xMa f sg L O (va_up Y i (Mend (va_up (va_up ℓ 0 ((ℓ 0) + (Mfar (ℓ 0) (ℓ 8)))) 6 ((ℓ 6) + (Mfar (ℓ 0) (ℓ 8)))) g)) pb pc pd pe pg ph pp pq pt pu) H locs := hW
          obtain rfl : (Mend (va_up (va_up ℓ 0 ((ℓ 0) + (Mfar (ℓ 0) (ℓ 8)))) 6 ((ℓ 6) + (Mfar (ℓ 0) (ℓ 8)))) g) = ℓ' := by (rw [← ho0]) <;> (simp [Mwalk, Mwent, Mto, Mby, c_1, Int32.not_le.mp c_1, c_7, Int32.not_lt.mpr c_7, c_8, c_9, Int32.not_lt.mpr c_9])
          rw [hQ0]
          exact x_vret hx hb hret hlocks hW rfl dX7_walk_119
        · skip
          refine lv_aload_n hx hb dX7_walk_104 rfl (lv_at hl 3 rfl) ?_
          refine lv_iload_n hx hb dX7_walk_105 rfl (lv_at hl 4 rfl) ?_
          refine lv_iconst (v := 4) hx hb dX7_walk_106 (by decide) ?_
          refine lv_iconst (v := 0) hx hb dX7_walk_107 (by decide) ?_
          refine x_callV hx hb hml hown hts hK hW hl.1 (c_X7_layW l X G (i := i) (w := 4) (v := 0) (hi := hi) (hw := (by decide)) ) (xF_mo0).1 (xF_mo0).2.1 (by decide) rfl xw_246 xw_247 xw_248 xw_5 xw_249 hdV_yX7_layW ⟨Nat.le_of_ble_eq_true rfl, Nat.le_of_ble_eq_true rfl⟩ rfl (Nat.le_of_ble_eq_true rfl) ⟨Nat.le_refl _, Nat.le_refl _⟩ dX7_walk_108 (fun H locs hW => ?_)
          have hW : XR X G 12 (xMa f sg L O (va_up Y i (va_up (va_up (va_up ℓ 0 ((ℓ 0) + (Mfar (ℓ 0) (ℓ 8)))) 6 ((ℓ 6) + (Mfar (ℓ 0) (ℓ 8)))) 4 0)) pb pc pd pe pg ph pp pq pt pu) H locs := hW
          refine lv_goto (tgt := 119) hx hb dX7_walk_111 (by decide) ?_
          obtain rfl : (va_up (va_up (va_up ℓ 0 ((ℓ 0) + (Mfar (ℓ 0) (ℓ 8)))) 6 ((ℓ 6) + (Mfar (ℓ 0) (ℓ 8)))) 4 0) = ℓ' := by (rw [← ho0]) <;> (simp [Mwalk, Mwent, Mto, Mby, c_1, Int32.not_le.mp c_1, c_7, Int32.not_lt.mpr c_7, c_8, c_9, Int32.not_le.mp c_9])
          rw [hQ0]
          exact x_vret hx hb hret hlocks hW rfl dX7_walk_119
    · skip
      refine lv_iload_n hx hb dX7_walk_53 rfl (lv_at hl 1 rfl) ?_
      refine lv_iload hx hb dX7_walk_54 (lv_at hl 0 rfl) ?_
      refine lv_isub hx hb dX7_walk_56 ?_
      refine lv_goto (tgt := 64) hx hb dX7_walk_57 (by decide) ?_
      refine x_callV hx hb hml hown hts hK hW hl.1 (c_X7_layW l X G (i := i) (w := 0) (v := (ℓ 0) - (Mfar (ℓ 0) (ℓ 8))) (hi := hi) (hw := (by decide)) ) (xF_mo0).1 (xF_mo0).2.1 (by decide) rfl xw_246 xw_247 xw_248 xw_5 xw_249 hdV_yX7_layW ⟨Nat.le_of_ble_eq_true rfl, Nat.le_of_ble_eq_true rfl⟩ rfl (Nat.le_of_ble_eq_true rfl) ⟨Nat.le_refl _, Nat.le_refl _⟩ dX7_walk_64 (fun H locs hW => ?_)
      have hW : XR X G 12 (xMa f sg L O (va_up Y i (va_up ℓ 0 ((ℓ 0) - (Mfar (ℓ 0) (ℓ 8))))) pb pc pd pe pg ph pp pq pt pu) H locs := hW
      refine lv_aload_n hx hb dX7_walk_67 rfl (lv_at hl 3 rfl) ?_
      refine lv_iload_n hx hb dX7_walk_68 rfl (lv_at hl 4 rfl) ?_
      refine lv_bipush (v := 6) hx hb dX7_walk_69 (by decide) ?_
      refine lv_aload_n hx hb dX7_walk_71 rfl (lv_at hl 3 rfl) ?_
      refine lv_iload_n hx hb dX7_walk_72 rfl (lv_at hl 4 rfl) ?_
      refine lv_bipush (v := 6) hx hb dX7_walk_73 (by decide) ?_
      refine x_callV hx hb hml hown hts hK hW hl.1 (c_X7_ofW l X G (i := i) (w := 6) (hi := hi) (hw := (by decide)) (hres := rfl)) (xF_mo0).1 (xF_mo0).2.1 (by decide) rfl xw_278 xw_279 xw_280 xw_5 xw_281 hdV_yX7_ofW ⟨Nat.le_of_ble_eq_true rfl, Nat.le_of_ble_eq_true rfl⟩ rfl (Nat.le_of_ble_eq_true rfl) ⟨Nat.le_refl _, Nat.le_refl _⟩ dX7_walk_75 (fun H locs hW => ?_)
      refine lv_eqi (y := ℓ 6) (xrd rfl) ?_
      refine lv_iload hx hb dX7_walk_78 (lv_at hl 0 rfl) ?_
      refine lv_iadd hx hb dX7_walk_80 ?_
      refine x_callV hx hb hml hown hts hK hW hl.1 (c_X7_layW l X G (i := i) (w := 6) (v := (ℓ 6) + (Mfar (ℓ 0) (ℓ 8))) (hi := hi) (hw := (by decide)) ) (xF_mo0).1 (xF_mo0).2.1 (by decide) rfl xw_246 xw_247 xw_248 xw_5 xw_249 hdV_yX7_layW ⟨Nat.le_of_ble_eq_true rfl, Nat.le_of_ble_eq_true rfl⟩ rfl (Nat.le_of_ble_eq_true rfl) ⟨Nat.le_refl _, Nat.le_refl _⟩ dX7_walk_81 (fun H locs hW => ?_)
      have hW : XR X G 12 (xMa f sg L O (va_up Y i (va_up (va_up ℓ 0 ((ℓ 0) - (Mfar (ℓ 0) (ℓ 8)))) 6 ((ℓ 6) + (Mfar (ℓ 0) (ℓ 8))))) pb pc pd pe pg ph pp pq pt pu) H locs := hW
      refine lv_aload_n hx hb dX7_walk_84 rfl (lv_at hl 3 rfl) ?_
      refine lv_iload_n hx hb dX7_walk_85 rfl (lv_at hl 4 rfl) ?_
      refine lv_iconst (v := 0) hx hb dX7_walk_86 (by decide) ?_
      refine x_callV hx hb hml hown hts hK hW hl.1 (c_X7_ofW l X G (i := i) (w := 0) (hi := hi) (hw := (by decide)) (hres := rfl)) (xF_mo0).1 (xF_mo0).2.1 (by decide) rfl xw_278 xw_279 xw_280 xw_5 xw_281 hdV_yX7_ofW ⟨Nat.le_of_ble_eq_true rfl, Nat.le_of_ble_eq_true rfl⟩ rfl (Nat.le_of_ble_eq_true rfl) ⟨Nat.le_refl _, Nat.le_refl _⟩ dX7_walk_87 (fun H locs hW => ?_)
      refine lv_eqi (y := (ℓ 0) - (Mfar (ℓ 0) (ℓ 8))) (xrd rfl) ?_
      refine lv_iload_n hx hb dX7_walk_90 rfl (lv_at hl 2 rfl) ?_
      refine lv_icmp_ne (tgt := 119) hx hb dX7_walk_91 (by decide) (fun c_10 => ?_) (fun c_10 => ?_)
      · skip
        obtain rfl : (va_up (va_up ℓ 0 ((ℓ 0) - (Mfar (ℓ 0) (ℓ 8)))) 6 ((ℓ 6) + (Mfar (ℓ 0) (ℓ 8)))) = ℓ' := by (rw [← ho0]) <;> (simp [Mwalk, Mwent, Mto, Mby, c_1, Int32.not_le.mp c_1, c_7, Int32.not_le.mp c_7, c_10])
        rw [hQ0]
        exact x_vret hx hb hret hlocks hW rfl dX7_walk_119
      · skip
        refine lv_aload_n hx hb dX7_walk_94 rfl (lv_at hl 3 rfl) ?_
        refine lv_iload_n hx hb dX7_walk_95 rfl (lv_at hl 4 rfl) ?_
        refine lv_bipush (v := 9) hx hb dX7_walk_96 (by decide) ?_
        refine x_callV hx hb hml hown hts hK hW hl.1 (c_X7_ofW l X G (i := i) (w := 9) (hi := hi) (hw := (by decide)) (hres := rfl)) (xF_mo0).1 (xF_mo0).2.1 (by decide) rfl xw_278 xw_279 xw_280 xw_5 xw_281 hdV_yX7_ofW ⟨Nat.le_of_ble_eq_true rfl, Nat.le_of_ble_eq_true rfl⟩ rfl (Nat.le_of_ble_eq_true rfl) ⟨Nat.le_refl _, Nat.le_refl _⟩ dX7_walk_98 (fun H locs hW => ?_)
        refine lv_eqi (y := ℓ 9) (xrd rfl) ?_
        refine lv_if_le (tgt := 114) hx hb dX7_walk_101 (by decide) (fun c_11 => ?_) (fun c_11 => ?_)
        · skip
          refine lv_aload_n hx hb dX7_walk_114 rfl (lv_at hl 3 rfl) ?_
          refine lv_iload_n hx hb dX7_walk_115 rfl (lv_at hl 4 rfl) ?_
          refine x_callV hx hb hml hown hts hK hW hl.1 (c_X7_endGoal l X G (i := i) (g := g) (hi := hi) (hg := (by assumption)) (hg1 := (by assumption)) (hg6 := (by assumption)) (ho0 := rfl)) (xF_mo0).1 (xF_mo0).2.1 (by decide) rfl xw_510 xw_511 xw_512 xw_5 xw_513 hdV_yX7_endGoal ⟨Nat.le_of_ble_eq_true rfl, Nat.le_of_ble_eq_true rfl⟩ rfl (Nat.le_of_ble_eq_true rfl) ⟨Nat.le_refl _, Nat.le_refl _⟩ dX7_walk_116 (fun H locs hW => ?_)
          have hW : XR X G 12 (xMa f sg L O (va_up Y i (Mend (va_up (va_up ℓ 0 ((ℓ 0) - (Mfar (ℓ 0) (ℓ 8)))) 6 ((ℓ 6) + (Mfar (ℓ 0) (ℓ 8)))) g)) pb pc pd pe pg ph pp pq pt pu) H locs := hW
          obtain rfl : (Mend (va_up (va_up ℓ 0 ((ℓ 0) - (Mfar (ℓ 0) (ℓ 8)))) 6 ((ℓ 6) + (Mfar (ℓ 0) (ℓ 8)))) g) = ℓ' := by (rw [← ho0]) <;> (simp [Mwalk, Mwent, Mto, Mby, c_1, Int32.not_le.mp c_1, c_7, Int32.not_le.mp c_7, c_10, c_11, Int32.not_lt.mpr c_11])
          rw [hQ0]
          exact x_vret hx hb hret hlocks hW rfl dX7_walk_119
        · skip
          refine lv_aload_n hx hb dX7_walk_104 rfl (lv_at hl 3 rfl) ?_
          refine lv_iload_n hx hb dX7_walk_105 rfl (lv_at hl 4 rfl) ?_
          refine lv_iconst (v := 4) hx hb dX7_walk_106 (by decide) ?_
          refine lv_iconst (v := 0) hx hb dX7_walk_107 (by decide) ?_
          refine x_callV hx hb hml hown hts hK hW hl.1 (c_X7_layW l X G (i := i) (w := 4) (v := 0) (hi := hi) (hw := (by decide)) ) (xF_mo0).1 (xF_mo0).2.1 (by decide) rfl xw_246 xw_247 xw_248 xw_5 xw_249 hdV_yX7_layW ⟨Nat.le_of_ble_eq_true rfl, Nat.le_of_ble_eq_true rfl⟩ rfl (Nat.le_of_ble_eq_true rfl) ⟨Nat.le_refl _, Nat.le_refl _⟩ dX7_walk_108 (fun H locs hW => ?_)
          have hW : XR X G 12 (xMa f sg L O (va_up Y i (va_up (va_up (va_up ℓ 0 ((ℓ 0) - (Mfar (ℓ 0) (ℓ 8)))) 6 ((ℓ 6) + (Mfar (ℓ 0) (ℓ 8)))) 4 0)) pb pc pd pe pg ph pp pq pt pu) H locs := hW
          refine lv_goto (tgt := 119) hx hb dX7_walk_111 (by decide) ?_
          obtain rfl : (va_up (va_up (va_up ℓ 0 ((ℓ 0) - (Mfar (ℓ 0) (ℓ 8)))) 6 ((ℓ 6) + (Mfar (ℓ 0) (ℓ 8)))) 4 0) = ℓ' := by (rw [← ho0]) <;> (simp [Mwalk, Mwent, Mto, Mby, c_1, Int32.not_le.mp c_1, c_7, Int32.not_le.mp c_7, c_10, c_11, Int32.not_le.mp c_11])
          rw [hQ0]
          exact x_vret hx hb hret hlocks hW rfl dX7_walk_119
set_option maxHeartbeats 4000000 in
set_option maxRecDepth 100000 in
theorem c_X7_go (l : Launch) (X : xX) (G : xG) {f sg pb pc pd pe pg ph pp pq pt pu : Nat → Int32} {L O Y : Nat → Nat → Int32} {i g : Nat} {ℓ : Nat → Int32} (hi : i < 8) (hg : ℓ 3 = nI g) (hg6 : g ≤ 6) {ℓ' : Nat → Int32} (ho0 : (Mgo ℓ g) = ℓ') : XC l yX7_go cX7_go 2 none 3 69 0 0 X xsh [.ref (xB X + xkey 12 0 0), .int (nI i)] 603 603 (xval (xB X) (va_up G 12 (xMa f sg L O (va_up Y i ℓ) pb pc pd pe pg ph pp pq pt pu))) (xval (xB X) (va_up G 12 (xMa f sg L O (va_up Y i ℓ') pb pc pd pe pg ph pp pq pt pu))) none := by
  refine XC.of RX7 "go" [(0, .ref (xB X + xkey 12 0 0)), (1, .int (nI i))] (by decide) rfl rfl (Nat.le_of_ble_eq_true rfl) rfl ?_
  intro p e s m args below meth c ls hx hb hret hml hts hown hlocks hnm hK hW hl
  have hW : XR X G 12 (xMa f sg L O (va_up Y i ℓ) pb pc pd pe pg ph pp pq pt pu) s.heap [] := hW
  obtain ⟨Q0, hQ0⟩ : ∃ z, z = MQ below (xQ X xsh 603 (xval (xB X) (va_up G 12 (xMa f sg L O (va_up Y i ℓ') pb pc pd pe pg ph pp pq pt pu))) none) args s 0 0 (fun q => xB X ≤ q) := ⟨_, rfl⟩
  rw [← hQ0]
  refine lv_aload_n hx hb dX7_go_0 rfl (lv_at hl 0 rfl) ?_
  refine lv_iload_n hx hb dX7_go_1 rfl (lv_at hl 1 rfl) ?_
  refine x_callV hx hb hml hown hts hK hW hl.1 (c_X7_isInStreet l X G (i := i) (hi := hi) (hres := rfl)) (xF_mo0).1 (xF_mo0).2.1 (by decide) rfl xw_282 xw_283 xw_284 xw_5 xw_285 hdV_yX7_isInStreet ⟨Nat.le_of_ble_eq_true rfl, Nat.le_of_ble_eq_true rfl⟩ rfl (Nat.le_of_ble_eq_true rfl) ⟨Nat.le_refl _, Nat.le_refl _⟩ dX7_go_2 (fun H locs hW => ?_)
  refine lv_eqi (y := Mstr ℓ) (congrArg Mstr va_up_at) ?_
  refine lv_if_eq (tgt := 17) hx hb dX7_go_5 (by decide) (fun c_1 => ?_) (fun c_1 => ?_)
  · skip
    obtain rfl : ℓ = ℓ' := by (rw [← ho0]) <;> (simp [Mgo, c_1])
    rw [hQ0]
    exact x_vret hx hb hret hlocks hW rfl dX7_go_17
  · skip
    refine lv_aload_n hx hb dX7_go_8 rfl (lv_at hl 0 rfl) ?_
    refine lv_iload_n hx hb dX7_go_9 rfl (lv_at hl 1 rfl) ?_
    refine lv_iconst (v := 3) hx hb dX7_go_10 (by decide) ?_
    refine x_callV hx hb hml hown hts hK hW hl.1 (c_X7_ofW l X G (i := i) (w := 3) (hi := hi) (hw := (by decide)) (hres := rfl)) (xF_mo0).1 (xF_mo0).2.1 (by decide) rfl xw_278 xw_279 xw_280 xw_5 xw_281 hdV_yX7_ofW ⟨Nat.le_of_ble_eq_true rfl, Nat.le_of_ble_eq_true rfl⟩ rfl (Nat.le_of_ble_eq_true rfl) ⟨Nat.le_refl _, Nat.le_refl _⟩ dX7_go_11 (fun H locs hW => ?_)
    refine lv_eqi (y := nI g) (xrd hg) ?_
    refine lv_if_ne (tgt := 18) hx hb dX7_go_14 (by decide) (fun c_2 => ?_) (fun c_2 => ?_)
    · skip
      refine lv_aload_n hx hb dX7_go_18 rfl (lv_at hl 0 rfl) ?_
      refine lv_iload_n hx hb dX7_go_19 rfl (lv_at hl 1 rfl) ?_
      refine lv_iconst (v := 4) hx hb dX7_go_20 (by decide) ?_
      refine x_callV hx hb hml hown hts hK hW hl.1 (c_X7_ofW l X G (i := i) (w := 4) (hi := hi) (hw := (by decide)) (hres := rfl)) (xF_mo0).1 (xF_mo0).2.1 (by decide) rfl xw_278 xw_279 xw_280 xw_5 xw_281 hdV_yX7_ofW ⟨Nat.le_of_ble_eq_true rfl, Nat.le_of_ble_eq_true rfl⟩ rfl (Nat.le_of_ble_eq_true rfl) ⟨Nat.le_refl _, Nat.le_refl _⟩ dX7_go_21 (fun H locs hW => ?_)
      refine lv_eqi (y := ℓ 4) (xrd rfl) ?_
      refine lv_if_ge (tgt := 33) hx hb dX7_go_24 (by decide) (fun c_3 => ?_) (fun c_3 => ?_)
      · skip
        refine lv_aload_n hx hb dX7_go_33 rfl (lv_at hl 0 rfl) ?_
        refine lv_iload_n hx hb dX7_go_34 rfl (lv_at hl 1 rfl) ?_
        refine lv_iconst (v := 4) hx hb dX7_go_35 (by decide) ?_
        refine lv_aload_n hx hb dX7_go_36 rfl (lv_at hl 0 rfl) ?_
        refine lv_iload_n hx hb dX7_go_37 rfl (lv_at hl 1 rfl) ?_
        refine lv_iconst (v := 4) hx hb dX7_go_38 (by decide) ?_
        refine x_callV hx hb hml hown hts hK hW hl.1 (c_X7_ofW l X G (i := i) (w := 4) (hi := hi) (hw := (by decide)) (hres := rfl)) (xF_mo0).1 (xF_mo0).2.1 (by decide) rfl xw_278 xw_279 xw_280 xw_5 xw_281 hdV_yX7_ofW ⟨Nat.le_of_ble_eq_true rfl, Nat.le_of_ble_eq_true rfl⟩ rfl (Nat.le_of_ble_eq_true rfl) ⟨Nat.le_refl _, Nat.le_refl _⟩ dX7_go_39 (fun H locs hW => ?_)
        refine lv_eqi (y := ℓ 4) (xrd rfl) ?_
        refine lv_iconst (v := 1) hx hb dX7_go_42 (by decide) ?_
        refine lv_iadd hx hb dX7_go_43 ?_
        refine x_callV hx hb hml hown hts hK hW hl.1 (c_X7_layW l X G (i := i) (w := 4) (v := (ℓ 4) + 1) (hi := hi) (hw := (by decide)) ) (xF_mo0).1 (xF_mo0).2.1 (by decide) rfl xw_246 xw_247 xw_248 xw_5 xw_249 hdV_yX7_layW ⟨Nat.le_of_ble_eq_true rfl, Nat.le_of_ble_eq_true rfl⟩ rfl (Nat.le_of_ble_eq_true rfl) ⟨Nat.le_refl _, Nat.le_refl _⟩ dX7_go_44 (fun H locs hW => ?_)
        have hW : XR X G 12 (xMa f sg L O (va_up Y i (va_up ℓ 4 ((ℓ 4) + 1))) pb pc pd pe pg ph pp pq pt pu) H locs := hW
        refine lv_aload_n hx hb dX7_go_47 rfl (lv_at hl 0 rfl) ?_
        refine lv_iload_n hx hb dX7_go_48 rfl (lv_at hl 1 rfl) ?_
        refine lv_iconst (v := 4) hx hb dX7_go_49 (by decide) ?_
        refine x_callV hx hb hml hown hts hK hW hl.1 (c_X7_ofW l X G (i := i) (w := 4) (hi := hi) (hw := (by decide)) (hres := rfl)) (xF_mo0).1 (xF_mo0).2.1 (by decide) rfl xw_278 xw_279 xw_280 xw_5 xw_281 hdV_yX7_ofW ⟨Nat.le_of_ble_eq_true rfl, Nat.le_of_ble_eq_true rfl⟩ rfl (Nat.le_of_ble_eq_true rfl) ⟨Nat.le_refl _, Nat.le_refl _⟩ dX7_go_50 (fun H locs hW => ?_)
        refine lv_eqi (y := (ℓ 4) + 1) (xrd rfl) ?_
        refine lv_aload_n hx hb dX7_go_53 rfl (lv_at hl 0 rfl) ?_
        refine lv_iload_n hx hb dX7_go_54 rfl (lv_at hl 1 rfl) ?_
        refine lv_bipush (v := 9) hx hb dX7_go_55 (by decide) ?_
        refine x_callV hx hb hml hown hts hK hW hl.1 (c_X7_ofW l X G (i := i) (w := 9) (hi := hi) (hw := (by decide)) (hres := rfl)) (xF_mo0).1 (xF_mo0).2.1 (by decide) rfl xw_278 xw_279 xw_280 xw_5 xw_281 hdV_yX7_ofW ⟨Nat.le_of_ble_eq_true rfl, Nat.le_of_ble_eq_true rfl⟩ rfl (Nat.le_of_ble_eq_true rfl) ⟨Nat.le_refl _, Nat.le_refl _⟩ dX7_go_57 (fun H locs hW => ?_)
        refine lv_eqi (y := ℓ 9) (xrd rfl) ?_
        refine lv_icmp_ne (tgt := 68) hx hb dX7_go_60 (by decide) (fun c_4 => ?_) (fun c_4 => ?_)
        · skip
          obtain rfl : (va_up ℓ 4 ((ℓ 4) + 1)) = ℓ' := by (rw [← ho0]) <;> (simp [Mgo, c_1, c_2, c_3, Int32.not_lt.mpr c_3, c_4])
          rw [hQ0]
          exact x_vret hx hb hret hlocks hW rfl dX7_go_68
        · skip
          refine lv_aload_n hx hb dX7_go_63 rfl (lv_at hl 0 rfl) ?_
          refine lv_iload_n hx hb dX7_go_64 rfl (lv_at hl 1 rfl) ?_
          refine x_callV hx hb hml hown hts hK hW hl.1 (c_X7_endGoal l X G (i := i) (g := g) (hi := hi) (hg := (by assumption)) (hg1 := (xg1 c_2)) (hg6 := (by assumption)) (ho0 := rfl)) (xF_mo0).1 (xF_mo0).2.1 (by decide) rfl xw_510 xw_511 xw_512 xw_5 xw_513 hdV_yX7_endGoal ⟨Nat.le_of_ble_eq_true rfl, Nat.le_of_ble_eq_true rfl⟩ rfl (Nat.le_of_ble_eq_true rfl) ⟨Nat.le_refl _, Nat.le_refl _⟩ dX7_go_65 (fun H locs hW => ?_)
          have hW : XR X G 12 (xMa f sg L O (va_up Y i (Mend (va_up ℓ 4 ((ℓ 4) + 1)) g)) pb pc pd pe pg ph pp pq pt pu) H locs := hW
          obtain rfl : (Mend (va_up ℓ 4 ((ℓ 4) + 1)) g) = ℓ' := by (rw [← ho0]) <;> (simp [Mgo, c_1, c_2, c_3, Int32.not_lt.mpr c_3, c_4])
          rw [hQ0]
          exact x_vret hx hb hret hlocks hW rfl dX7_go_68
      · skip
        refine lv_aload_n hx hb dX7_go_27 rfl (lv_at hl 0 rfl) ?_
        refine lv_iload_n hx hb dX7_go_28 rfl (lv_at hl 1 rfl) ?_
        refine x_callV hx hb hml hown hts hK hW hl.1 (c_X7_walk l X G (i := i) (g := g) (hi := hi) (hg := (by assumption)) (hg1 := (xg1 c_2)) (hg6 := (by assumption)) (ho0 := rfl)) (xF_mo0).1 (xF_mo0).2.1 (by decide) rfl xw_506 xw_507 xw_508 xw_5 xw_509 hdV_yX7_walk ⟨Nat.le_of_ble_eq_true rfl, Nat.le_of_ble_eq_true rfl⟩ rfl (Nat.le_of_ble_eq_true rfl) ⟨Nat.le_refl _, Nat.le_refl _⟩ dX7_go_29 (fun H locs hW => ?_)
        have hW : XR X G 12 (xMa f sg L O (va_up Y i (Mwalk ℓ g)) pb pc pd pe pg ph pp pq pt pu) H locs := hW
        obtain rfl : (Mwalk ℓ g) = ℓ' := by (rw [← ho0]) <;> (simp [Mgo, c_1, c_2, c_3, Int32.not_le.mp c_3])
        rw [hQ0]
        exact x_vret hx hb hret hlocks hW rfl dX7_go_32
    · skip
      obtain rfl : ℓ = ℓ' := by (rw [← ho0]) <;> (simp [Mgo, c_1, c_2])
      rw [hQ0]
      exact x_vret hx hb hret hlocks hW rfl dX7_go_17
