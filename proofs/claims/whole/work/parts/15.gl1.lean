/-! ===== history; the class's own methods ===== -/
def Hok (h : Nat → Int32) : Prop := h 1 = nI (h 1).toNatClampNeg ∧ (h 1).toNatClampNeg ≤ 6 ∧ h 2 = nI (h 2).toNatClampNeg ∧ (h 2).toNatClampNeg ≤ 6
def Fkeep (a : Int32) (h : Nat → Int32) : Nat → Int32 := if a < 0 then h else va_up (va_up h 1 (if h 1 + 1 < 7 then h 1 + 1 else 0)) 2 (xmin (h 2 + 1) 6)
def Sdraft (S : Nat → xS) (h : Nat → Int32) : Nat → xS := va_up S (2 + (h 1).toNatClampNeg) (s_become (S 0) (S (2 + (h 1).toNatClampNeg)))
def FbackD (h : Nat → Int32) : Nat := if 0 < h 1 then (h 1 - 1).toNatClampNeg else 6
def Fback (h : Nat → Int32) : Nat → Int32 := if h 2 = 0 then h else va_up (va_up h 1 (if 0 < h 1 then h 1 - 1 else 6)) 2 (h 2 - 1)
def Sback (S : Nat → xS) (h : Nat → Int32) : Nat → xS := if h 2 = 0 then S else va_up S 0 (s_become (S (2 + FbackD h)) (S 0))
theorem hS_up {S : Nat → xS} {k : Nat} {σ : xS} (h : ∀ r, r < 11 → Sok (S r)) (hσ : Sok σ) : ∀ r, r < 11 → Sok (va_up S k σ r) := by
  intro r hr
  by_cases e : r = k
  · subst e; rw [va_up_at]; exact hσ
  · rw [va_up_ne _ _ e]; exact h r hr
theorem xdec6 {h : Nat → Int32} (hH : Hok h) (c : 0 < h 1) : (h 1 - 1).toNatClampNeg < 6 ∧ h 1 - 1 = nI (h 1 - 1).toNatClampNeg := by
  obtain ⟨a1, a2, -, -⟩ := hH
  obtain ⟨b1, b2, b3⟩ := xdec1 a1 a2 (fun e => by rw [e] at c; exact absurd c (by decide))
  exact ⟨by omega, b2⟩
theorem Hok_keep {a : Int32} {h : Nat → Int32} (hH : Hok h) : Hok (Fkeep a h) := by
  unfold Fkeep
  split
  · exact hH
  · obtain ⟨a1, a2, a3, a4⟩ := hH
    have e1 : h 1 + 1 = nI ((h 1).toNatClampNeg + 1) := by rw [← nI_1, ← a1]
    have e2 : h 2 + 1 = nI ((h 2).toNatClampNeg + 1) := by rw [← nI_1, ← a3]
    have k1 : (if h 1 + 1 < 7 then h 1 + 1 else 0) = nI (if h 1 + 1 < 7 then h 1 + 1 else 0).toNatClampNeg ∧ (if h 1 + 1 < 7 then h 1 + 1 else 0).toNatClampNeg ≤ 6 := by
      split
      · rename_i c
        rw [e1] at c
        have := xge8 7 rfl (by decide) (by omega) c
        rw [e1, nI_clamp (by omega)]
        exact ⟨rfl, by omega⟩
      · exact ⟨by decide, by decide⟩
    have k2 : xmin (h 2 + 1) 6 = nI (xmin (h 2 + 1) 6).toNatClampNeg ∧ (xmin (h 2 + 1) 6).toNatClampNeg ≤ 6 := by
      unfold xmin
      split
      · exact ⟨by decide, by decide⟩
      · rename_i c
        have c2 := Int32.not_lt.mp c
        rw [e2] at c2
        have := (nI_leI (a := (h 2).toNatClampNeg + 1) (b := 6) (by omega) (by decide)).mp c2
        rw [e2, nI_clamp (by omega)]
        exact ⟨rfl, this⟩
    exact ⟨k1.1, k1.2, k2.1, k2.2⟩
theorem Hok_back {h : Nat → Int32} (hH : Hok h) : Hok (Fback h) := by
  unfold Fback
  split
  · exact hH
  · rename_i h0
    have b := xdec1 hH.2.2.1 hH.2.2.2 h0
    have k1 : (if 0 < h 1 then h 1 - 1 else 6) = nI (if 0 < h 1 then h 1 - 1 else 6).toNatClampNeg ∧ (if 0 < h 1 then h 1 - 1 else 6).toNatClampNeg ≤ 6 := by
      split
      · rename_i c
        have := xdec6 hH c
        exact ⟨this.2, by omega⟩
      · exact ⟨by decide, by decide⟩
    exact ⟨k1.1, k1.2, b.2.1, b.1⟩
theorem hdV_yX0_draft : yX0_draft.cls = RX0 ∧ yX0_draft.cls ≠ "java/lang/invoke/MethodHandle" ∧ yX0_draft.cls ≠ "java/lang/invoke/VarHandle" ∧ (parseMethodDescriptor yX0_draft.desc).map (fun d => d.parameters.length) = some 1 := by decide +kernel
theorem hdV_yX0_keepUnlessError : yX0_keepUnlessError.cls = RX0 ∧ yX0_keepUnlessError.cls ≠ "java/lang/invoke/MethodHandle" ∧ yX0_keepUnlessError.cls ≠ "java/lang/invoke/VarHandle" ∧ (parseMethodDescriptor yX0_keepUnlessError.desc).map (fun d => d.parameters.length) = some 1 := by decide +kernel
theorem hdV_yX0_takeBack : yX0_takeBack.cls = RX0 ∧ yX0_takeBack.cls ≠ "java/lang/invoke/MethodHandle" ∧ yX0_takeBack.cls ≠ "java/lang/invoke/VarHandle" ∧ (parseMethodDescriptor yX0_takeBack.desc).map (fun d => d.parameters.length) = some 1 := by decide +kernel
theorem hdV_yX6_set : yX6_set.cls = RX6 ∧ yX6_set.cls ≠ "java/lang/invoke/MethodHandle" ∧ yX6_set.cls ≠ "java/lang/invoke/VarHandle" ∧ (parseMethodDescriptor yX6_set.desc).map (fun d => d.parameters.length) = some 2 := by decide +kernel
theorem hdV_yX6_lamp : yX6_lamp.cls = RX6 ∧ yX6_lamp.cls ≠ "java/lang/invoke/MethodHandle" ∧ yX6_lamp.cls ≠ "java/lang/invoke/VarHandle" ∧ (parseMethodDescriptor yX6_lamp.desc).map (fun d => d.parameters.length) = some 2 := by decide +kernel
theorem hdV_yX6_house : yX6_house.cls = RX6 ∧ yX6_house.cls ≠ "java/lang/invoke/MethodHandle" ∧ yX6_house.cls ≠ "java/lang/invoke/VarHandle" ∧ (parseMethodDescriptor yX6_house.desc).map (fun d => d.parameters.length) = some 1 := by decide +kernel
theorem hdV_yX6_walker : yX6_walker.cls = RX6 ∧ yX6_walker.cls ≠ "java/lang/invoke/MethodHandle" ∧ yX6_walker.cls ≠ "java/lang/invoke/VarHandle" ∧ (parseMethodDescriptor yX6_walker.desc).map (fun d => d.parameters.length) = some 2 := by decide +kernel
theorem hdV_yX6_goal : yX6_goal.cls = RX6 ∧ yX6_goal.cls ≠ "java/lang/invoke/MethodHandle" ∧ yX6_goal.cls ≠ "java/lang/invoke/VarHandle" ∧ (parseMethodDescriptor yX6_goal.desc).map (fun d => d.parameters.length) = some 3 := by decide +kernel
theorem hdV_yX6_mend : yX6_mend.cls = RX6 ∧ yX6_mend.cls ≠ "java/lang/invoke/MethodHandle" ∧ yX6_mend.cls ≠ "java/lang/invoke/VarHandle" ∧ (parseMethodDescriptor yX6_mend.desc).map (fun d => d.parameters.length) = some 2 := by decide +kernel
theorem hdV_yX6_cough : yX6_cough.cls = RX6 ∧ yX6_cough.cls ≠ "java/lang/invoke/MethodHandle" ∧ yX6_cough.cls ≠ "java/lang/invoke/VarHandle" ∧ (parseMethodDescriptor yX6_cough.desc).map (fun d => d.parameters.length) = some 1 := by decide +kernel
theorem hdV_yX6_ticks : yX6_ticks.cls = RX6 ∧ yX6_ticks.cls ≠ "java/lang/invoke/MethodHandle" ∧ yX6_ticks.cls ≠ "java/lang/invoke/VarHandle" ∧ (parseMethodDescriptor yX6_ticks.desc).map (fun d => d.parameters.length) = some 1 := by decide +kernel
set_option maxHeartbeats 4000000 in
set_option maxRecDepth 100000 in
theorem c_X0_draft (l : Launch) (X : xX) {S : Nat → xS} {sv hs pf sn nb : Nat → Int32} {ρ : xS}  (hS : ∀ r, r < 11 → Sok (S r)) (hH : Hok hs) {S' : Nat → xS} (ho0 : (Sdraft S hs) = S') : XC l yX0_draft cX0_draft 2 none 3 83 0 0 X xsh [.ref (xB X + xkey 11 1 0), .ref (xB X + xkey 0 0 0)] 603 603 (xval (xB X) (xGl S (xMi sv hs pf sn nb) ρ)) (xval (xB X) (xGl S' (xMi sv hs pf sn nb) ρ)) none := by
  refine XC.of RX0 "draft" [(0, .ref (xB X + xkey 11 1 0)), (1, .ref (xB X + xkey 0 0 0))] (by decide) rfl rfl (Nat.le_of_ble_eq_true rfl) rfl ?_
  intro p e s m args below meth c ls hx hb hret hml hts hown hlocks hnm hK hW hl
  have hW : XG X (xGl S (xMi sv hs pf sn nb) ρ) s.heap [] := hW
  obtain ⟨Q0, hQ0⟩ : ∃ z, z = MQ below (xQ X xsh 603 (xval (xB X) (xGl S' (xMi sv hs pf sn nb) ρ)) none) args s 0 0 (fun q => xB X ≤ q) := ⟨_, rfl⟩
  rw [← hQ0]
  have hd6 := hH.2.1
  refine lv_aload_n hx hb dX0_draft_0 rfl (lv_at hl 0 rfl) ?_
  refine r_getr (C := RX0) (T := TX0) hx hb hts hown hK hW (xF_mi1).1 (xF_mi1).2.1 inlX0 rfl (by decide) 0 (by decide) (show xro (xkey 11 1 0) 0 = some (xkey 11 5 110) from by decide +kernel) xw_67 rfl dX0_draft_1 ?_
  refine lv_aload_n hx hb dX0_draft_4 rfl (lv_at hl 0 rfl) ?_
  refine r_get hx hb hts hown hK (XG.in11 hW) (C := RX0) (T := TX0) (xF_mi1) inlX0 rfl (by decide) 1 (by decide) (by decide +kernel) xw_98 rfl (x := hs 1) rfl dX0_draft_5 ?_
  refine r_aald hx hb hK hW xF_mi5t.1 xF_mi5t.2 (by decide) 3 rfl ((hs 1).toNatClampNeg) (by omega) (by decide) hH.1 (xr_states ((hs 1).toNatClampNeg) (by omega)) dX0_draft_8 ?_
  refine lv_aload_n hx hb dX0_draft_9 rfl (lv_at hl 1 rfl) ?_
  have hW : XR X (xGl S (xMi sv hs pf sn nb) ρ) (2 + (hs 1).toNatClampNeg) (xSt ((S (2 + (hs 1).toNatClampNeg)) 0 0) ((S (2 + (hs 1).toNatClampNeg)) 1 0) ((S (2 + (hs 1).toNatClampNeg)) 2) ((S (2 + (hs 1).toNatClampNeg)) 3) ((S (2 + (hs 1).toNatClampNeg)) 4) ((S (2 + (hs 1).toNatClampNeg)) 5) ((S (2 + (hs 1).toNatClampNeg)) 6)) _ _ := XG.inS hW (2 + (hs 1).toNatClampNeg) (S (2 + (hs 1).toNatClampNeg)) (by omega) rfl
  refine x_callV hx hb hml hown hts hK hW hl.1 (c_X4_become l X _ (r := 2 + (hs 1).toNatClampNeg) (r2 := 0) (n2 := (cN (S 0))) (nh2 := (cH (S 0))) (nw2 := (cW (S 0))) (hr := (by omega)) (hr2 := (by decide)) (hne := (by omega)) (hn2 := (by rw [xGl_at (r := 0) (by decide)]; exact (hS 0 (by decide)).hn)) (hn2b := (hS 0 (by decide)).hn16) (hh2 := (by rw [xGl_at (r := 0) (by decide)]; exact (hS 0 (by decide)).hh)) (hh2b := (hS 0 (by decide)).hh8) (hw2 := (by rw [xGl_at (r := 0) (by decide)]; exact (hS 0 (by decide)).hw)) (hw2b := (hS 0 (by decide)).hw8) (hbo := (by rw [xGl_at (r := 0) (by decide)]; exact (hS 0 (by decide)).hbo)) (ho0 := rfl) (ho1 := rfl) (ho2 := rfl) (ho3 := rfl) (ho4 := rfl) (ho5 := rfl) (ho6 := rfl)) (xF_street (2 + (hs 1).toNatClampNeg) (by omega)).1 (xF_street (2 + (hs 1).toNatClampNeg) (by omega)).2.1 (by decide) rfl xw_99 xw_100 xw_101 xw_15 xw_102 hdV_yX4_become ⟨Nat.le_of_ble_eq_true rfl, Nat.le_of_ble_eq_true rfl⟩ rfl (Nat.le_of_ble_eq_true rfl) ⟨Nat.le_refl _, Nat.le_refl _⟩ dX0_draft_10 (fun H locs hW => ?_)
  have hW : XR X (xGl S (xMi sv hs pf sn nb) ρ) (2 + (hs 1).toNatClampNeg) (s_become (S 0) (S (2 + (hs 1).toNatClampNeg))) H locs := by rw [xGl_at (r := 0) (by decide)] at hW; exact hW
  have hW : XG X (xGl (va_up S (2 + (hs 1).toNatClampNeg) (s_become (S 0) (S (2 + (hs 1).toNatClampNeg)))) (xMi sv hs pf sn nb) ρ) H locs := by have h := XG.outS (by omega) hW; exact h
  have hk_1 : Sok (s_become (S 0) (S (2 + (hs 1).toNatClampNeg))) := (Sok_become (hS 0 (by decide)) (hS (2 + (hs 1).toNatClampNeg) (by omega)))
  obtain rfl : (va_up S (2 + (hs 1).toNatClampNeg) (s_become (S 0) (S (2 + (hs 1).toNatClampNeg)))) = S' := by (rw [← ho0]) <;> (rfl)
  rw [hQ0]
  exact x_vret hx hb hret hlocks hW rfl dX0_draft_13
set_option maxHeartbeats 4000000 in
set_option maxRecDepth 100000 in
theorem c_X0_keepUnlessError (l : Launch) (X : xX) (G : xG) {sv hs pf sn nb : Nat → Int32} {a : Int32}  {hs' : Nat → Int32} (ho0 : (Fkeep a hs) = hs') {res : Int32} (hres : (a) = res) : XC l yX0_keepUnlessError cX0_keepUnlessError 2 (some .int) 1 21 0 0 X xsh [.ref (xB X + xkey 11 1 0), .int a] 603 603 (xval (xB X) (va_up G 11 (xMi sv hs pf sn nb))) (xval (xB X) (va_up G 11 (xMi sv hs' pf sn nb))) (some (.int res)) := by
  refine XC.of RX0 "keepUnlessError" [(0, .ref (xB X + xkey 11 1 0)), (1, .int a)] (by decide) rfl rfl (Nat.le_of_ble_eq_true rfl) rfl ?_
  intro p e s m args below meth c ls hx hb hret hml hts hown hlocks hnm hK hW hl
  have hW : XR X G 11 (xMi sv hs pf sn nb) s.heap [] := hW
  obtain ⟨Q0, hQ0⟩ : ∃ z, z = MQ below (xQ X xsh 603 (xval (xB X) (va_up G 11 (xMi sv hs' pf sn nb))) (some (.int res))) args s 0 0 (fun q => xB X ≤ q) := ⟨_, rfl⟩
  rw [← hQ0]
  refine lv_iload_n hx hb dX0_keepUnlessError_0 rfl (lv_at hl 1 rfl) ?_
  refine lv_if_lt (tgt := 44) hx hb dX0_keepUnlessError_1 (by decide) (fun c_1 => ?_) (fun c_1 => ?_)
  · skip
    refine lv_iload_n hx hb dX0_keepUnlessError_44 rfl (lv_at hl 1 rfl) ?_
    obtain rfl : hs = hs' := by (rw [← ho0]) <;> (simp [Fkeep, c_1, Int32.not_le.mpr c_1])
    obtain rfl : a = res := by (rw [← hres]) <;> (simp [Fkeep, c_1, Int32.not_le.mpr c_1])
    rw [hQ0]
    exact x_iret hx hb hret hlocks rfl hW rfl dX0_keepUnlessError_45
  · skip
    refine lv_aload_n hx hb dX0_keepUnlessError_4 rfl (lv_at hl 0 rfl) ?_
    refine lv_aload_n hx hb dX0_keepUnlessError_5 rfl (lv_at hl 0 rfl) ?_
    refine r_get hx hb hts hown hK hW (C := RX0) (T := TX0) (xF_mi1) inlX0 rfl (by decide) 1 (by decide) (by decide +kernel) xw_98 rfl (x := hs 1) rfl dX0_keepUnlessError_6 ?_
    refine lv_iconst (v := 1) hx hb dX0_keepUnlessError_9 (by decide) ?_
    refine lv_iadd hx hb dX0_keepUnlessError_10 ?_
    refine lv_bipush (v := 7) hx hb dX0_keepUnlessError_11 (by decide) ?_
    refine lv_icmp_ge (tgt := 25) hx hb dX0_keepUnlessError_13 (by decide) (fun c_2 => ?_) (fun c_2 => ?_)
    · skip
      refine lv_iconst (v := 0) hx hb dX0_keepUnlessError_25 (by decide) ?_
      refine r_put hx hb hts hown hK hW (C := RX0) (T := TX0) (xF_mi1) inlX0 tyX0 tyX0_ok nmX0 rfl (by decide) 1 (by decide) (by decide +kernel) xw_98 rfl rfl rfl rfl xMi1 dX0_keepUnlessError_26 (fun H locs hW => ?_)
      refine lv_aload_n hx hb dX0_keepUnlessError_29 rfl (lv_at hl 0 rfl) ?_
      refine lv_aload_n hx hb dX0_keepUnlessError_30 rfl (lv_at hl 0 rfl) ?_
      refine r_get hx hb hts hown hK hW (C := RX0) (T := TX0) (xF_mi1) inlX0 rfl (by decide) 2 (by decide) (by decide +kernel) xw_150 rfl (x := hs 2) rfl dX0_keepUnlessError_31 ?_
      refine lv_iconst (v := 1) hx hb dX0_keepUnlessError_34 (by decide) ?_
      refine lv_iadd hx hb dX0_keepUnlessError_35 ?_
      refine lv_bipush (v := 6) hx hb dX0_keepUnlessError_36 (by decide) ?_
      refine va_mmin hx hb (hml.trans hl.1.symm) hown (hts _ xw_151) (hts _ xw_152) (hts _ xw_153) (hts _ xw_154) (Nat.le_of_ble_eq_true rfl) (Nat.le_of_ble_eq_true rfl) (Nat.le_refl _) (Nat.le_refl _) dX0_keepUnlessError_38 ?_
      refine lv_eqi (y := xmin ((hs 2) + 1) 6) rfl ?_
      refine r_put hx hb hts hown hK hW (C := RX0) (T := TX0) (xF_mi1) inlX0 tyX0 tyX0_ok nmX0 rfl (by decide) 2 (by decide) (by decide +kernel) xw_150 rfl rfl rfl rfl xMi1 dX0_keepUnlessError_41 (fun H locs hW => ?_)
      refine lv_iload_n hx hb dX0_keepUnlessError_44 rfl (lv_at hl 1 rfl) ?_
      obtain rfl : (va_up (va_up hs 1 0) 2 (xmin ((hs 2) + 1) 6)) = hs' := by (rw [← ho0]) <;> (simp [Fkeep, c_1, Int32.not_lt.mp c_1, c_2, Int32.not_lt.mpr c_2])
      obtain rfl : a = res := by (rw [← hres]) <;> (simp [Fkeep, c_1, Int32.not_lt.mp c_1, c_2, Int32.not_lt.mpr c_2])
      rw [hQ0]
      exact x_iret hx hb hret hlocks rfl hW rfl dX0_keepUnlessError_45
    · skip
      refine lv_aload_n hx hb dX0_keepUnlessError_16 rfl (lv_at hl 0 rfl) ?_
      refine r_get hx hb hts hown hK hW (C := RX0) (T := TX0) (xF_mi1) inlX0 rfl (by decide) 1 (by decide) (by decide +kernel) xw_98 rfl (x := hs 1) rfl dX0_keepUnlessError_17 ?_
      refine lv_iconst (v := 1) hx hb dX0_keepUnlessError_20 (by decide) ?_
      refine lv_iadd hx hb dX0_keepUnlessError_21 ?_
      refine lv_goto (tgt := 26) hx hb dX0_keepUnlessError_22 (by decide) ?_
      refine r_put hx hb hts hown hK hW (C := RX0) (T := TX0) (xF_mi1) inlX0 tyX0 tyX0_ok nmX0 rfl (by decide) 1 (by decide) (by decide +kernel) xw_98 rfl rfl rfl rfl xMi1 dX0_keepUnlessError_26 (fun H locs hW => ?_)
      refine lv_aload_n hx hb dX0_keepUnlessError_29 rfl (lv_at hl 0 rfl) ?_
      refine lv_aload_n hx hb dX0_keepUnlessError_30 rfl (lv_at hl 0 rfl) ?_
      refine r_get hx hb hts hown hK hW (C := RX0) (T := TX0) (xF_mi1) inlX0 rfl (by decide) 2 (by decide) (by decide +kernel) xw_150 rfl (x := hs 2) rfl dX0_keepUnlessError_31 ?_
      refine lv_iconst (v := 1) hx hb dX0_keepUnlessError_34 (by decide) ?_
      refine lv_iadd hx hb dX0_keepUnlessError_35 ?_
      refine lv_bipush (v := 6) hx hb dX0_keepUnlessError_36 (by decide) ?_
      refine va_mmin hx hb (hml.trans hl.1.symm) hown (hts _ xw_151) (hts _ xw_152) (hts _ xw_153) (hts _ xw_154) (Nat.le_of_ble_eq_true rfl) (Nat.le_of_ble_eq_true rfl) (Nat.le_refl _) (Nat.le_refl _) dX0_keepUnlessError_38 ?_
      refine lv_eqi (y := xmin ((hs 2) + 1) 6) rfl ?_
      refine r_put hx hb hts hown hK hW (C := RX0) (T := TX0) (xF_mi1) inlX0 tyX0 tyX0_ok nmX0 rfl (by decide) 2 (by decide) (by decide +kernel) xw_150 rfl rfl rfl rfl xMi1 dX0_keepUnlessError_41 (fun H locs hW => ?_)
      refine lv_iload_n hx hb dX0_keepUnlessError_44 rfl (lv_at hl 1 rfl) ?_
      obtain rfl : (va_up (va_up hs 1 ((hs 1) + 1)) 2 (xmin ((hs 2) + 1) 6)) = hs' := by (rw [← ho0]) <;> (simp [Fkeep, c_1, Int32.not_lt.mp c_1, c_2, Int32.not_le.mp c_2])
      obtain rfl : a = res := by (rw [← hres]) <;> (simp [Fkeep, c_1, Int32.not_lt.mp c_1, c_2, Int32.not_le.mp c_2])
      rw [hQ0]
      exact x_iret hx hb hret hlocks rfl hW rfl dX0_keepUnlessError_45
set_option maxHeartbeats 4000000 in
set_option maxRecDepth 100000 in
theorem c_X0_takeBack (l : Launch) (X : xX) {S : Nat → xS} {sv hs pf sn nb : Nat → Int32} {ρ : xS}  (hS : ∀ r, r < 11 → Sok (S r)) (hH : Hok hs) {S' : Nat → xS} (ho0 : (Sback S hs) = S') {hs' : Nat → Int32} (ho1 : (Fback hs) = hs') {res : Int32} (hres : (if hs 2 = 0 then -5 else hs 2 - 1) = res) : XC l yX0_takeBack cX0_takeBack 2 (some .int) 3 83 0 0 X xsh [.ref (xB X + xkey 11 1 0), .ref (xB X + xkey 0 0 0)] 603 603 (xval (xB X) (xGl S (xMi sv hs pf sn nb) ρ)) (xval (xB X) (xGl S' (xMi sv hs' pf sn nb) ρ)) (some (.int res)) := by
  refine XC.of RX0 "takeBack" [(0, .ref (xB X + xkey 11 1 0)), (1, .ref (xB X + xkey 0 0 0))] (by decide) rfl rfl (Nat.le_of_ble_eq_true rfl) rfl ?_
  intro p e s m args below meth c ls hx hb hret hml hts hown hlocks hnm hK hW hl
  have hW : XG X (xGl S (xMi sv hs pf sn nb) ρ) s.heap [] := hW
  obtain ⟨Q0, hQ0⟩ : ∃ z, z = MQ below (xQ X xsh 603 (xval (xB X) (xGl S' (xMi sv hs' pf sn nb) ρ)) (some (.int res))) args s 0 0 (fun q => xB X ≤ q) := ⟨_, rfl⟩
  rw [← hQ0]
  refine lv_aload_n hx hb dX0_takeBack_0 rfl (lv_at hl 0 rfl) ?_
  refine r_get hx hb hts hown hK (XG.in11 hW) (C := RX0) (T := TX0) (xF_mi1) inlX0 rfl (by decide) 2 (by decide) (by decide +kernel) xw_150 rfl (x := hs 2) rfl dX0_takeBack_1 ?_
  refine lv_if_ne (tgt := 10) hx hb dX0_takeBack_4 (by decide) (fun c_1 => ?_) (fun c_1 => ?_)
  · skip
    refine lv_aload_n hx hb dX0_takeBack_10 rfl (lv_at hl 0 rfl) ?_
    refine lv_aload_n hx hb dX0_takeBack_11 rfl (lv_at hl 0 rfl) ?_
    refine r_get hx hb hts hown hK (XG.in11 hW) (C := RX0) (T := TX0) (xF_mi1) inlX0 rfl (by decide) 1 (by decide) (by decide +kernel) xw_98 rfl (x := hs 1) rfl dX0_takeBack_12 ?_
    refine lv_if_le (tgt := 27) hx hb dX0_takeBack_15 (by decide) (fun c_2 => ?_) (fun c_2 => ?_)
    · skip
      refine lv_bipush (v := 6) hx hb dX0_takeBack_27 (by decide) ?_
      refine r_put hx hb hts hown hK (XG.in11 hW) (C := RX0) (T := TX0) (xF_mi1) inlX0 tyX0 tyX0_ok nmX0 rfl (by decide) 1 (by decide) (by decide +kernel) xw_98 rfl rfl rfl rfl xMi1 dX0_takeBack_29 (fun H locs hW => ?_)
      have hW : XG X (xGl S (xMi sv (va_up hs 1 6) pf sn nb) ρ) H locs := XG.out11 hW
      refine lv_aload_n hx hb dX0_takeBack_32 rfl (lv_at hl 0 rfl) ?_
      refine lv_dup hx hb dX0_takeBack_33 rfl ?_
      refine r_get hx hb hts hown hK (XG.in11 hW) (C := RX0) (T := TX0) (xF_mi1) inlX0 rfl (by decide) 2 (by decide) (by decide +kernel) xw_150 rfl (x := hs 2) rfl dX0_takeBack_34 ?_
      refine lv_iconst (v := 1) hx hb dX0_takeBack_37 (by decide) ?_
      refine lv_isub hx hb dX0_takeBack_38 ?_
      refine r_put hx hb hts hown hK (XG.in11 hW) (C := RX0) (T := TX0) (xF_mi1) inlX0 tyX0 tyX0_ok nmX0 rfl (by decide) 2 (by decide) (by decide +kernel) xw_150 rfl rfl rfl rfl xMi1 dX0_takeBack_39 (fun H locs hW => ?_)
      have hW : XG X (xGl S (xMi sv (va_up (va_up hs 1 6) 2 ((hs 2) - 1)) pf sn nb) ρ) H locs := XG.out11 hW
      refine lv_aload_n hx hb dX0_takeBack_42 rfl (lv_at hl 1 rfl) ?_
      refine lv_aload_n hx hb dX0_takeBack_43 rfl (lv_at hl 0 rfl) ?_
      refine r_getr (C := RX0) (T := TX0) hx hb hts hown hK hW (xF_mi1).1 (xF_mi1).2.1 inlX0 rfl (by decide) 0 (by decide) (show xro (xkey 11 1 0) 0 = some (xkey 11 5 110) from by decide +kernel) xw_67 rfl dX0_takeBack_44 ?_
      refine lv_aload_n hx hb dX0_takeBack_47 rfl (lv_at hl 0 rfl) ?_
      refine r_get hx hb hts hown hK (XG.in11 hW) (C := RX0) (T := TX0) (xF_mi1) inlX0 rfl (by decide) 1 (by decide) (by decide +kernel) xw_98 rfl (x := 6) rfl dX0_takeBack_48 ?_
      refine r_aald hx hb hK hW xF_mi5t.1 xF_mi5t.2 (by decide) 3 rfl 6 (by decide) (by decide) (by decide) (xr_states 6 (by decide)) dX0_takeBack_51 ?_
      have hW : XR X (xGl S (xMi sv (va_up (va_up hs 1 6) 2 ((hs 2) - 1)) pf sn nb) ρ) 0 (xSt ((S 0) 0 0) ((S 0) 1 0) ((S 0) 2) ((S 0) 3) ((S 0) 4) ((S 0) 5) ((S 0) 6)) _ _ := XG.inS hW 0 (S 0) (by decide) rfl
      refine x_callV hx hb hml hown hts hK hW hl.1 (c_X4_become l X _ (r := 0) (r2 := 2 + 6) (n2 := (cN (S (2 + 6)))) (nh2 := (cH (S (2 + 6)))) (nw2 := (cW (S (2 + 6)))) (hr := (by decide)) (hr2 := (by omega)) (hne := (by omega)) (hn2 := (by rw [xGl_at (r := 2 + 6) (by omega)]; exact (hS (2 + 6) (by omega)).hn)) (hn2b := (hS (2 + 6) (by omega)).hn16) (hh2 := (by rw [xGl_at (r := 2 + 6) (by omega)]; exact (hS (2 + 6) (by omega)).hh)) (hh2b := (hS (2 + 6) (by omega)).hh8) (hw2 := (by rw [xGl_at (r := 2 + 6) (by omega)]; exact (hS (2 + 6) (by omega)).hw)) (hw2b := (hS (2 + 6) (by omega)).hw8) (hbo := (by rw [xGl_at (r := 2 + 6) (by omega)]; exact (hS (2 + 6) (by omega)).hbo)) (ho0 := rfl) (ho1 := rfl) (ho2 := rfl) (ho3 := rfl) (ho4 := rfl) (ho5 := rfl) (ho6 := rfl)) (xF_street 0 (by omega)).1 (xF_street 0 (by omega)).2.1 (by decide) rfl xw_99 xw_100 xw_101 xw_15 xw_102 hdV_yX4_become ⟨Nat.le_of_ble_eq_true rfl, Nat.le_of_ble_eq_true rfl⟩ rfl (Nat.le_of_ble_eq_true rfl) ⟨Nat.le_refl _, Nat.le_refl _⟩ dX0_takeBack_52 (fun H locs hW => ?_)
      have hW : XR X (xGl S (xMi sv (va_up (va_up hs 1 6) 2 ((hs 2) - 1)) pf sn nb) ρ) 0 (s_become (S (2 + 6)) (S 0)) H locs := by rw [xGl_at (r := 2 + 6) (by omega)] at hW; exact hW
      have hW : XG X (xGl (va_up S 0 (s_become (S (2 + 6)) (S 0))) (xMi sv (va_up (va_up hs 1 6) 2 ((hs 2) - 1)) pf sn nb) ρ) H locs := by have h := XG.outS (by decide) hW; exact h
      have hk_3 : Sok (s_become (S (2 + 6)) (S 0)) := (Sok_become (hS (2 + 6) (by omega)) (hS 0 (by decide)))
      refine lv_aload_n hx hb dX0_takeBack_55 rfl (lv_at hl 0 rfl) ?_
      refine r_get hx hb hts hown hK (XG.in11 hW) (C := RX0) (T := TX0) (xF_mi1) inlX0 rfl (by decide) 2 (by decide) (by decide +kernel) xw_150 rfl (x := (hs 2) - 1) rfl dX0_takeBack_56 ?_
      obtain rfl : (va_up S 0 (s_become (S (2 + 6)) (S 0))) = S' := by (rw [← ho0]) <;> (simp [Sback, Fback, FbackD, c_1, c_2, Int32.not_lt.mpr c_2])
      obtain rfl : (va_up (va_up hs 1 6) 2 ((hs 2) - 1)) = hs' := by (rw [← ho1]) <;> (simp [Sback, Fback, FbackD, c_1, c_2, Int32.not_lt.mpr c_2])
      obtain rfl : (hs 2) - 1 = res := by (rw [← hres]) <;> (simp [Sback, Fback, FbackD, c_1, c_2, Int32.not_lt.mpr c_2])
      rw [hQ0]
      exact x_iret hx hb hret hlocks rfl hW rfl dX0_takeBack_59
    · skip
      have hx6 := xdec6 hH (Int32.not_le.mp c_2)
      refine lv_aload_n hx hb dX0_takeBack_18 rfl (lv_at hl 0 rfl) ?_
      refine r_get hx hb hts hown hK (XG.in11 hW) (C := RX0) (T := TX0) (xF_mi1) inlX0 rfl (by decide) 1 (by decide) (by decide +kernel) xw_98 rfl (x := hs 1) rfl dX0_takeBack_19 ?_
      refine lv_iconst (v := 1) hx hb dX0_takeBack_22 (by decide) ?_
      refine lv_isub hx hb dX0_takeBack_23 ?_
      refine lv_goto (tgt := 29) hx hb dX0_takeBack_24 (by decide) ?_
      refine r_put hx hb hts hown hK (XG.in11 hW) (C := RX0) (T := TX0) (xF_mi1) inlX0 tyX0 tyX0_ok nmX0 rfl (by decide) 1 (by decide) (by decide +kernel) xw_98 rfl rfl rfl rfl xMi1 dX0_takeBack_29 (fun H locs hW => ?_)
      have hW : XG X (xGl S (xMi sv (va_up hs 1 ((hs 1) - 1)) pf sn nb) ρ) H locs := XG.out11 hW
      refine lv_aload_n hx hb dX0_takeBack_32 rfl (lv_at hl 0 rfl) ?_
      refine lv_dup hx hb dX0_takeBack_33 rfl ?_
      refine r_get hx hb hts hown hK (XG.in11 hW) (C := RX0) (T := TX0) (xF_mi1) inlX0 rfl (by decide) 2 (by decide) (by decide +kernel) xw_150 rfl (x := hs 2) rfl dX0_takeBack_34 ?_
      refine lv_iconst (v := 1) hx hb dX0_takeBack_37 (by decide) ?_
      refine lv_isub hx hb dX0_takeBack_38 ?_
      refine r_put hx hb hts hown hK (XG.in11 hW) (C := RX0) (T := TX0) (xF_mi1) inlX0 tyX0 tyX0_ok nmX0 rfl (by decide) 2 (by decide) (by decide +kernel) xw_150 rfl rfl rfl rfl xMi1 dX0_takeBack_39 (fun H locs hW => ?_)
      have hW : XG X (xGl S (xMi sv (va_up (va_up hs 1 ((hs 1) - 1)) 2 ((hs 2) - 1)) pf sn nb) ρ) H locs := XG.out11 hW
      refine lv_aload_n hx hb dX0_takeBack_42 rfl (lv_at hl 1 rfl) ?_
      refine lv_aload_n hx hb dX0_takeBack_43 rfl (lv_at hl 0 rfl) ?_
      refine r_getr (C := RX0) (T := TX0) hx hb hts hown hK hW (xF_mi1).1 (xF_mi1).2.1 inlX0 rfl (by decide) 0 (by decide) (show xro (xkey 11 1 0) 0 = some (xkey 11 5 110) from by decide +kernel) xw_67 rfl dX0_takeBack_44 ?_
      refine lv_aload_n hx hb dX0_takeBack_47 rfl (lv_at hl 0 rfl) ?_
      refine r_get hx hb hts hown hK (XG.in11 hW) (C := RX0) (T := TX0) (xF_mi1) inlX0 rfl (by decide) 1 (by decide) (by decide +kernel) xw_98 rfl (x := (hs 1) - 1) rfl dX0_takeBack_48 ?_
      refine r_aald hx hb hK hW xF_mi5t.1 xF_mi5t.2 (by decide) 3 rfl ((hs 1 - 1).toNatClampNeg) (by omega) (by decide) hx6.2 (xr_states ((hs 1 - 1).toNatClampNeg) (by omega)) dX0_takeBack_51 ?_
      have hW : XR X (xGl S (xMi sv (va_up (va_up hs 1 ((hs 1) - 1)) 2 ((hs 2) - 1)) pf sn nb) ρ) 0 (xSt ((S 0) 0 0) ((S 0) 1 0) ((S 0) 2) ((S 0) 3) ((S 0) 4) ((S 0) 5) ((S 0) 6)) _ _ := XG.inS hW 0 (S 0) (by decide) rfl
      refine x_callV hx hb hml hown hts hK hW hl.1 (c_X4_become l X _ (r := 0) (r2 := 2 + (hs 1 - 1).toNatClampNeg) (n2 := (cN (S (2 + (hs 1 - 1).toNatClampNeg)))) (nh2 := (cH (S (2 + (hs 1 - 1).toNatClampNeg)))) (nw2 := (cW (S (2 + (hs 1 - 1).toNatClampNeg)))) (hr := (by decide)) (hr2 := (by omega)) (hne := (by omega)) (hn2 := (by rw [xGl_at (r := 2 + (hs 1 - 1).toNatClampNeg) (by omega)]; exact (hS (2 + (hs 1 - 1).toNatClampNeg) (by omega)).hn)) (hn2b := (hS (2 + (hs 1 - 1).toNatClampNeg) (by omega)).hn16) (hh2 := (by rw [xGl_at (r := 2 + (hs 1 - 1).toNatClampNeg) (by omega)]; exact (hS (2 + (hs 1 - 1).toNatClampNeg) (by omega)).hh)) (hh2b := (hS (2 + (hs 1 - 1).toNatClampNeg) (by omega)).hh8) (hw2 := (by rw [xGl_at (r := 2 + (hs 1 - 1).toNatClampNeg) (by omega)]; exact (hS (2 + (hs 1 - 1).toNatClampNeg) (by omega)).hw)) (hw2b := (hS (2 + (hs 1 - 1).toNatClampNeg) (by omega)).hw8) (hbo := (by rw [xGl_at (r := 2 + (hs 1 - 1).toNatClampNeg) (by omega)]; exact (hS (2 + (hs 1 - 1).toNatClampNeg) (by omega)).hbo)) (ho0 := rfl) (ho1 := rfl) (ho2 := rfl) (ho3 := rfl) (ho4 := rfl) (ho5 := rfl) (ho6 := rfl)) (xF_street 0 (by omega)).1 (xF_street 0 (by omega)).2.1 (by decide) rfl xw_99 xw_100 xw_101 xw_15 xw_102 hdV_yX4_become ⟨Nat.le_of_ble_eq_true rfl, Nat.le_of_ble_eq_true rfl⟩ rfl (Nat.le_of_ble_eq_true rfl) ⟨Nat.le_refl _, Nat.le_refl _⟩ dX0_takeBack_52 (fun H locs hW => ?_)
      have hW : XR X (xGl S (xMi sv (va_up (va_up hs 1 ((hs 1) - 1)) 2 ((hs 2) - 1)) pf sn nb) ρ) 0 (s_become (S (2 + (hs 1 - 1).toNatClampNeg)) (S 0)) H locs := by rw [xGl_at (r := 2 + (hs 1 - 1).toNatClampNeg) (by omega)] at hW; exact hW
      have hW : XG X (xGl (va_up S 0 (s_become (S (2 + (hs 1 - 1).toNatClampNeg)) (S 0))) (xMi sv (va_up (va_up hs 1 ((hs 1) - 1)) 2 ((hs 2) - 1)) pf sn nb) ρ) H locs := by have h := XG.outS (by decide) hW; exact h
      have hk_4 : Sok (s_become (S (2 + (hs 1 - 1).toNatClampNeg)) (S 0)) := (Sok_become (hS (2 + (hs 1 - 1).toNatClampNeg) (by omega)) (hS 0 (by decide)))
      refine lv_aload_n hx hb dX0_takeBack_55 rfl (lv_at hl 0 rfl) ?_
      refine r_get hx hb hts hown hK (XG.in11 hW) (C := RX0) (T := TX0) (xF_mi1) inlX0 rfl (by decide) 2 (by decide) (by decide +kernel) xw_150 rfl (x := (hs 2) - 1) rfl dX0_takeBack_56 ?_
      obtain rfl : (va_up S 0 (s_become (S (2 + (hs 1 - 1).toNatClampNeg)) (S 0))) = S' := by (rw [← ho0]) <;> (simp [Sback, Fback, FbackD, c_1, c_2, Int32.not_le.mp c_2])
      obtain rfl : (va_up (va_up hs 1 ((hs 1) - 1)) 2 ((hs 2) - 1)) = hs' := by (rw [← ho1]) <;> (simp [Sback, Fback, FbackD, c_1, c_2, Int32.not_le.mp c_2])
      obtain rfl : (hs 2) - 1 = res := by (rw [← hres]) <;> (simp [Sback, Fback, FbackD, c_1, c_2, Int32.not_le.mp c_2])
      rw [hQ0]
      exact x_iret hx hb hret hlocks rfl hW rfl dX0_takeBack_59
  · skip
    refine lv_bipush (v := (-5)) hx hb dX0_takeBack_7 (by decide) ?_
    obtain rfl : S = S' := by (rw [← ho0]) <;> (simp [Sback, Fback, FbackD, c_1])
    obtain rfl : hs = hs' := by (rw [← ho1]) <;> (simp [Sback, Fback, FbackD, c_1])
    obtain rfl : (-5) = res := by (rw [← hres]) <;> (simp [Sback, Fback, FbackD, c_1])
    rw [hQ0]
    exact x_iret hx hb hret hlocks rfl hW rfl dX0_takeBack_9
set_option maxHeartbeats 4000000 in
set_option maxRecDepth 100000 in
theorem c_X6_set (l : Launch) (X : xX) {S : Nat → xS} {sv hs pf sn nb : Nat → Int32} {ρ : xS} {x v : Int32} (hS : ∀ r, r < 11 → Sok (S r)) (hH : Hok hs) {S' : Nat → xS} (ho0 : (va_up (Sdraft S hs) 0 (s_changeSetting x v (S 0))) = S') {hs' : Nat → Int32} (ho1 : (Fkeep (r_changeSetting x v (S 0)) hs) = hs') {res : Int32} (hres : (r_changeSetting x v (S 0)) = res) : XC l yX6_set cX6_set 3 (some .int) 4 104 0 0 X xsh [.ref (xB X + xkey 11 5 0), .int x, .int v] 603 603 (xval (xB X) (xGl S (xMi sv hs pf sn nb) ρ)) (xval (xB X) (xGl S' (xMi sv hs' pf sn nb) ρ)) (some (.int res)) := by
  refine XC.of RX6 "set" [(0, .ref (xB X + xkey 11 5 0)), (1, .int x), (2, .int v)] (by decide) rfl rfl (Nat.le_of_ble_eq_true rfl) rfl ?_
  intro p e s m args below meth c ls hx hb hret hml hts hown hlocks hnm hK hW hl
  have hW : XG X (xGl S (xMi sv hs pf sn nb) ρ) s.heap [] := hW
  obtain ⟨Q0, hQ0⟩ : ∃ z, z = MQ below (xQ X xsh 603 (xval (xB X) (xGl S' (xMi sv hs' pf sn nb) ρ)) (some (.int res))) args s 0 0 (fun q => xB X ≤ q) := ⟨_, rfl⟩
  rw [← hQ0]
  have hd6 := hH.2.1
  refine lv_aload_n hx hb dX6_set_0 rfl (lv_at hl 0 rfl) ?_
  refine r_getr (C := RX6) (T := TX6) hx hb hts hown hK hW (xF_mi5).1 (xF_mi5).2 inlX6 rfl (by decide) 4 (by decide) (show xro (xkey 11 5 0) 4 = some (xkey 11 1 0) from by decide +kernel) xw_24 rfl dX6_set_1 ?_
  refine lv_aload_n hx hb dX6_set_4 rfl (lv_at hl 0 rfl) ?_
  refine r_getr (C := RX6) (T := TX6) hx hb hts hown hK hW (xF_mi5).1 (xF_mi5).2 inlX6 rfl (by decide) 0 (by decide) (show xro (xkey 11 5 0) 0 = some (xkey 0 0 0) from by decide +kernel) xw_16 rfl dX6_set_5 ?_
  refine x_callV hx hb hml hown hts hK hW hl.1 (c_X0_draft l X   (hS := hS) (hH := hH) (ho0 := rfl)) (xF_mi1).1 (xF_mi1).2.1 (by decide) rfl xw_94 xw_95 xw_96 xw_23 xw_97 hdV_yX0_draft ⟨Nat.le_of_ble_eq_true rfl, Nat.le_of_ble_eq_true rfl⟩ rfl (Nat.le_of_ble_eq_true rfl) ⟨Nat.le_refl _, Nat.le_refl _⟩ dX6_set_8 (fun H locs hW => ?_)
  have hk_1 : Sok (s_become (S 0) (S (2 + (hs 1).toNatClampNeg))) := Sok_become (hS 0 (by decide)) (hS _ (by have := hH.2.1; omega))
  have hW : XG X (xGl (va_up S (2 + (hs 1).toNatClampNeg) (s_become (S 0) (S (2 + (hs 1).toNatClampNeg)))) (xMi sv hs pf sn nb) ρ) H locs := hW
  refine lv_aload_n hx hb dX6_set_11 rfl (lv_at hl 0 rfl) ?_
  refine r_getr (C := RX6) (T := TX6) hx hb hts hown hK hW (xF_mi5).1 (xF_mi5).2 inlX6 rfl (by decide) 4 (by decide) (show xro (xkey 11 5 0) 4 = some (xkey 11 1 0) from by decide +kernel) xw_24 rfl dX6_set_12 ?_
  refine lv_aload_n hx hb dX6_set_15 rfl (lv_at hl 0 rfl) ?_
  refine r_getr (C := RX6) (T := TX6) hx hb hts hown hK hW (xF_mi5).1 (xF_mi5).2 inlX6 rfl (by decide) 0 (by decide) (show xro (xkey 11 5 0) 0 = some (xkey 0 0 0) from by decide +kernel) xw_16 rfl dX6_set_16 ?_
  refine lv_iload_n hx hb dX6_set_19 rfl (lv_at hl 1 rfl) ?_
  refine lv_iload_n hx hb dX6_set_20 rfl (lv_at hl 2 rfl) ?_
  have hW : XR X (xGl (va_up S (2 + (hs 1).toNatClampNeg) (s_become (S 0) (S (2 + (hs 1).toNatClampNeg)))) (xMi sv hs pf sn nb) ρ) 0 (xSt ((S 0) 0 0) ((S 0) 1 0) ((S 0) 2) ((S 0) 3) ((S 0) 4) ((S 0) 5) ((S 0) 6)) _ _ := XG.inS hW 0 (S 0) (by decide) ((va_up_ne _ _ (show (0 : Nat) ≠ 2 + (hs 1).toNatClampNeg by omega)).trans rfl)
  refine x_callV hx hb hml hown hts hK hW hl.1 (c_X4_changeSetting l X _ (r := 0) (x := x) (v := v) (hr := (by decide)) (ho0 := rfl) (hres := rfl)) (xF_street 0 (by omega)).1 (xF_street 0 (by omega)).2.1 (by decide) rfl xw_140 xw_141 xw_142 xw_15 xw_143 hdV_yX4_changeSetting ⟨Nat.le_of_ble_eq_true rfl, Nat.le_of_ble_eq_true rfl⟩ rfl (Nat.le_of_ble_eq_true rfl) ⟨Nat.le_refl _, Nat.le_refl _⟩ dX6_set_21 (fun H locs hW => ?_)
  have hW : XR X (xGl (va_up S (2 + (hs 1).toNatClampNeg) (s_become (S 0) (S (2 + (hs 1).toNatClampNeg)))) (xMi sv hs pf sn nb) ρ) 0 (s_changeSetting x v (S 0)) H locs := hW
  have hW : XG X (xGl (va_up (va_up S (2 + (hs 1).toNatClampNeg) (s_become (S 0) (S (2 + (hs 1).toNatClampNeg)))) 0 (s_changeSetting x v (S 0))) (xMi sv hs pf sn nb) ρ) H locs := by have h := XG.outS (by decide) hW; exact h
  have hk_2 : Sok (s_changeSetting x v (S 0)) := (Sok_changeSetting (hS 0 (by decide)))
  refine lv_eqi (y := (r_changeSetting x v (S 0))) rfl ?_
  have hW := XG.in11 hW
  refine x_callV hx hb hml hown hts hK hW hl.1 (c_X0_keepUnlessError l X _ (a := (r_changeSetting x v (S 0)))  (ho0 := rfl) (hres := rfl)) (xF_mi1).1 (xF_mi1).2.1 (by decide) rfl xw_146 xw_147 xw_148 xw_23 xw_149 hdV_yX0_keepUnlessError ⟨Nat.le_of_ble_eq_true rfl, Nat.le_of_ble_eq_true rfl⟩ rfl (Nat.le_of_ble_eq_true rfl) ⟨Nat.le_refl _, Nat.le_refl _⟩ dX6_set_24 (fun H locs hW => ?_)
  have hW : XG X (xGl (va_up (va_up S (2 + (hs 1).toNatClampNeg) (s_become (S 0) (S (2 + (hs 1).toNatClampNeg)))) 0 (s_changeSetting x v (S 0))) (xMi sv (Fkeep (r_changeSetting x v (S 0)) hs) pf sn nb) ρ) H locs := XG.out11 hW
  obtain rfl : (va_up (va_up S (2 + (hs 1).toNatClampNeg) (s_become (S 0) (S (2 + (hs 1).toNatClampNeg)))) 0 (s_changeSetting x v (S 0))) = S' := by (rw [← ho0]) <;> (rfl)
  obtain rfl : (Fkeep (r_changeSetting x v (S 0)) hs) = hs' := by (rw [← ho1]) <;> (rfl)
  obtain rfl : (r_changeSetting x v (S 0)) = res := by (rw [← hres]) <;> (rfl)
  rw [hQ0]
  exact x_iret hx hb hret hlocks rfl hW rfl dX6_set_27
set_option maxHeartbeats 4000000 in
set_option maxRecDepth 100000 in
theorem c_X6_lamp (l : Launch) (X : xX) {S : Nat → xS} {sv hs pf sn nb : Nat → Int32} {ρ : xS} {x y : Int32} (hS : ∀ r, r < 11 → Sok (S r)) (hH : Hok hs) {S' : Nat → xS} (ho0 : (va_up (Sdraft S hs) 0 (s_addLamp x y (S 0))) = S') {hs' : Nat → Int32} (ho1 : (Fkeep (r_addLamp x y (S 0)) hs) = hs') {res : Int32} (hres : (r_addLamp x y (S 0)) = res) : XC l yX6_lamp cX6_lamp 3 (some .int) 4 104 0 0 X xsh [.ref (xB X + xkey 11 5 0), .int x, .int y] 603 603 (xval (xB X) (xGl S (xMi sv hs pf sn nb) ρ)) (xval (xB X) (xGl S' (xMi sv hs' pf sn nb) ρ)) (some (.int res)) := by
  refine XC.of RX6 "lamp" [(0, .ref (xB X + xkey 11 5 0)), (1, .int x), (2, .int y)] (by decide) rfl rfl (Nat.le_of_ble_eq_true rfl) rfl ?_
  intro p e s m args below meth c ls hx hb hret hml hts hown hlocks hnm hK hW hl
  have hW : XG X (xGl S (xMi sv hs pf sn nb) ρ) s.heap [] := hW
  obtain ⟨Q0, hQ0⟩ : ∃ z, z = MQ below (xQ X xsh 603 (xval (xB X) (xGl S' (xMi sv hs' pf sn nb) ρ)) (some (.int res))) args s 0 0 (fun q => xB X ≤ q) := ⟨_, rfl⟩
  rw [← hQ0]
  have hd6 := hH.2.1
  refine lv_aload_n hx hb dX6_lamp_0 rfl (lv_at hl 0 rfl) ?_
  refine r_getr (C := RX6) (T := TX6) hx hb hts hown hK hW (xF_mi5).1 (xF_mi5).2 inlX6 rfl (by decide) 4 (by decide) (show xro (xkey 11 5 0) 4 = some (xkey 11 1 0) from by decide +kernel) xw_24 rfl dX6_lamp_1 ?_
  refine lv_aload_n hx hb dX6_lamp_4 rfl (lv_at hl 0 rfl) ?_
  refine r_getr (C := RX6) (T := TX6) hx hb hts hown hK hW (xF_mi5).1 (xF_mi5).2 inlX6 rfl (by decide) 0 (by decide) (show xro (xkey 11 5 0) 0 = some (xkey 0 0 0) from by decide +kernel) xw_16 rfl dX6_lamp_5 ?_
  refine x_callV hx hb hml hown hts hK hW hl.1 (c_X0_draft l X   (hS := hS) (hH := hH) (ho0 := rfl)) (xF_mi1).1 (xF_mi1).2.1 (by decide) rfl xw_94 xw_95 xw_96 xw_23 xw_97 hdV_yX0_draft ⟨Nat.le_of_ble_eq_true rfl, Nat.le_of_ble_eq_true rfl⟩ rfl (Nat.le_of_ble_eq_true rfl) ⟨Nat.le_refl _, Nat.le_refl _⟩ dX6_lamp_8 (fun H locs hW => ?_)
  have hk_1 : Sok (s_become (S 0) (S (2 + (hs 1).toNatClampNeg))) := Sok_become (hS 0 (by decide)) (hS _ (by have := hH.2.1; omega))
  have hW : XG X (xGl (va_up S (2 + (hs 1).toNatClampNeg) (s_become (S 0) (S (2 + (hs 1).toNatClampNeg)))) (xMi sv hs pf sn nb) ρ) H locs := hW
  refine lv_aload_n hx hb dX6_lamp_11 rfl (lv_at hl 0 rfl) ?_
  refine r_getr (C := RX6) (T := TX6) hx hb hts hown hK hW (xF_mi5).1 (xF_mi5).2 inlX6 rfl (by decide) 4 (by decide) (show xro (xkey 11 5 0) 4 = some (xkey 11 1 0) from by decide +kernel) xw_24 rfl dX6_lamp_12 ?_
  refine lv_aload_n hx hb dX6_lamp_15 rfl (lv_at hl 0 rfl) ?_
  refine r_getr (C := RX6) (T := TX6) hx hb hts hown hK hW (xF_mi5).1 (xF_mi5).2 inlX6 rfl (by decide) 0 (by decide) (show xro (xkey 11 5 0) 0 = some (xkey 0 0 0) from by decide +kernel) xw_16 rfl dX6_lamp_16 ?_
  refine lv_iload_n hx hb dX6_lamp_19 rfl (lv_at hl 1 rfl) ?_
  refine lv_iload_n hx hb dX6_lamp_20 rfl (lv_at hl 2 rfl) ?_
  have hW : XR X (xGl (va_up S (2 + (hs 1).toNatClampNeg) (s_become (S 0) (S (2 + (hs 1).toNatClampNeg)))) (xMi sv hs pf sn nb) ρ) 0 (xSt ((S 0) 0 0) ((S 0) 1 0) ((S 0) 2) ((S 0) 3) ((S 0) 4) ((S 0) 5) ((S 0) 6)) _ _ := XG.inS hW 0 (S 0) (by decide) ((va_up_ne _ _ (show (0 : Nat) ≠ 2 + (hs 1).toNatClampNeg by omega)).trans rfl)
  refine x_callV hx hb hml hown hts hK hW hl.1 (c_X4_addLamp l X _ (r := 0) (n := (cN (S 0))) (x := x) (y := y) (hr := (by decide)) (hn := (hS 0 (by decide)).hn) (hn16 := (hS 0 (by decide)).hn16) (ho0 := rfl) (ho1 := rfl) (hres := rfl)) (xF_street 0 (by omega)).1 (xF_street 0 (by omega)).2.1 (by decide) rfl xw_175 xw_176 xw_177 xw_15 xw_178 hdV_yX4_addLamp ⟨Nat.le_of_ble_eq_true rfl, Nat.le_of_ble_eq_true rfl⟩ rfl (Nat.le_of_ble_eq_true rfl) ⟨Nat.le_refl _, Nat.le_refl _⟩ dX6_lamp_21 (fun H locs hW => ?_)
  have hW : XR X (xGl (va_up S (2 + (hs 1).toNatClampNeg) (s_become (S 0) (S (2 + (hs 1).toNatClampNeg)))) (xMi sv hs pf sn nb) ρ) 0 (s_addLamp x y (S 0)) H locs := hW
  have hW : XG X (xGl (va_up (va_up S (2 + (hs 1).toNatClampNeg) (s_become (S 0) (S (2 + (hs 1).toNatClampNeg)))) 0 (s_addLamp x y (S 0))) (xMi sv hs pf sn nb) ρ) H locs := by have h := XG.outS (by decide) hW; exact h
  have hk_2 : Sok (s_addLamp x y (S 0)) := (Sok_addLamp (hS 0 (by decide)))
  refine lv_eqi (y := (r_addLamp x y (S 0))) rfl ?_
  have hW := XG.in11 hW
  refine x_callV hx hb hml hown hts hK hW hl.1 (c_X0_keepUnlessError l X _ (a := (r_addLamp x y (S 0)))  (ho0 := rfl) (hres := rfl)) (xF_mi1).1 (xF_mi1).2.1 (by decide) rfl xw_146 xw_147 xw_148 xw_23 xw_149 hdV_yX0_keepUnlessError ⟨Nat.le_of_ble_eq_true rfl, Nat.le_of_ble_eq_true rfl⟩ rfl (Nat.le_of_ble_eq_true rfl) ⟨Nat.le_refl _, Nat.le_refl _⟩ dX6_lamp_24 (fun H locs hW => ?_)
  have hW : XG X (xGl (va_up (va_up S (2 + (hs 1).toNatClampNeg) (s_become (S 0) (S (2 + (hs 1).toNatClampNeg)))) 0 (s_addLamp x y (S 0))) (xMi sv (Fkeep (r_addLamp x y (S 0)) hs) pf sn nb) ρ) H locs := XG.out11 hW
  obtain rfl : (va_up (va_up S (2 + (hs 1).toNatClampNeg) (s_become (S 0) (S (2 + (hs 1).toNatClampNeg)))) 0 (s_addLamp x y (S 0))) = S' := by (rw [← ho0]) <;> (rfl)
  obtain rfl : (Fkeep (r_addLamp x y (S 0)) hs) = hs' := by (rw [← ho1]) <;> (rfl)
  obtain rfl : (r_addLamp x y (S 0)) = res := by (rw [← hres]) <;> (rfl)
  rw [hQ0]
  exact x_iret hx hb hret hlocks rfl hW rfl dX6_lamp_27
set_option maxHeartbeats 4000000 in
set_option maxRecDepth 100000 in
theorem c_X6_house (l : Launch) (X : xX) {S : Nat → xS} {sv hs pf sn nb : Nat → Int32} {ρ : xS} {x : Int32} (hS : ∀ r, r < 11 → Sok (S r)) (hH : Hok hs) {S' : Nat → xS} (ho0 : (va_up (Sdraft S hs) 0 (s_addHouse x (S 0))) = S') {hs' : Nat → Int32} (ho1 : (Fkeep (r_addHouse x (S 0)) hs) = hs') {res : Int32} (hres : (r_addHouse x (S 0)) = res) : XC l yX6_house cX6_house 2 (some .int) 4 104 0 0 X xsh [.ref (xB X + xkey 11 5 0), .int x] 603 603 (xval (xB X) (xGl S (xMi sv hs pf sn nb) ρ)) (xval (xB X) (xGl S' (xMi sv hs' pf sn nb) ρ)) (some (.int res)) := by
  refine XC.of RX6 "house" [(0, .ref (xB X + xkey 11 5 0)), (1, .int x)] (by decide) rfl rfl (Nat.le_of_ble_eq_true rfl) rfl ?_
  intro p e s m args below meth c ls hx hb hret hml hts hown hlocks hnm hK hW hl
  have hW : XG X (xGl S (xMi sv hs pf sn nb) ρ) s.heap [] := hW
  obtain ⟨Q0, hQ0⟩ : ∃ z, z = MQ below (xQ X xsh 603 (xval (xB X) (xGl S' (xMi sv hs' pf sn nb) ρ)) (some (.int res))) args s 0 0 (fun q => xB X ≤ q) := ⟨_, rfl⟩
  rw [← hQ0]
  have hd6 := hH.2.1
  refine lv_aload_n hx hb dX6_house_0 rfl (lv_at hl 0 rfl) ?_
  refine r_getr (C := RX6) (T := TX6) hx hb hts hown hK hW (xF_mi5).1 (xF_mi5).2 inlX6 rfl (by decide) 4 (by decide) (show xro (xkey 11 5 0) 4 = some (xkey 11 1 0) from by decide +kernel) xw_24 rfl dX6_house_1 ?_
  refine lv_aload_n hx hb dX6_house_4 rfl (lv_at hl 0 rfl) ?_
  refine r_getr (C := RX6) (T := TX6) hx hb hts hown hK hW (xF_mi5).1 (xF_mi5).2 inlX6 rfl (by decide) 0 (by decide) (show xro (xkey 11 5 0) 0 = some (xkey 0 0 0) from by decide +kernel) xw_16 rfl dX6_house_5 ?_
  refine x_callV hx hb hml hown hts hK hW hl.1 (c_X0_draft l X   (hS := hS) (hH := hH) (ho0 := rfl)) (xF_mi1).1 (xF_mi1).2.1 (by decide) rfl xw_94 xw_95 xw_96 xw_23 xw_97 hdV_yX0_draft ⟨Nat.le_of_ble_eq_true rfl, Nat.le_of_ble_eq_true rfl⟩ rfl (Nat.le_of_ble_eq_true rfl) ⟨Nat.le_refl _, Nat.le_refl _⟩ dX6_house_8 (fun H locs hW => ?_)
  have hk_1 : Sok (s_become (S 0) (S (2 + (hs 1).toNatClampNeg))) := Sok_become (hS 0 (by decide)) (hS _ (by have := hH.2.1; omega))
  have hW : XG X (xGl (va_up S (2 + (hs 1).toNatClampNeg) (s_become (S 0) (S (2 + (hs 1).toNatClampNeg)))) (xMi sv hs pf sn nb) ρ) H locs := hW
  refine lv_aload_n hx hb dX6_house_11 rfl (lv_at hl 0 rfl) ?_
  refine r_getr (C := RX6) (T := TX6) hx hb hts hown hK hW (xF_mi5).1 (xF_mi5).2 inlX6 rfl (by decide) 4 (by decide) (show xro (xkey 11 5 0) 4 = some (xkey 11 1 0) from by decide +kernel) xw_24 rfl dX6_house_12 ?_
  refine lv_aload_n hx hb dX6_house_15 rfl (lv_at hl 0 rfl) ?_
  refine r_getr (C := RX6) (T := TX6) hx hb hts hown hK hW (xF_mi5).1 (xF_mi5).2 inlX6 rfl (by decide) 0 (by decide) (show xro (xkey 11 5 0) 0 = some (xkey 0 0 0) from by decide +kernel) xw_16 rfl dX6_house_16 ?_
  refine lv_iload_n hx hb dX6_house_19 rfl (lv_at hl 1 rfl) ?_
  have hW : XR X (xGl (va_up S (2 + (hs 1).toNatClampNeg) (s_become (S 0) (S (2 + (hs 1).toNatClampNeg)))) (xMi sv hs pf sn nb) ρ) 0 (xSt ((S 0) 0 0) ((S 0) 1 0) ((S 0) 2) ((S 0) 3) ((S 0) 4) ((S 0) 5) ((S 0) 6)) _ _ := XG.inS hW 0 (S 0) (by decide) ((va_up_ne _ _ (show (0 : Nat) ≠ 2 + (hs 1).toNatClampNeg by omega)).trans rfl)
  refine x_callV hx hb hml hown hts hK hW hl.1 (c_X4_addHouse l X _ (r := 0) (nh := (cH (S 0))) (x := x) (hr := (by decide)) (hh := (hS 0 (by decide)).hh) (hh8 := (hS 0 (by decide)).hh8) (ho0 := rfl) (ho1 := rfl) (hres := rfl)) (xF_street 0 (by omega)).1 (xF_street 0 (by omega)).2.1 (by decide) rfl xw_210 xw_211 xw_212 xw_15 xw_213 hdV_yX4_addHouse ⟨Nat.le_of_ble_eq_true rfl, Nat.le_of_ble_eq_true rfl⟩ rfl (Nat.le_of_ble_eq_true rfl) ⟨Nat.le_refl _, Nat.le_refl _⟩ dX6_house_20 (fun H locs hW => ?_)
  have hW : XR X (xGl (va_up S (2 + (hs 1).toNatClampNeg) (s_become (S 0) (S (2 + (hs 1).toNatClampNeg)))) (xMi sv hs pf sn nb) ρ) 0 (s_addHouse x (S 0)) H locs := hW
  have hW : XG X (xGl (va_up (va_up S (2 + (hs 1).toNatClampNeg) (s_become (S 0) (S (2 + (hs 1).toNatClampNeg)))) 0 (s_addHouse x (S 0))) (xMi sv hs pf sn nb) ρ) H locs := by have h := XG.outS (by decide) hW; exact h
  have hk_2 : Sok (s_addHouse x (S 0)) := (Sok_addHouse (hS 0 (by decide)))
  refine lv_eqi (y := (r_addHouse x (S 0))) rfl ?_
  have hW := XG.in11 hW
  refine x_callV hx hb hml hown hts hK hW hl.1 (c_X0_keepUnlessError l X _ (a := (r_addHouse x (S 0)))  (ho0 := rfl) (hres := rfl)) (xF_mi1).1 (xF_mi1).2.1 (by decide) rfl xw_146 xw_147 xw_148 xw_23 xw_149 hdV_yX0_keepUnlessError ⟨Nat.le_of_ble_eq_true rfl, Nat.le_of_ble_eq_true rfl⟩ rfl (Nat.le_of_ble_eq_true rfl) ⟨Nat.le_refl _, Nat.le_refl _⟩ dX6_house_23 (fun H locs hW => ?_)
  have hW : XG X (xGl (va_up (va_up S (2 + (hs 1).toNatClampNeg) (s_become (S 0) (S (2 + (hs 1).toNatClampNeg)))) 0 (s_addHouse x (S 0))) (xMi sv (Fkeep (r_addHouse x (S 0)) hs) pf sn nb) ρ) H locs := XG.out11 hW
  obtain rfl : (va_up (va_up S (2 + (hs 1).toNatClampNeg) (s_become (S 0) (S (2 + (hs 1).toNatClampNeg)))) 0 (s_addHouse x (S 0))) = S' := by (rw [← ho0]) <;> (rfl)
  obtain rfl : (Fkeep (r_addHouse x (S 0)) hs) = hs' := by (rw [← ho1]) <;> (rfl)
  obtain rfl : (r_addHouse x (S 0)) = res := by (rw [← hres]) <;> (rfl)
  rw [hQ0]
  exact x_iret hx hb hret hlocks rfl hW rfl dX6_house_26
set_option maxHeartbeats 4000000 in
set_option maxRecDepth 100000 in
theorem c_X6_walker (l : Launch) (X : xX) {S : Nat → xS} {sv hs pf sn nb : Nat → Int32} {ρ : xS} {x y : Int32} (hS : ∀ r, r < 11 → Sok (S r)) (hH : Hok hs) {S' : Nat → xS} (ho0 : (va_up (Sdraft S hs) 0 (s_addWalker x y (S 0))) = S') {hs' : Nat → Int32} (ho1 : (Fkeep (r_addWalker x y (S 0)) hs) = hs') {res : Int32} (hres : (r_addWalker x y (S 0)) = res) : XC l yX6_walker cX6_walker 3 (some .int) 4 104 0 0 X xsh [.ref (xB X + xkey 11 5 0), .int x, .int y] 603 603 (xval (xB X) (xGl S (xMi sv hs pf sn nb) ρ)) (xval (xB X) (xGl S' (xMi sv hs' pf sn nb) ρ)) (some (.int res)) := by
  refine XC.of RX6 "walker" [(0, .ref (xB X + xkey 11 5 0)), (1, .int x), (2, .int y)] (by decide) rfl rfl (Nat.le_of_ble_eq_true rfl) rfl ?_
  intro p e s m args below meth c ls hx hb hret hml hts hown hlocks hnm hK hW hl
  have hW : XG X (xGl S (xMi sv hs pf sn nb) ρ) s.heap [] := hW
  obtain ⟨Q0, hQ0⟩ : ∃ z, z = MQ below (xQ X xsh 603 (xval (xB X) (xGl S' (xMi sv hs' pf sn nb) ρ)) (some (.int res))) args s 0 0 (fun q => xB X ≤ q) := ⟨_, rfl⟩
  rw [← hQ0]
  have hd6 := hH.2.1
  refine lv_aload_n hx hb dX6_walker_0 rfl (lv_at hl 0 rfl) ?_
  refine r_getr (C := RX6) (T := TX6) hx hb hts hown hK hW (xF_mi5).1 (xF_mi5).2 inlX6 rfl (by decide) 4 (by decide) (show xro (xkey 11 5 0) 4 = some (xkey 11 1 0) from by decide +kernel) xw_24 rfl dX6_walker_1 ?_
  refine lv_aload_n hx hb dX6_walker_4 rfl (lv_at hl 0 rfl) ?_
  refine r_getr (C := RX6) (T := TX6) hx hb hts hown hK hW (xF_mi5).1 (xF_mi5).2 inlX6 rfl (by decide) 0 (by decide) (show xro (xkey 11 5 0) 0 = some (xkey 0 0 0) from by decide +kernel) xw_16 rfl dX6_walker_5 ?_
  refine x_callV hx hb hml hown hts hK hW hl.1 (c_X0_draft l X   (hS := hS) (hH := hH) (ho0 := rfl)) (xF_mi1).1 (xF_mi1).2.1 (by decide) rfl xw_94 xw_95 xw_96 xw_23 xw_97 hdV_yX0_draft ⟨Nat.le_of_ble_eq_true rfl, Nat.le_of_ble_eq_true rfl⟩ rfl (Nat.le_of_ble_eq_true rfl) ⟨Nat.le_refl _, Nat.le_refl _⟩ dX6_walker_8 (fun H locs hW => ?_)
  have hk_1 : Sok (s_become (S 0) (S (2 + (hs 1).toNatClampNeg))) := Sok_become (hS 0 (by decide)) (hS _ (by have := hH.2.1; omega))
  have hW : XG X (xGl (va_up S (2 + (hs 1).toNatClampNeg) (s_become (S 0) (S (2 + (hs 1).toNatClampNeg)))) (xMi sv hs pf sn nb) ρ) H locs := hW
  refine lv_aload_n hx hb dX6_walker_11 rfl (lv_at hl 0 rfl) ?_
  refine r_getr (C := RX6) (T := TX6) hx hb hts hown hK hW (xF_mi5).1 (xF_mi5).2 inlX6 rfl (by decide) 4 (by decide) (show xro (xkey 11 5 0) 4 = some (xkey 11 1 0) from by decide +kernel) xw_24 rfl dX6_walker_12 ?_
  refine lv_aload_n hx hb dX6_walker_15 rfl (lv_at hl 0 rfl) ?_
  refine r_getr (C := RX6) (T := TX6) hx hb hts hown hK hW (xF_mi5).1 (xF_mi5).2 inlX6 rfl (by decide) 0 (by decide) (show xro (xkey 11 5 0) 0 = some (xkey 0 0 0) from by decide +kernel) xw_16 rfl dX6_walker_16 ?_
  refine lv_iload_n hx hb dX6_walker_19 rfl (lv_at hl 1 rfl) ?_
  refine lv_iload_n hx hb dX6_walker_20 rfl (lv_at hl 2 rfl) ?_
  have hW : XR X (xGl (va_up S (2 + (hs 1).toNatClampNeg) (s_become (S 0) (S (2 + (hs 1).toNatClampNeg)))) (xMi sv hs pf sn nb) ρ) 0 (xSt ((S 0) 0 0) ((S 0) 1 0) ((S 0) 2) ((S 0) 3) ((S 0) 4) ((S 0) 5) ((S 0) 6)) _ _ := XG.inS hW 0 (S 0) (by decide) ((va_up_ne _ _ (show (0 : Nat) ≠ 2 + (hs 1).toNatClampNeg by omega)).trans rfl)
  refine x_callV hx hb hml hown hts hK hW hl.1 (c_X4_addWalker l X _ (r := 0) (nw := (cW (S 0))) (x := x) (y := y) (hr := (by decide)) (hw := (hS 0 (by decide)).hw) (hw8 := (hS 0 (by decide)).hw8) (ho0 := rfl) (ho1 := rfl) (hres := rfl)) (xF_street 0 (by omega)).1 (xF_street 0 (by omega)).2.1 (by decide) rfl xw_226 xw_227 xw_228 xw_15 xw_229 hdV_yX4_addWalker ⟨Nat.le_of_ble_eq_true rfl, Nat.le_of_ble_eq_true rfl⟩ rfl (Nat.le_of_ble_eq_true rfl) ⟨Nat.le_refl _, Nat.le_refl _⟩ dX6_walker_21 (fun H locs hW => ?_)
  have hW : XR X (xGl (va_up S (2 + (hs 1).toNatClampNeg) (s_become (S 0) (S (2 + (hs 1).toNatClampNeg)))) (xMi sv hs pf sn nb) ρ) 0 (s_addWalker x y (S 0)) H locs := hW
  have hW : XG X (xGl (va_up (va_up S (2 + (hs 1).toNatClampNeg) (s_become (S 0) (S (2 + (hs 1).toNatClampNeg)))) 0 (s_addWalker x y (S 0))) (xMi sv hs pf sn nb) ρ) H locs := by have h := XG.outS (by decide) hW; exact h
  have hk_2 : Sok (s_addWalker x y (S 0)) := (Sok_addWalker (hS 0 (by decide)))
  refine lv_eqi (y := (r_addWalker x y (S 0))) rfl ?_
  have hW := XG.in11 hW
  refine x_callV hx hb hml hown hts hK hW hl.1 (c_X0_keepUnlessError l X _ (a := (r_addWalker x y (S 0)))  (ho0 := rfl) (hres := rfl)) (xF_mi1).1 (xF_mi1).2.1 (by decide) rfl xw_146 xw_147 xw_148 xw_23 xw_149 hdV_yX0_keepUnlessError ⟨Nat.le_of_ble_eq_true rfl, Nat.le_of_ble_eq_true rfl⟩ rfl (Nat.le_of_ble_eq_true rfl) ⟨Nat.le_refl _, Nat.le_refl _⟩ dX6_walker_24 (fun H locs hW => ?_)
  have hW : XG X (xGl (va_up (va_up S (2 + (hs 1).toNatClampNeg) (s_become (S 0) (S (2 + (hs 1).toNatClampNeg)))) 0 (s_addWalker x y (S 0))) (xMi sv (Fkeep (r_addWalker x y (S 0)) hs) pf sn nb) ρ) H locs := XG.out11 hW
  obtain rfl : (va_up (va_up S (2 + (hs 1).toNatClampNeg) (s_become (S 0) (S (2 + (hs 1).toNatClampNeg)))) 0 (s_addWalker x y (S 0))) = S' := by (rw [← ho0]) <;> (rfl)
  obtain rfl : (Fkeep (r_addWalker x y (S 0)) hs) = hs' := by (rw [← ho1]) <;> (rfl)
  obtain rfl : (r_addWalker x y (S 0)) = res := by (rw [← hres]) <;> (rfl)
  rw [hQ0]
  exact x_iret hx hb hret hlocks rfl hW rfl dX6_walker_27
set_option maxHeartbeats 4000000 in
set_option maxRecDepth 100000 in
theorem c_X6_goal (l : Launch) (X : xX) {S : Nat → xS} {sv hs pf sn nb : Nat → Int32} {ρ : xS} {x a b : Int32} (hS : ∀ r, r < 11 → Sok (S r)) (hH : Hok hs) {S' : Nat → xS} (ho0 : (va_up (Sdraft S hs) 0 (s_giveGoal x a b (S 0))) = S') {hs' : Nat → Int32} (ho1 : (Fkeep (r_giveGoal x a b (S 0)) hs) = hs') {res : Int32} (hres : (r_giveGoal x a b (S 0)) = res) : XC l yX6_goal cX6_goal 4 (some .int) 4 104 0 0 X xsh [.ref (xB X + xkey 11 5 0), .int x, .int a, .int b] 603 603 (xval (xB X) (xGl S (xMi sv hs pf sn nb) ρ)) (xval (xB X) (xGl S' (xMi sv hs' pf sn nb) ρ)) (some (.int res)) := by
  refine XC.of RX6 "goal" [(0, .ref (xB X + xkey 11 5 0)), (1, .int x), (2, .int a), (3, .int b)] (by decide) rfl rfl (Nat.le_of_ble_eq_true rfl) rfl ?_
  intro p e s m args below meth c ls hx hb hret hml hts hown hlocks hnm hK hW hl
  have hW : XG X (xGl S (xMi sv hs pf sn nb) ρ) s.heap [] := hW
  obtain ⟨Q0, hQ0⟩ : ∃ z, z = MQ below (xQ X xsh 603 (xval (xB X) (xGl S' (xMi sv hs' pf sn nb) ρ)) (some (.int res))) args s 0 0 (fun q => xB X ≤ q) := ⟨_, rfl⟩
  rw [← hQ0]
  have hd6 := hH.2.1
  refine lv_aload_n hx hb dX6_goal_0 rfl (lv_at hl 0 rfl) ?_
  refine r_getr (C := RX6) (T := TX6) hx hb hts hown hK hW (xF_mi5).1 (xF_mi5).2 inlX6 rfl (by decide) 4 (by decide) (show xro (xkey 11 5 0) 4 = some (xkey 11 1 0) from by decide +kernel) xw_24 rfl dX6_goal_1 ?_
  refine lv_aload_n hx hb dX6_goal_4 rfl (lv_at hl 0 rfl) ?_
  refine r_getr (C := RX6) (T := TX6) hx hb hts hown hK hW (xF_mi5).1 (xF_mi5).2 inlX6 rfl (by decide) 0 (by decide) (show xro (xkey 11 5 0) 0 = some (xkey 0 0 0) from by decide +kernel) xw_16 rfl dX6_goal_5 ?_
  refine x_callV hx hb hml hown hts hK hW hl.1 (c_X0_draft l X   (hS := hS) (hH := hH) (ho0 := rfl)) (xF_mi1).1 (xF_mi1).2.1 (by decide) rfl xw_94 xw_95 xw_96 xw_23 xw_97 hdV_yX0_draft ⟨Nat.le_of_ble_eq_true rfl, Nat.le_of_ble_eq_true rfl⟩ rfl (Nat.le_of_ble_eq_true rfl) ⟨Nat.le_refl _, Nat.le_refl _⟩ dX6_goal_8 (fun H locs hW => ?_)
  have hk_1 : Sok (s_become (S 0) (S (2 + (hs 1).toNatClampNeg))) := Sok_become (hS 0 (by decide)) (hS _ (by have := hH.2.1; omega))
  have hW : XG X (xGl (va_up S (2 + (hs 1).toNatClampNeg) (s_become (S 0) (S (2 + (hs 1).toNatClampNeg)))) (xMi sv hs pf sn nb) ρ) H locs := hW
  refine lv_aload_n hx hb dX6_goal_11 rfl (lv_at hl 0 rfl) ?_
  refine r_getr (C := RX6) (T := TX6) hx hb hts hown hK hW (xF_mi5).1 (xF_mi5).2 inlX6 rfl (by decide) 4 (by decide) (show xro (xkey 11 5 0) 4 = some (xkey 11 1 0) from by decide +kernel) xw_24 rfl dX6_goal_12 ?_
  refine lv_aload_n hx hb dX6_goal_15 rfl (lv_at hl 0 rfl) ?_
  refine r_getr (C := RX6) (T := TX6) hx hb hts hown hK hW (xF_mi5).1 (xF_mi5).2 inlX6 rfl (by decide) 0 (by decide) (show xro (xkey 11 5 0) 0 = some (xkey 0 0 0) from by decide +kernel) xw_16 rfl dX6_goal_16 ?_
  refine lv_iload_n hx hb dX6_goal_19 rfl (lv_at hl 1 rfl) ?_
  refine lv_iload_n hx hb dX6_goal_20 rfl (lv_at hl 2 rfl) ?_
  refine lv_iload_n hx hb dX6_goal_21 rfl (lv_at hl 3 rfl) ?_
  have hW : XR X (xGl (va_up S (2 + (hs 1).toNatClampNeg) (s_become (S 0) (S (2 + (hs 1).toNatClampNeg)))) (xMi sv hs pf sn nb) ρ) 0 (xSt ((S 0) 0 0) ((S 0) 1 0) ((S 0) 2) ((S 0) 3) ((S 0) 4) ((S 0) 5) ((S 0) 6)) _ _ := XG.inS hW 0 (S 0) (by decide) ((va_up_ne _ _ (show (0 : Nat) ≠ 2 + (hs 1).toNatClampNeg by omega)).trans rfl)
  refine x_callV hx hb hml hown hts hK hW hl.1 (c_X4_giveGoal l X _ (r := 0) (nw := (cW (S 0))) (x := x) (a := a) (b := b) (gq := (fun j => ((S 0) 4 j 2).toNatClampNeg)) (hr := (by decide)) (hw := (hS 0 (by decide)).hw) (hw8 := (hS 0 (by decide)).hw8) (hgq := (hS 0 (by decide)).hgq) (ho0 := rfl) (ho1 := rfl) (ho2 := rfl) (hres := rfl)) (xF_street 0 (by omega)).1 (xF_street 0 (by omega)).2.1 (by decide) rfl xw_254 xw_255 xw_256 xw_15 xw_257 hdV_yX4_giveGoal ⟨Nat.le_of_ble_eq_true rfl, Nat.le_of_ble_eq_true rfl⟩ rfl (Nat.le_of_ble_eq_true rfl) ⟨Nat.le_refl _, Nat.le_refl _⟩ dX6_goal_22 (fun H locs hW => ?_)
  have hW : XR X (xGl (va_up S (2 + (hs 1).toNatClampNeg) (s_become (S 0) (S (2 + (hs 1).toNatClampNeg)))) (xMi sv hs pf sn nb) ρ) 0 (s_giveGoal x a b (S 0)) H locs := hW
  have hW : XG X (xGl (va_up (va_up S (2 + (hs 1).toNatClampNeg) (s_become (S 0) (S (2 + (hs 1).toNatClampNeg)))) 0 (s_giveGoal x a b (S 0))) (xMi sv hs pf sn nb) ρ) H locs := by have h := XG.outS (by decide) hW; exact h
  have hk_2 : Sok (s_giveGoal x a b (S 0)) := (Sok_giveGoal (hS 0 (by decide)))
  refine lv_eqi (y := (r_giveGoal x a b (S 0))) rfl ?_
  have hW := XG.in11 hW
  refine x_callV hx hb hml hown hts hK hW hl.1 (c_X0_keepUnlessError l X _ (a := (r_giveGoal x a b (S 0)))  (ho0 := rfl) (hres := rfl)) (xF_mi1).1 (xF_mi1).2.1 (by decide) rfl xw_146 xw_147 xw_148 xw_23 xw_149 hdV_yX0_keepUnlessError ⟨Nat.le_of_ble_eq_true rfl, Nat.le_of_ble_eq_true rfl⟩ rfl (Nat.le_of_ble_eq_true rfl) ⟨Nat.le_refl _, Nat.le_refl _⟩ dX6_goal_25 (fun H locs hW => ?_)
  have hW : XG X (xGl (va_up (va_up S (2 + (hs 1).toNatClampNeg) (s_become (S 0) (S (2 + (hs 1).toNatClampNeg)))) 0 (s_giveGoal x a b (S 0))) (xMi sv (Fkeep (r_giveGoal x a b (S 0)) hs) pf sn nb) ρ) H locs := XG.out11 hW
  obtain rfl : (va_up (va_up S (2 + (hs 1).toNatClampNeg) (s_become (S 0) (S (2 + (hs 1).toNatClampNeg)))) 0 (s_giveGoal x a b (S 0))) = S' := by (rw [← ho0]) <;> (rfl)
  obtain rfl : (Fkeep (r_giveGoal x a b (S 0)) hs) = hs' := by (rw [← ho1]) <;> (rfl)
  obtain rfl : (r_giveGoal x a b (S 0)) = res := by (rw [← hres]) <;> (rfl)
  rw [hQ0]
  exact x_iret hx hb hret hlocks rfl hW rfl dX6_goal_28
set_option maxHeartbeats 4000000 in
set_option maxRecDepth 100000 in
theorem c_X6_mend (l : Launch) (X : xX) {S : Nat → xS} {sv hs pf sn nb : Nat → Int32} {ρ : xS} {x h : Int32} (hS : ∀ r, r < 11 → Sok (S r)) (hH : Hok hs) {S' : Nat → xS} (ho0 : (va_up (Sdraft S hs) 0 (s_mendLamp x h (S 0))) = S') {hs' : Nat → Int32} (ho1 : (Fkeep (r_mendLamp x h (S 0)) hs) = hs') {res : Int32} (hres : (r_mendLamp x h (S 0)) = res) : XC l yX6_mend cX6_mend 3 (some .int) 4 104 0 0 X xsh [.ref (xB X + xkey 11 5 0), .int x, .int h] 603 603 (xval (xB X) (xGl S (xMi sv hs pf sn nb) ρ)) (xval (xB X) (xGl S' (xMi sv hs' pf sn nb) ρ)) (some (.int res)) := by
  refine XC.of RX6 "mend" [(0, .ref (xB X + xkey 11 5 0)), (1, .int x), (2, .int h)] (by decide) rfl rfl (Nat.le_of_ble_eq_true rfl) rfl ?_
  intro p e s m args below meth c ls hx hb hret hml hts hown hlocks hnm hK hW hl
  have hW : XG X (xGl S (xMi sv hs pf sn nb) ρ) s.heap [] := hW
  obtain ⟨Q0, hQ0⟩ : ∃ z, z = MQ below (xQ X xsh 603 (xval (xB X) (xGl S' (xMi sv hs' pf sn nb) ρ)) (some (.int res))) args s 0 0 (fun q => xB X ≤ q) := ⟨_, rfl⟩
  rw [← hQ0]
  have hd6 := hH.2.1
  refine lv_aload_n hx hb dX6_mend_0 rfl (lv_at hl 0 rfl) ?_
  refine r_getr (C := RX6) (T := TX6) hx hb hts hown hK hW (xF_mi5).1 (xF_mi5).2 inlX6 rfl (by decide) 4 (by decide) (show xro (xkey 11 5 0) 4 = some (xkey 11 1 0) from by decide +kernel) xw_24 rfl dX6_mend_1 ?_
  refine lv_aload_n hx hb dX6_mend_4 rfl (lv_at hl 0 rfl) ?_
  refine r_getr (C := RX6) (T := TX6) hx hb hts hown hK hW (xF_mi5).1 (xF_mi5).2 inlX6 rfl (by decide) 0 (by decide) (show xro (xkey 11 5 0) 0 = some (xkey 0 0 0) from by decide +kernel) xw_16 rfl dX6_mend_5 ?_
  refine x_callV hx hb hml hown hts hK hW hl.1 (c_X0_draft l X   (hS := hS) (hH := hH) (ho0 := rfl)) (xF_mi1).1 (xF_mi1).2.1 (by decide) rfl xw_94 xw_95 xw_96 xw_23 xw_97 hdV_yX0_draft ⟨Nat.le_of_ble_eq_true rfl, Nat.le_of_ble_eq_true rfl⟩ rfl (Nat.le_of_ble_eq_true rfl) ⟨Nat.le_refl _, Nat.le_refl _⟩ dX6_mend_8 (fun H locs hW => ?_)
  have hk_1 : Sok (s_become (S 0) (S (2 + (hs 1).toNatClampNeg))) := Sok_become (hS 0 (by decide)) (hS _ (by have := hH.2.1; omega))
  have hW : XG X (xGl (va_up S (2 + (hs 1).toNatClampNeg) (s_become (S 0) (S (2 + (hs 1).toNatClampNeg)))) (xMi sv hs pf sn nb) ρ) H locs := hW
  refine lv_aload_n hx hb dX6_mend_11 rfl (lv_at hl 0 rfl) ?_
  refine r_getr (C := RX6) (T := TX6) hx hb hts hown hK hW (xF_mi5).1 (xF_mi5).2 inlX6 rfl (by decide) 4 (by decide) (show xro (xkey 11 5 0) 4 = some (xkey 11 1 0) from by decide +kernel) xw_24 rfl dX6_mend_12 ?_
  refine lv_aload_n hx hb dX6_mend_15 rfl (lv_at hl 0 rfl) ?_
  refine r_getr (C := RX6) (T := TX6) hx hb hts hown hK hW (xF_mi5).1 (xF_mi5).2 inlX6 rfl (by decide) 0 (by decide) (show xro (xkey 11 5 0) 0 = some (xkey 0 0 0) from by decide +kernel) xw_16 rfl dX6_mend_16 ?_
  refine lv_iload_n hx hb dX6_mend_19 rfl (lv_at hl 1 rfl) ?_
  refine lv_iload_n hx hb dX6_mend_20 rfl (lv_at hl 2 rfl) ?_
  have hW : XR X (xGl (va_up S (2 + (hs 1).toNatClampNeg) (s_become (S 0) (S (2 + (hs 1).toNatClampNeg)))) (xMi sv hs pf sn nb) ρ) 0 (xSt ((S 0) 0 0) ((S 0) 1 0) ((S 0) 2) ((S 0) 3) ((S 0) 4) ((S 0) 5) ((S 0) 6)) _ _ := XG.inS hW 0 (S 0) (by decide) ((va_up_ne _ _ (show (0 : Nat) ≠ 2 + (hs 1).toNatClampNeg by omega)).trans rfl)
  refine x_callV hx hb hml hown hts hK hW hl.1 (c_X4_mendLamp l X _ (r := 0) (n := (cN (S 0))) (x := x) (h := h) (hr := (by decide)) (hn := (hS 0 (by decide)).hn) (hn16 := (hS 0 (by decide)).hn16) (ho0 := rfl) (hres := rfl)) (xF_street 0 (by omega)).1 (xF_street 0 (by omega)).2.1 (by decide) rfl xw_290 xw_291 xw_292 xw_15 xw_293 hdV_yX4_mendLamp ⟨Nat.le_of_ble_eq_true rfl, Nat.le_of_ble_eq_true rfl⟩ rfl (Nat.le_of_ble_eq_true rfl) ⟨Nat.le_refl _, Nat.le_refl _⟩ dX6_mend_21 (fun H locs hW => ?_)
  have hW : XR X (xGl (va_up S (2 + (hs 1).toNatClampNeg) (s_become (S 0) (S (2 + (hs 1).toNatClampNeg)))) (xMi sv hs pf sn nb) ρ) 0 (s_mendLamp x h (S 0)) H locs := hW
  have hW : XG X (xGl (va_up (va_up S (2 + (hs 1).toNatClampNeg) (s_become (S 0) (S (2 + (hs 1).toNatClampNeg)))) 0 (s_mendLamp x h (S 0))) (xMi sv hs pf sn nb) ρ) H locs := by have h := XG.outS (by decide) hW; exact h
  have hk_2 : Sok (s_mendLamp x h (S 0)) := (Sok_mendLamp (hS 0 (by decide)))
  refine lv_eqi (y := (r_mendLamp x h (S 0))) rfl ?_
  have hW := XG.in11 hW
  refine x_callV hx hb hml hown hts hK hW hl.1 (c_X0_keepUnlessError l X _ (a := (r_mendLamp x h (S 0)))  (ho0 := rfl) (hres := rfl)) (xF_mi1).1 (xF_mi1).2.1 (by decide) rfl xw_146 xw_147 xw_148 xw_23 xw_149 hdV_yX0_keepUnlessError ⟨Nat.le_of_ble_eq_true rfl, Nat.le_of_ble_eq_true rfl⟩ rfl (Nat.le_of_ble_eq_true rfl) ⟨Nat.le_refl _, Nat.le_refl _⟩ dX6_mend_24 (fun H locs hW => ?_)
  have hW : XG X (xGl (va_up (va_up S (2 + (hs 1).toNatClampNeg) (s_become (S 0) (S (2 + (hs 1).toNatClampNeg)))) 0 (s_mendLamp x h (S 0))) (xMi sv (Fkeep (r_mendLamp x h (S 0)) hs) pf sn nb) ρ) H locs := XG.out11 hW
  obtain rfl : (va_up (va_up S (2 + (hs 1).toNatClampNeg) (s_become (S 0) (S (2 + (hs 1).toNatClampNeg)))) 0 (s_mendLamp x h (S 0))) = S' := by (rw [← ho0]) <;> (rfl)
  obtain rfl : (Fkeep (r_mendLamp x h (S 0)) hs) = hs' := by (rw [← ho1]) <;> (rfl)
  obtain rfl : (r_mendLamp x h (S 0)) = res := by (rw [← hres]) <;> (rfl)
  rw [hQ0]
  exact x_iret hx hb hret hlocks rfl hW rfl dX6_mend_27
set_option maxHeartbeats 4000000 in
set_option maxRecDepth 100000 in
theorem c_X6_cough (l : Launch) (X : xX) {S : Nat → xS} {sv hs pf sn nb : Nat → Int32} {ρ : xS} {x : Int32} (hS : ∀ r, r < 11 → Sok (S r)) (hH : Hok hs) {S' : Nat → xS} (ho0 : (va_up (Sdraft S hs) 0 (s_coughByOrder x (S 0))) = S') {hs' : Nat → Int32} (ho1 : (Fkeep (r_coughByOrder x (S 0)) hs) = hs') {res : Int32} (hres : (r_coughByOrder x (S 0)) = res) : XC l yX6_cough cX6_cough 2 (some .int) 5 109 0 0 X xsh [.ref (xB X + xkey 11 5 0), .int x] 603 603 (xval (xB X) (xGl S (xMi sv hs pf sn nb) ρ)) (xval (xB X) (xGl S' (xMi sv hs' pf sn nb) ρ)) (some (.int res)) := by
  refine XC.of RX6 "cough" [(0, .ref (xB X + xkey 11 5 0)), (1, .int x)] (by decide) rfl rfl (Nat.le_of_ble_eq_true rfl) rfl ?_
  intro p e s m args below meth c ls hx hb hret hml hts hown hlocks hnm hK hW hl
  have hW : XG X (xGl S (xMi sv hs pf sn nb) ρ) s.heap [] := hW
  obtain ⟨Q0, hQ0⟩ : ∃ z, z = MQ below (xQ X xsh 603 (xval (xB X) (xGl S' (xMi sv hs' pf sn nb) ρ)) (some (.int res))) args s 0 0 (fun q => xB X ≤ q) := ⟨_, rfl⟩
  rw [← hQ0]
  have hd6 := hH.2.1
  refine lv_aload_n hx hb dX6_cough_0 rfl (lv_at hl 0 rfl) ?_
  refine r_getr (C := RX6) (T := TX6) hx hb hts hown hK hW (xF_mi5).1 (xF_mi5).2 inlX6 rfl (by decide) 4 (by decide) (show xro (xkey 11 5 0) 4 = some (xkey 11 1 0) from by decide +kernel) xw_24 rfl dX6_cough_1 ?_
  refine lv_aload_n hx hb dX6_cough_4 rfl (lv_at hl 0 rfl) ?_
  refine r_getr (C := RX6) (T := TX6) hx hb hts hown hK hW (xF_mi5).1 (xF_mi5).2 inlX6 rfl (by decide) 0 (by decide) (show xro (xkey 11 5 0) 0 = some (xkey 0 0 0) from by decide +kernel) xw_16 rfl dX6_cough_5 ?_
  refine x_callV hx hb hml hown hts hK hW hl.1 (c_X0_draft l X   (hS := hS) (hH := hH) (ho0 := rfl)) (xF_mi1).1 (xF_mi1).2.1 (by decide) rfl xw_94 xw_95 xw_96 xw_23 xw_97 hdV_yX0_draft ⟨Nat.le_of_ble_eq_true rfl, Nat.le_of_ble_eq_true rfl⟩ rfl (Nat.le_of_ble_eq_true rfl) ⟨Nat.le_refl _, Nat.le_refl _⟩ dX6_cough_8 (fun H locs hW => ?_)
  have hk_1 : Sok (s_become (S 0) (S (2 + (hs 1).toNatClampNeg))) := Sok_become (hS 0 (by decide)) (hS _ (by have := hH.2.1; omega))
  have hW : XG X (xGl (va_up S (2 + (hs 1).toNatClampNeg) (s_become (S 0) (S (2 + (hs 1).toNatClampNeg)))) (xMi sv hs pf sn nb) ρ) H locs := hW
  refine lv_aload_n hx hb dX6_cough_11 rfl (lv_at hl 0 rfl) ?_
  refine r_getr (C := RX6) (T := TX6) hx hb hts hown hK hW (xF_mi5).1 (xF_mi5).2 inlX6 rfl (by decide) 4 (by decide) (show xro (xkey 11 5 0) 4 = some (xkey 11 1 0) from by decide +kernel) xw_24 rfl dX6_cough_12 ?_
  refine lv_aload_n hx hb dX6_cough_15 rfl (lv_at hl 0 rfl) ?_
  refine r_getr (C := RX6) (T := TX6) hx hb hts hown hK hW (xF_mi5).1 (xF_mi5).2 inlX6 rfl (by decide) 0 (by decide) (show xro (xkey 11 5 0) 0 = some (xkey 0 0 0) from by decide +kernel) xw_16 rfl dX6_cough_16 ?_
  refine lv_iload_n hx hb dX6_cough_19 rfl (lv_at hl 1 rfl) ?_
  have hW : XR X (xGl (va_up S (2 + (hs 1).toNatClampNeg) (s_become (S 0) (S (2 + (hs 1).toNatClampNeg)))) (xMi sv hs pf sn nb) ρ) 0 (xSt ((S 0) 0 0) ((S 0) 1 0) ((S 0) 2) ((S 0) 3) ((S 0) 4) ((S 0) 5) ((S 0) 6)) _ _ := XG.inS hW 0 (S 0) (by decide) ((va_up_ne _ _ (show (0 : Nat) ≠ 2 + (hs 1).toNatClampNeg by omega)).trans rfl)
  refine x_callV hx hb hml hown hts hK hW hl.1 (c_X4_coughByOrder l X _ (r := 0) (n := (cN (S 0))) (x := x) (hr := (by decide)) (hn := (hS 0 (by decide)).hn) (hn16 := (hS 0 (by decide)).hn16) (ho0 := rfl) (hres := rfl)) (xF_street 0 (by omega)).1 (xF_street 0 (by omega)).2.1 (by decide) rfl xw_327 xw_328 xw_329 xw_15 xw_330 hdV_yX4_coughByOrder ⟨Nat.le_of_ble_eq_true rfl, Nat.le_of_ble_eq_true rfl⟩ rfl (Nat.le_of_ble_eq_true rfl) ⟨Nat.le_refl _, Nat.le_refl _⟩ dX6_cough_20 (fun H locs hW => ?_)
  have hW : XR X (xGl (va_up S (2 + (hs 1).toNatClampNeg) (s_become (S 0) (S (2 + (hs 1).toNatClampNeg)))) (xMi sv hs pf sn nb) ρ) 0 (s_coughByOrder x (S 0)) H locs := hW
  have hW : XG X (xGl (va_up (va_up S (2 + (hs 1).toNatClampNeg) (s_become (S 0) (S (2 + (hs 1).toNatClampNeg)))) 0 (s_coughByOrder x (S 0))) (xMi sv hs pf sn nb) ρ) H locs := by have h := XG.outS (by decide) hW; exact h
  have hk_2 : Sok (s_coughByOrder x (S 0)) := (Sok_coughByOrder (hS 0 (by decide)))
  refine lv_eqi (y := (r_coughByOrder x (S 0))) rfl ?_
  have hW := XG.in11 hW
  refine x_callV hx hb hml hown hts hK hW hl.1 (c_X0_keepUnlessError l X _ (a := (r_coughByOrder x (S 0)))  (ho0 := rfl) (hres := rfl)) (xF_mi1).1 (xF_mi1).2.1 (by decide) rfl xw_146 xw_147 xw_148 xw_23 xw_149 hdV_yX0_keepUnlessError ⟨Nat.le_of_ble_eq_true rfl, Nat.le_of_ble_eq_true rfl⟩ rfl (Nat.le_of_ble_eq_true rfl) ⟨Nat.le_refl _, Nat.le_refl _⟩ dX6_cough_23 (fun H locs hW => ?_)
  have hW : XG X (xGl (va_up (va_up S (2 + (hs 1).toNatClampNeg) (s_become (S 0) (S (2 + (hs 1).toNatClampNeg)))) 0 (s_coughByOrder x (S 0))) (xMi sv (Fkeep (r_coughByOrder x (S 0)) hs) pf sn nb) ρ) H locs := XG.out11 hW
  obtain rfl : (va_up (va_up S (2 + (hs 1).toNatClampNeg) (s_become (S 0) (S (2 + (hs 1).toNatClampNeg)))) 0 (s_coughByOrder x (S 0))) = S' := by (rw [← ho0]) <;> (rfl)
  obtain rfl : (Fkeep (r_coughByOrder x (S 0)) hs) = hs' := by (rw [← ho1]) <;> (rfl)
  obtain rfl : (r_coughByOrder x (S 0)) = res := by (rw [← hres]) <;> (rfl)
  rw [hQ0]
  exact x_iret hx hb hret hlocks rfl hW rfl dX6_cough_26
set_option maxHeartbeats 4000000 in
set_option maxRecDepth 100000 in
theorem c_X6_ticks (l : Launch) (X : xX) {S : Nat → xS} {sv hs pf sn nb : Nat → Int32} {ρ : xS} {x : Int32} (hS : ∀ r, r < 11 → Sok (S r)) (hH : Hok hs) {S' : Nat → xS} (ho0 : (va_up (Sdraft S hs) 0 (s_letPass x (S 0))) = S') {hs' : Nat → Int32} (ho1 : (Fkeep (r_letPass x (S 0)) hs) = hs') {res : Int32} (hres : (r_letPass x (S 0)) = res) : XC l yX6_ticks cX6_ticks 2 (some .int) 6 145 0 0 X xsh [.ref (xB X + xkey 11 5 0), .int x] 603 603 (xval (xB X) (xGl S (xMi sv hs pf sn nb) ρ)) (xval (xB X) (xGl S' (xMi sv hs' pf sn nb) ρ)) (some (.int res)) := by
  refine XC.of RX6 "ticks" [(0, .ref (xB X + xkey 11 5 0)), (1, .int x)] (by decide) rfl rfl (Nat.le_of_ble_eq_true rfl) rfl ?_
  intro p e s m args below meth c ls hx hb hret hml hts hown hlocks hnm hK hW hl
  have hW : XG X (xGl S (xMi sv hs pf sn nb) ρ) s.heap [] := hW
  obtain ⟨Q0, hQ0⟩ : ∃ z, z = MQ below (xQ X xsh 603 (xval (xB X) (xGl S' (xMi sv hs' pf sn nb) ρ)) (some (.int res))) args s 0 0 (fun q => xB X ≤ q) := ⟨_, rfl⟩
  rw [← hQ0]
  have hd6 := hH.2.1
  refine lv_aload_n hx hb dX6_ticks_0 rfl (lv_at hl 0 rfl) ?_
  refine r_getr (C := RX6) (T := TX6) hx hb hts hown hK hW (xF_mi5).1 (xF_mi5).2 inlX6 rfl (by decide) 4 (by decide) (show xro (xkey 11 5 0) 4 = some (xkey 11 1 0) from by decide +kernel) xw_24 rfl dX6_ticks_1 ?_
  refine lv_aload_n hx hb dX6_ticks_4 rfl (lv_at hl 0 rfl) ?_
  refine r_getr (C := RX6) (T := TX6) hx hb hts hown hK hW (xF_mi5).1 (xF_mi5).2 inlX6 rfl (by decide) 0 (by decide) (show xro (xkey 11 5 0) 0 = some (xkey 0 0 0) from by decide +kernel) xw_16 rfl dX6_ticks_5 ?_
  refine x_callV hx hb hml hown hts hK hW hl.1 (c_X0_draft l X   (hS := hS) (hH := hH) (ho0 := rfl)) (xF_mi1).1 (xF_mi1).2.1 (by decide) rfl xw_94 xw_95 xw_96 xw_23 xw_97 hdV_yX0_draft ⟨Nat.le_of_ble_eq_true rfl, Nat.le_of_ble_eq_true rfl⟩ rfl (Nat.le_of_ble_eq_true rfl) ⟨Nat.le_refl _, Nat.le_refl _⟩ dX6_ticks_8 (fun H locs hW => ?_)
  have hk_1 : Sok (s_become (S 0) (S (2 + (hs 1).toNatClampNeg))) := Sok_become (hS 0 (by decide)) (hS _ (by have := hH.2.1; omega))
  have hW : XG X (xGl (va_up S (2 + (hs 1).toNatClampNeg) (s_become (S 0) (S (2 + (hs 1).toNatClampNeg)))) (xMi sv hs pf sn nb) ρ) H locs := hW
  refine lv_aload_n hx hb dX6_ticks_11 rfl (lv_at hl 0 rfl) ?_
  refine r_getr (C := RX6) (T := TX6) hx hb hts hown hK hW (xF_mi5).1 (xF_mi5).2 inlX6 rfl (by decide) 4 (by decide) (show xro (xkey 11 5 0) 4 = some (xkey 11 1 0) from by decide +kernel) xw_24 rfl dX6_ticks_12 ?_
  refine lv_aload_n hx hb dX6_ticks_15 rfl (lv_at hl 0 rfl) ?_
  refine r_getr (C := RX6) (T := TX6) hx hb hts hown hK hW (xF_mi5).1 (xF_mi5).2 inlX6 rfl (by decide) 0 (by decide) (show xro (xkey 11 5 0) 0 = some (xkey 0 0 0) from by decide +kernel) xw_16 rfl dX6_ticks_16 ?_
  refine lv_iload_n hx hb dX6_ticks_19 rfl (lv_at hl 1 rfl) ?_
  have hW : XR X (xGl (va_up S (2 + (hs 1).toNatClampNeg) (s_become (S 0) (S (2 + (hs 1).toNatClampNeg)))) (xMi sv hs pf sn nb) ρ) 0 (xSt ((S 0) 0 0) ((S 0) 1 0) ((S 0) 2) ((S 0) 3) ((S 0) 4) ((S 0) 5) ((S 0) 6)) _ _ := XG.inS hW 0 (S 0) (by decide) ((va_up_ne _ _ (show (0 : Nat) ≠ 2 + (hs 1).toNatClampNeg by omega)).trans rfl)
  refine x_callV hx hb hml hown hts hK hW hl.1 (c_X4_letPass l X _ (r := 0) (n := (cN (S 0))) (nh := (cH (S 0))) (nw := (cW (S 0))) (x := x) (hr := (by decide)) (hn := (hS 0 (by decide)).hn) (hn16 := (hS 0 (by decide)).hn16) (hh := (hS 0 (by decide)).hh) (hh8 := (hS 0 (by decide)).hh8) (hw := (hS 0 (by decide)).hw) (hw8 := (hS 0 (by decide)).hw8) (ho0 := rfl) (ho1 := rfl) (ho2 := rfl) (ho3 := rfl) (ho4 := rfl) (ho5 := rfl) (hres := rfl)) (xF_street 0 (by omega)).1 (xF_street 0 (by omega)).2.1 (by decide) rfl xw_396 xw_397 xw_398 xw_15 xw_399 hdV_yX4_letPass ⟨Nat.le_of_ble_eq_true rfl, Nat.le_of_ble_eq_true rfl⟩ rfl (Nat.le_of_ble_eq_true rfl) ⟨Nat.le_refl _, Nat.le_refl _⟩ dX6_ticks_20 (fun H locs hW => ?_)
  have hW : XR X (xGl (va_up S (2 + (hs 1).toNatClampNeg) (s_become (S 0) (S (2 + (hs 1).toNatClampNeg)))) (xMi sv hs pf sn nb) ρ) 0 (s_letPass x (S 0)) H locs := hW
  have hW : XG X (xGl (va_up (va_up S (2 + (hs 1).toNatClampNeg) (s_become (S 0) (S (2 + (hs 1).toNatClampNeg)))) 0 (s_letPass x (S 0))) (xMi sv hs pf sn nb) ρ) H locs := by have h := XG.outS (by decide) hW; exact h
  have hk_2 : Sok (s_letPass x (S 0)) := (Sok_letPass (hS 0 (by decide)))
  refine lv_eqi (y := (r_letPass x (S 0))) rfl ?_
  have hW := XG.in11 hW
  refine x_callV hx hb hml hown hts hK hW hl.1 (c_X0_keepUnlessError l X _ (a := (r_letPass x (S 0)))  (ho0 := rfl) (hres := rfl)) (xF_mi1).1 (xF_mi1).2.1 (by decide) rfl xw_146 xw_147 xw_148 xw_23 xw_149 hdV_yX0_keepUnlessError ⟨Nat.le_of_ble_eq_true rfl, Nat.le_of_ble_eq_true rfl⟩ rfl (Nat.le_of_ble_eq_true rfl) ⟨Nat.le_refl _, Nat.le_refl _⟩ dX6_ticks_23 (fun H locs hW => ?_)
  have hW : XG X (xGl (va_up (va_up S (2 + (hs 1).toNatClampNeg) (s_become (S 0) (S (2 + (hs 1).toNatClampNeg)))) 0 (s_letPass x (S 0))) (xMi sv (Fkeep (r_letPass x (S 0)) hs) pf sn nb) ρ) H locs := XG.out11 hW
  obtain rfl : (va_up (va_up S (2 + (hs 1).toNatClampNeg) (s_become (S 0) (S (2 + (hs 1).toNatClampNeg)))) 0 (s_letPass x (S 0))) = S' := by (rw [← ho0]) <;> (rfl)
  obtain rfl : (Fkeep (r_letPass x (S 0)) hs) = hs' := by (rw [← ho1]) <;> (rfl)
  obtain rfl : (r_letPass x (S 0)) = res := by (rw [← hres]) <;> (rfl)
  rw [hQ0]
  exact x_iret hx hb hret hlocks rfl hW rfl dX6_ticks_26
