/-! ===== the class's own methods: a walker's way home, the best reach, the needless lamps ===== -/
theorem Fhome_0 {i : Nat} {q : (Nat → Int32) × (Nat → Int32) × (Nat → Int32)} : Fhome 0 i q = (q, -6) := rfl
theorem Fhome_n {k i : Nat} {q : (Nat → Int32) × (Nat → Int32) × (Nat → Int32)} (h : q.1 5 = 0) : Fhome (k + 1) i q = Fhome k (i + 1) (FgoW q.1 q.2.1 q.2.2, FgoP q.1 q.2.1 q.2.2 q.2.1, FgoP q.1 q.2.1 q.2.2 q.2.2) := if_pos h
theorem Fhome_s {k i : Nat} {q : (Nat → Int32) × (Nat → Int32) × (Nat → Int32)} (h : ¬ q.1 5 = 0) : Fhome (k + 1) i q = (q, nI i) := if_neg h
theorem hdV_yX6_homeIn : yX6_homeIn.cls = RX6 ∧ yX6_homeIn.cls ≠ "java/lang/invoke/MethodHandle" ∧ yX6_homeIn.cls ≠ "java/lang/invoke/VarHandle" ∧ (parseMethodDescriptor yX6_homeIn.desc).map (fun d => d.parameters.length) = some 1 := by decide +kernel
theorem hdV_yX6_bestReach : yX6_bestReach.cls = RX6 ∧ yX6_bestReach.cls ≠ "java/lang/invoke/MethodHandle" ∧ yX6_bestReach.cls ≠ "java/lang/invoke/VarHandle" ∧ (parseMethodDescriptor yX6_bestReach.desc).map (fun d => d.parameters.length) = some 1 := by decide +kernel
theorem hdV_yX6_needless : yX6_needless.cls = RX6 ∧ yX6_needless.cls ≠ "java/lang/invoke/MethodHandle" ∧ yX6_needless.cls ≠ "java/lang/invoke/VarHandle" ∧ (parseMethodDescriptor yX6_needless.desc).map (fun d => d.parameters.length) = some 0 := by decide +kernel
set_option maxHeartbeats 4000000 in
set_option maxRecDepth 100000 in
theorem c_X6_homeIn (l : Launch) (X : xX) {S : Nat → xS} {sv hs pf sn nb : Nat → Int32} {ρ : xS} {x : Int32} (hS : ∀ r, r < 11 → Sok (S r)) {S' : Nat → xS} (ho0 : (va_up S 1 (sHome x (S 0) (S 1)).1) = S') {res : Int32} (hres : ((sHome x (S 0) (S 1)).2) = res) : XC l yX6_homeIn cX6_homeIn 4 (some .int) 4 102 0 0 X xsh [.ref (xB X + xkey 11 5 0), .int x] 603 603 (xval (xB X) (xGl S (xMi sv hs pf sn nb) ρ)) (xval (xB X) (xGl S' (xMi sv hs pf sn nb) ρ)) (some (.int res)) := by
  refine XC.of RX6 "homeIn" [(0, .ref (xB X + xkey 11 5 0)), (1, .int x)] (by decide) rfl rfl (Nat.le_of_ble_eq_true rfl) rfl ?_
  intro p e s m args below meth c ls hx hb hret hml hts hown hlocks hnm hK hW hl
  have hW : XG X (xGl S (xMi sv hs pf sn nb) ρ) s.heap [] := hW
  obtain ⟨Q0, hQ0⟩ : ∃ z, z = MQ below (xQ X xsh 603 (xval (xB X) (xGl S' (xMi sv hs pf sn nb) ρ)) (some (.int res))) args s 0 0 (fun q => xB X ≤ q) := ⟨_, rfl⟩
  rw [← hQ0]
  refine lv_aload_n hx hb dX6_homeIn_0 rfl (lv_at hl 0 rfl) ?_
  refine r_getr (C := RX6) (T := TX6) hx hb hts hown hK hW (xF_mi5).1 (xF_mi5).2 inlX6 rfl (by decide) 0 (by decide) (show xro (xkey 11 5 0) 0 = some (xkey 0 0 0) from by decide +kernel) xw_16 rfl dX6_homeIn_1 ?_
  refine lv_iload_n hx hb dX6_homeIn_4 rfl (lv_at hl 1 rfl) ?_
  have hW : XR X (xGl S (xMi sv hs pf sn nb) ρ) 0 (xSt ((S 0) 0 0) ((S 0) 1 0) ((S 0) 2) ((S 0) 3) ((S 0) 4) ((S 0) 5) ((S 0) 6)) _ _ := XG.inS hW 0 (S 0) (by decide) rfl
  refine x_callV hx hb hml hown hts hK hW hl.1 (c_X4_hasWalker l X _ (r := 0) (nw := (cW (S 0))) (x := x) (hr := (by decide)) (hw := (hS 0 (by decide)).hw) (hw8 := (hS 0 (by decide)).hw8) (hres := rfl)) (xF_street 0 (by omega)).1 (xF_street 0 (by omega)).2.1 (by decide) rfl xw_573 xw_259 xw_260 xw_15 xw_261 hdV_yX4_hasWalker ⟨Nat.le_of_ble_eq_true rfl, Nat.le_of_ble_eq_true rfl⟩ rfl (Nat.le_of_ble_eq_true rfl) ⟨Nat.le_refl _, Nat.le_refl _⟩ dX6_homeIn_5 (fun H locs hW => ?_)
  have hW : XG X (xGl S (xMi sv hs pf sn nb) ρ) H locs := XG.unS (σ := (S 0)) (by decide) rfl hW
  refine lv_eqi (y := (r_hasWalker x (S 0))) rfl ?_
  refine lv_if_ne (tgt := 13) hx hb dX6_homeIn_8 (by decide) (fun c_1 => ?_) (fun c_1 => ?_)
  · skip
    have hx7 := (hS 0 (by decide)).hw8
    have hx9 := xhas (x := x) (n := cW (S 0)) (by omega) c_1
    have hx8 : x.toNatClampNeg < cW (S 0) := hx9.1
    refine lv_aload_n hx hb dX6_homeIn_13 rfl (lv_at hl 0 rfl) ?_
    refine r_getr (C := RX6) (T := TX6) hx hb hts hown hK hW (xF_mi5).1 (xF_mi5).2 inlX6 rfl (by decide) 1 (by decide) (show xro (xkey 11 5 0) 1 = some (xkey 1 0 0) from by decide +kernel) xw_17 rfl dX6_homeIn_14 ?_
    refine r_getr (C := RX4) (T := TX4) hx hb hts hown hK hW (xF_street 1 (by omega)).1 (xF_street 1 (by omega)).2.1 inlX4 rfl (by decide) 3 (by decide) (xr_street 1 (by omega)).2.2.2.1 xw_572 rfl dX6_homeIn_17 ?_
    refine lv_iload_n hx hb dX6_homeIn_20 rfl (lv_at hl 1 rfl) ?_
    refine r_aald hx hb hK hW (xF_walkers 1 (by omega)).1 (xF_walkers 1 (by omega)).2 (by decide) 6 rfl x.toNatClampNeg (by omega) (by decide) hx9.2 (xr_walkers 1 (by omega) x.toNatClampNeg (by omega)) dX6_homeIn_21 ?_
    refine lv_astore_n (lv' := [(2, .ref (xB X + xkey 1 4 x.toNatClampNeg)), (0, .ref (xB X + xkey 11 5 0)), (1, .int x)]) hx hb dX6_homeIn_22 rfl hl (by decide) rfl (fun ls hl => ?_)
    refine lv_aload_n hx hb dX6_homeIn_23 rfl (lv_at hl 0 rfl) ?_
    refine lv_aload_n hx hb dX6_homeIn_24 rfl (lv_at hl 1 rfl) ?_
    refine r_getr (C := RX6) (T := TX6) hx hb hts hown hK hW (xF_mi5).1 (xF_mi5).2 inlX6 rfl (by decide) 0 (by decide) (show xro (xkey 11 5 0) 0 = some (xkey 0 0 0) from by decide +kernel) xw_16 rfl dX6_homeIn_25 ?_
    refine r_getr (C := RX4) (T := TX4) hx hb hts hown hK hW (xF_street 0 (by omega)).1 (xF_street 0 (by omega)).2.1 inlX4 rfl (by decide) 3 (by decide) (xr_street 0 (by omega)).2.2.2.1 xw_572 rfl dX6_homeIn_28 ?_
    refine lv_iload_n hx hb dX6_homeIn_31 rfl (lv_at hl 2 rfl) ?_
    refine r_aald hx hb hK hW (xF_walkers 0 (by omega)).1 (xF_walkers 0 (by omega)).2 (by decide) 6 rfl x.toNatClampNeg (by omega) (by decide) hx9.2 (xr_walkers 0 (by omega) x.toNatClampNeg (by omega)) dX6_homeIn_32 ?_
    have hW : XR X (xGl S (xMi sv hs pf sn nb) ρ) 1 (xSt ((S 1) 0 0) ((S 1) 1 0) ((S 1) 2) ((S 1) 3) ((S 1) 4) ((S 1) 5) ((S 1) 6)) H locs := XG.inS hW 1 (S 1) (by decide) rfl
    obtain ⟨G, hG⟩ : ∃ G, G = xGl S (xMi sv hs pf sn nb) ρ := ⟨_, rfl⟩
    rw [← hG] at hW
    have hbo9 : G 0 4 x.toNatClampNeg 5 = 0 ∨ G 0 4 x.toNatClampNeg 5 = 1 := by rw [hG, xGl_at (by decide)]; exact (hS 0 (by decide)).hbo _ (by omega)
    have hW := XR.foc4 hW x.toNatClampNeg
    have hW := XR.foc5 hW x.toNatClampNeg
    have hW := XR.foc6 hW x.toNatClampNeg
    refine x_callV hx hb hml hown hts hK hW hl.1 (c_X5_copyFrom l X G (r := 1) (i := x.toNatClampNeg) (r2 := 0) (hr := (by decide)) (hi := (by omega)) (hr2 := (by decide)) (hne := (by decide)) (hbo := hbo9) (ho0 := rfl) (ho1 := rfl) (ho2 := rfl)) (xF_walker 1 (by omega) x.toNatClampNeg (by omega)).1 (xF_walker 1 (by omega) x.toNatClampNeg (by omega)).2.1 (by decide) rfl xw_700 xw_129 xw_130 xw_50 xw_131 hdV_yX5_copyFrom ⟨Nat.le_of_ble_eq_true rfl, Nat.le_of_ble_eq_true rfl⟩ rfl (Nat.le_of_ble_eq_true rfl) ⟨Nat.le_refl _, Nat.le_refl _⟩ dX6_homeIn_33 (fun H locs hW => ?_)
    have hW : XR X G 1 (xSt ((S 1) 0 0) ((S 1) 1 0) ((S 1) 2) ((S 1) 3) (va_up ((S 1) 4) x.toNatClampNeg (FcopyW (G 0 4 x.toNatClampNeg) (((S 1) 4) x.toNatClampNeg))) (va_up ((S 1) 5) x.toNatClampNeg (Fcpy6 (G 0 5 x.toNatClampNeg) (((S 1) 5) x.toNatClampNeg))) (va_up ((S 1) 6) x.toNatClampNeg (Fcpy6 (G 0 6 x.toNatClampNeg) (((S 1) 6) x.toNatClampNeg)))) H locs := hW
    have g0 : G 0 = S 0 := by rw [hG]; exact xGl_at (by decide)
    have hW : XR X G 1 (xSt ((S 1) 0 0) ((S 1) 1 0) ((S 1) 2) ((S 1) 3) (va_up ((S 1) 4) x.toNatClampNeg (FcopyW (S 0 4 x.toNatClampNeg) (((S 1) 4) x.toNatClampNeg))) (va_up ((S 1) 5) x.toNatClampNeg (Fcpy6 (S 0 5 x.toNatClampNeg) (((S 1) 5) x.toNatClampNeg))) (va_up ((S 1) 6) x.toNatClampNeg (Fcpy6 (S 0 6 x.toNatClampNeg) (((S 1) 6) x.toNatClampNeg)))) H locs := by have h := hW; simp only [g0] at h; exact h
    refine lv_iconst (v := nI 0) hx hb dX6_homeIn_36 (by decide) ?_
    refine lv_istore_n (lv' := [(3, .int (nI 0)), (2, .ref (xB X + xkey 1 4 x.toNatClampNeg)), (0, .ref (xB X + xkey 11 5 0)), (1, .int x)]) hx hb dX6_homeIn_37 rfl hl (by decide) rfl (fun ls hl => ?_)
    have loop_38 : ∀ (k_38 i : Nat) (ω : Nat → Int32) (γ : Nat → Int32) (π : Nat → Int32), i + k_38 = 501 → Fhome k_38 i (ω, γ, π) = Fhome 501 0 ((FcopyW (S 0 4 x.toNatClampNeg) (((S 1) 4) x.toNatClampNeg)), (Fcpy6 (S 0 5 x.toNatClampNeg) (((S 1) 5) x.toNatClampNeg)), (Fcpy6 (S 0 6 x.toNatClampNeg) (((S 1) 6) x.toNatClampNeg))) → ∀ (H : Heap) (locs : List Loc) (ls : Array Slot), XR X G 1 (xSt ((S 1) 0 0) ((S 1) 1 0) ((S 1) 2) ((S 1) 3) (va_up ((S 1) 4) x.toNatClampNeg ω) (va_up ((S 1) 5) x.toNatClampNeg γ) (va_up ((S 1) 6) x.toNatClampNeg π)) H locs → lv_has ls 4 [(0, .ref (xB X + xkey 11 5 0)), (1, .int x), (2, .ref (xB X + xkey 1 4 x.toNatClampNeg)), (3, .int (nI i))] → W p l e { frames := 4, cells := 0, slots := 0, locals := 102 } s m args below meth c H locs 0 0 Q0 (F0 m 38 ls []) := by
      intro k_38
      induction k_38 with
      | zero =>
        intro i ω γ π hik_38  hsp_38 H locs ls hW hl
        refine lv_iload_n hx hb dX6_homeIn_38 rfl (lv_at hl 3 rfl) ?_
        refine lv_sipush (v := nI 500) hx hb dX6_homeIn_39 (by decide) ?_
        refine lv_icmp_gt (tgt := 64) hx hb dX6_homeIn_42 (by decide) (fun c_2 => ?_) (fun c_2 => absurd (nI_lt (a := 500) (b := i) (by omega) (by omega)) c_2)
        refine lv_bipush (v := (-6)) hx hb dX6_homeIn_64 (by decide) ?_
        subst hG
        have hW : XG X (xGl (va_up S 1 (xSt ((S 1) 0 0) ((S 1) 1 0) ((S 1) 2) ((S 1) 3) (va_up ((S 1) 4) x.toNatClampNeg ω) (va_up ((S 1) 5) x.toNatClampNeg γ) (va_up ((S 1) 6) x.toNatClampNeg π))) (xMi sv hs pf sn nb) ρ) H locs := XG.outS (by decide) hW
        obtain rfl : (va_up S 1 (xSt ((S 1) 0 0) ((S 1) 1 0) ((S 1) 2) ((S 1) 3) (va_up ((S 1) 4) x.toNatClampNeg ω) (va_up ((S 1) 5) x.toNatClampNeg γ) (va_up ((S 1) 6) x.toNatClampNeg π))) = S' := by (rw [← ho0]) <;> (unfold sHome; rw [if_neg c_1, ← (Fhome_0.symm.trans hsp_38)])
        obtain rfl : (-6) = res := by (rw [← hres]) <;> (unfold sHome; rw [if_neg c_1, ← (Fhome_0.symm.trans hsp_38)])
        rw [hQ0]
        exact x_iret hx hb hret hlocks rfl hW rfl dX6_homeIn_66
      | succ k_38 ih_38 =>
        intro i ω γ π hik_38  hsp_38 H locs ls hW hl
        refine lv_iload_n hx hb dX6_homeIn_38 rfl (lv_at hl 3 rfl) ?_
        refine lv_sipush (v := nI 500) hx hb dX6_homeIn_39 (by decide) ?_
        refine lv_icmp_gt (tgt := 64) hx hb dX6_homeIn_42 (by decide) (fun c_3 => absurd c_3 (nI_nlt (by omega) (by omega))) (fun c_3 => ?_)
        refine lv_aload_n hx hb dX6_homeIn_45 rfl (lv_at hl 2 rfl) ?_
        refine r_get hx hb hts hown hK hW (C := RX5) (T := TX5) (xF_walker 1 (by omega) x.toNatClampNeg (by omega)) inlX5 rfl (by decide) 5 (by decide) ((xr_walker 1 (by omega) x.toNatClampNeg (by omega)).2.2 5 (by decide) (by decide)) xw_699 rfl (x := ω 5) (show (va_up ((S 1) 4) x.toNatClampNeg ω) x.toNatClampNeg 5 = ω 5 from xrd rfl) dX6_homeIn_46 ?_
        refine lv_if_eq (tgt := 54) hx hb dX6_homeIn_49 (by decide) (fun c_4 => ?_) (fun c_4 => ?_)
        · skip
          refine lv_aload_n hx hb dX6_homeIn_54 rfl (lv_at hl 2 rfl) ?_
          refine x_callV hx hb hml hown hts hK hW hl.1 (c_X5_go l X G (r := 1) (i := x.toNatClampNeg) (hr := (by decide)) (hi := (by omega)) (ho0 := rfl) (ho1 := rfl) (ho2 := rfl)) (xF_walker 1 (by omega) x.toNatClampNeg (by omega)).1 (xF_walker 1 (by omega) x.toNatClampNeg (by omega)).2.1 (by decide) rfl xw_701 xw_407 xw_408 xw_50 xw_409 hdV_yX5_go ⟨Nat.le_of_ble_eq_true rfl, Nat.le_of_ble_eq_true rfl⟩ rfl (Nat.le_of_ble_eq_true rfl) ⟨Nat.le_refl _, Nat.le_refl _⟩ dX6_homeIn_55 (fun H locs hW => ?_)
          have hW : XR X G 1 (xSt ((S 1) 0 0) ((S 1) 1 0) ((S 1) 2) ((S 1) 3) (va_up ((S 1) 4) x.toNatClampNeg (FgoW ω γ π)) (va_up ((S 1) 5) x.toNatClampNeg (FgoP ω γ π γ)) (va_up ((S 1) 6) x.toNatClampNeg (FgoP ω γ π π))) H locs := hW
          refine lv_iinc (v := nI (i + 1)) (lv' := [(3, .int (nI (i + 1))), (0, .ref (xB X + xkey 11 5 0)), (1, .int x), (2, .ref (xB X + xkey 1 4 x.toNatClampNeg))]) hx hb dX6_homeIn_58 hl (k := 3) rfl (nI_1 i) (by decide) rfl (fun ls hl => ?_)
          refine lv_goto (tgt := 38) hx hb dX6_homeIn_61 (by decide) ?_
          refine ih_38 (i + 1) (FgoW ω γ π) (FgoP ω γ π γ) (FgoP ω γ π π) (by omega)  ?_ H locs ls hW (lv_sub hl [1, 2, 3, 0] rfl)
          exact (Fhome_n c_4).symm.trans hsp_38
        · skip
          refine lv_iload_n hx hb dX6_homeIn_52 rfl (lv_at hl 3 rfl) ?_
          subst hG
          have hW : XG X (xGl (va_up S 1 (xSt ((S 1) 0 0) ((S 1) 1 0) ((S 1) 2) ((S 1) 3) (va_up ((S 1) 4) x.toNatClampNeg ω) (va_up ((S 1) 5) x.toNatClampNeg γ) (va_up ((S 1) 6) x.toNatClampNeg π))) (xMi sv hs pf sn nb) ρ) H locs := XG.outS (by decide) hW
          obtain rfl : (va_up S 1 (xSt ((S 1) 0 0) ((S 1) 1 0) ((S 1) 2) ((S 1) 3) (va_up ((S 1) 4) x.toNatClampNeg ω) (va_up ((S 1) 5) x.toNatClampNeg γ) (va_up ((S 1) 6) x.toNatClampNeg π))) = S' := by (rw [← ho0]) <;> (unfold sHome; rw [if_neg c_1, ← ((Fhome_s c_4).symm.trans hsp_38)])
          obtain rfl : nI i = res := by (rw [← hres]) <;> (unfold sHome; rw [if_neg c_1, ← ((Fhome_s c_4).symm.trans hsp_38)])
          rw [hQ0]
          exact x_iret hx hb hret hlocks rfl hW rfl dX6_homeIn_53
    exact loop_38 501 0 (FcopyW (S 0 4 x.toNatClampNeg) (((S 1) 4) x.toNatClampNeg)) (Fcpy6 (S 0 5 x.toNatClampNeg) (((S 1) 5) x.toNatClampNeg)) (Fcpy6 (S 0 6 x.toNatClampNeg) (((S 1) 6) x.toNatClampNeg)) (by omega)  rfl _ _ _ hW (lv_sub hl [2, 3, 1, 0] rfl)
  · skip
    refine lv_iconst (v := (-1)) hx hb dX6_homeIn_11 (by decide) ?_
    obtain rfl : S = S' := by (rw [← ho0]) <;> ((simp [sHome, c_1]) <;> exact xus.symm)
    obtain rfl : (-1) = res := by (rw [← hres]) <;> ((simp [sHome, c_1]) <;> exact xus.symm)
    rw [hQ0]
    exact x_iret hx hb hret hlocks rfl hW rfl dX6_homeIn_12
set_option maxHeartbeats 4000000 in
set_option maxRecDepth 100000 in
theorem c_X6_bestReach (l : Launch) (X : xX) {S : Nat → xS} {sv hs pf sn nb : Nat → Int32} {ρ : xS} {x : Int32} (hS : ∀ r, r < 11 → Sok (S r)) {S' : Nat → xS} (ho0 : (va_up S 1 (sBest x (S 0) (S 1)).1) = S') {res : Int32} (hres : ((sBest x (S 0) (S 1)).2.1) = res) : XC l yX6_bestReach cX6_bestReach 9 (some .int) 6 145 0 0 X xsh [.ref (xB X + xkey 11 5 0), .int x] 603 603 (xval (xB X) (xGl S (xMi sv hs pf sn nb) ρ)) (xval (xB X) (xGl S' (xMi sv hs pf sn nb) ρ)) (some (.int res)) := by
  refine XC.of RX6 "bestReach" [(0, .ref (xB X + xkey 11 5 0)), (1, .int x)] (by decide) rfl rfl (Nat.le_of_ble_eq_true rfl) rfl ?_
  intro p e s m args below meth c ls hx hb hret hml hts hown hlocks hnm hK hW hl
  have hW : XG X (xGl S (xMi sv hs pf sn nb) ρ) s.heap [] := hW
  obtain ⟨Q0, hQ0⟩ : ∃ z, z = MQ below (xQ X xsh 603 (xval (xB X) (xGl S' (xMi sv hs pf sn nb) ρ)) (some (.int res))) args s 0 0 (fun q => xB X ≤ q) := ⟨_, rfl⟩
  rw [← hQ0]
  refine lv_iload_n hx hb dX6_bestReach_0 rfl (lv_at hl 1 rfl) ?_
  refine x_callS hx hb hml hown hts hK hW hl.1 (c_X6_isTicks l X _ (v := x) (hres := rfl)) xw_718 xw_400 xw_2 xw_401 hdS_yX6_isTicks ⟨Nat.le_of_ble_eq_true rfl, Nat.le_of_ble_eq_true rfl⟩ rfl (Nat.le_of_ble_eq_true rfl) ⟨Nat.le_refl _, Nat.le_refl _⟩ dX6_bestReach_1 (fun H locs hW => ?_)
  refine lv_if_ne (tgt := 10) hx hb dX6_bestReach_4 (by decide) (fun c_1 => ?_) (fun c_1 => ?_)
  · skip
    refine lv_bipush (v := (-6)) hx hb dX6_bestReach_10 (by decide) ?_
    refine lv_istore_n (lv' := [(2, .int (-6)), (0, .ref (xB X + xkey 11 5 0)), (1, .int x)]) hx hb dX6_bestReach_12 rfl hl (by decide) rfl (fun ls hl => ?_)
    refine lv_iconst (v := 0) hx hb dX6_bestReach_13 (by decide) ?_
    refine lv_istore_n (lv' := [(3, .int 0), (2, .int (-6)), (0, .ref (xB X + xkey 11 5 0)), (1, .int x)]) hx hb dX6_bestReach_14 rfl hl (by decide) rfl (fun ls hl => ?_)
    refine lv_iconst (v := 0) hx hb dX6_bestReach_15 (by decide) ?_
    refine lv_istore (lv' := [(4, .int 0), (3, .int 0), (2, .int (-6)), (0, .ref (xB X + xkey 11 5 0)), (1, .int x)]) hx hb dX6_bestReach_16 hl (by decide) rfl (fun ls hl => ?_)
    refine x_gets hx hb hts hown hK.2.2.1 hW xw_740 dX6_bestReach_18 ?_
    refine lv_iconst (v := 1) hx hb dX6_bestReach_21 (by decide) ?_
    refine x_tald hx hb hK.2.2.1 hW 1 (by decide) (by decide) (by decide) dX6_bestReach_22 ?_
    refine lv_eqi (y := nI 1) (by decide) ?_
    refine lv_istore (lv' := [(5, .int (nI 1)), (4, .int 0), (3, .int 0), (2, .int (-6)), (0, .ref (xB X + xkey 11 5 0)), (1, .int x)]) hx hb dX6_bestReach_23 hl (by decide) rfl (fun ls hl => ?_)
    refine lv_iload hx hb dX6_bestReach_25 (lv_at hl 0 rfl) ?_
    refine lv_istore (lv' := [(6, .int (nI 1)), (5, .int (nI 1)), (4, .int 0), (3, .int 0), (2, .int (-6)), (0, .ref (xB X + xkey 11 5 0)), (1, .int x)]) hx hb dX6_bestReach_27 hl (by decide) rfl (fun ls hl => ?_)
    have hW : XG X (xGl (va_up S 1 (S 1)) (xMi sv hs pf sn nb) ρ) H locs := by rw [xus]; exact hW
    have loop_29 : ∀ (k_29 i : Nat) (τ : xS) (ba : Int32) (da : Int32) (la : Int32), i + k_29 = 61 → Sok τ → xloop (Fbest x (S 0)) k_29 i (τ, ba, da, la) = xloop (Fbest x (S 0)) 60 1 ((S 1), (-6), 0, 0) → ∀ (H : Heap) (locs : List Loc) (ls : Array Slot), XG X (xGl (va_up S 1 τ) (xMi sv hs pf sn nb) ρ) H locs → lv_has ls 9 [(0, .ref (xB X + xkey 11 5 0)), (1, .int x), (2, .int ba), (3, .int da), (4, .int la), (5, .int (nI 1)), (6, .int (nI i))] → W p l e { frames := 6, cells := 0, slots := 0, locals := 145 } s m args below meth c H locs 0 0 Q0 (F0 m 29 ls []) := by
      intro k_29
      induction k_29 with
      | zero =>
        intro i τ ba da la hik_29 hv0_29 hsp_29 H locs ls hW hl
        refine lv_iload hx hb dX6_bestReach_29 (lv_at hl 6 rfl) ?_
        refine x_gets hx hb hts hown hK.2.2.2.1 hW xw_741 dX6_bestReach_31 ?_
        refine lv_iconst (v := 1) hx hb dX6_bestReach_34 (by decide) ?_
        refine x_tald hx hb hK.2.2.2.1 hW 1 (by decide) (by decide) (by decide) dX6_bestReach_35 ?_
        refine lv_eqi (y := nI 60) (by decide) ?_
        refine lv_icmp_gt (tgt := 147) hx hb dX6_bestReach_36 (by decide) (fun c_2 => ?_) (fun c_2 => absurd (nI_lt (a := 60) (b := i) (by omega) (by omega)) c_2)
        refine lv_iload_n hx hb dX6_bestReach_147 rfl (lv_at hl 2 rfl) ?_
        obtain rfl : (va_up S 1 τ) = S' := by (rw [← ho0]) <;> (unfold sBest; rw [if_neg c_1, ← hsp_29]; rfl)
        obtain rfl : ba = res := by (rw [← hres]) <;> (unfold sBest; rw [if_neg c_1, ← hsp_29]; rfl)
        rw [hQ0]
        exact x_iret hx hb hret hlocks rfl hW rfl dX6_bestReach_148
      | succ k_29 ih_29 =>
        intro i τ ba da la hik_29 hv0_29 hsp_29 H locs ls hW hl
        refine lv_iload hx hb dX6_bestReach_29 (lv_at hl 6 rfl) ?_
        refine x_gets hx hb hts hown hK.2.2.2.1 hW xw_741 dX6_bestReach_31 ?_
        refine lv_iconst (v := 1) hx hb dX6_bestReach_34 (by decide) ?_
        refine x_tald hx hb hK.2.2.2.1 hW 1 (by decide) (by decide) (by decide) dX6_bestReach_35 ?_
        refine lv_eqi (y := nI 60) (by decide) ?_
        refine lv_icmp_gt (tgt := 147) hx hb dX6_bestReach_36 (by decide) (fun c_3 => absurd c_3 (nI_nlt (by omega) (by omega))) (fun c_3 => ?_)
        refine lv_iload hx hb dX6_bestReach_39 (lv_at hl 6 rfl) ?_
        refine lv_iload hx hb dX6_bestReach_41 (lv_at hl 5 rfl) ?_
        refine lv_icmp_le (tgt := 61) hx hb dX6_bestReach_43 (by decide) (fun c_4 => ?_) (fun c_4 => ?_)
        · skip
          refine lv_aload_n hx hb dX6_bestReach_61 rfl (lv_at hl 0 rfl) ?_
          refine r_getr (C := RX6) (T := TX6) hx hb hts hown hK hW (xF_mi5).1 (xF_mi5).2 inlX6 rfl (by decide) 1 (by decide) (show xro (xkey 11 5 0) 1 = some (xkey 1 0 0) from by decide +kernel) xw_17 rfl dX6_bestReach_62 ?_
          refine lv_aload_n hx hb dX6_bestReach_65 rfl (lv_at hl 0 rfl) ?_
          refine r_getr (C := RX6) (T := TX6) hx hb hts hown hK hW (xF_mi5).1 (xF_mi5).2 inlX6 rfl (by decide) 0 (by decide) (show xro (xkey 11 5 0) 0 = some (xkey 0 0 0) from by decide +kernel) xw_16 rfl dX6_bestReach_66 ?_
          have hW : XR X (xGl (va_up S 1 τ) (xMi sv hs pf sn nb) ρ) 1 (xSt (τ 0 0) (τ 1 0) (τ 2) (τ 3) (τ 4) (τ 5) (τ 6)) _ _ := XG.inS hW 1 τ (by decide) va_up_at
          refine x_callV hx hb hml hown hts hK hW hl.1 (c_X4_become l X _ (r := 1) (r2 := 0) (n2 := (cN (S 0))) (nh2 := (cH (S 0))) (nw2 := (cW (S 0))) (hr := (by decide)) (hr2 := (by decide)) (hne := (by omega)) (hn2 := (by rw [xGl_at (r := 0) (by decide), ((va_up_ne _ _ (show (0 : Nat) ≠ 1 by omega)).trans rfl)]; exact (hS 0 (by decide)).hn)) (hn2b := (hS 0 (by decide)).hn16) (hh2 := (by rw [xGl_at (r := 0) (by decide), ((va_up_ne _ _ (show (0 : Nat) ≠ 1 by omega)).trans rfl)]; exact (hS 0 (by decide)).hh)) (hh2b := (hS 0 (by decide)).hh8) (hw2 := (by rw [xGl_at (r := 0) (by decide), ((va_up_ne _ _ (show (0 : Nat) ≠ 1 by omega)).trans rfl)]; exact (hS 0 (by decide)).hw)) (hw2b := (hS 0 (by decide)).hw8) (hbo := (by rw [xGl_at (r := 0) (by decide), ((va_up_ne _ _ (show (0 : Nat) ≠ 1 by omega)).trans rfl)]; exact (hS 0 (by decide)).hbo)) (ho0 := rfl) (ho1 := rfl) (ho2 := rfl) (ho3 := rfl) (ho4 := rfl) (ho5 := rfl) (ho6 := rfl)) (xF_street 1 (by omega)).1 (xF_street 1 (by omega)).2.1 (by decide) rfl xw_719 xw_100 xw_101 xw_15 xw_102 hdV_yX4_become ⟨Nat.le_of_ble_eq_true rfl, Nat.le_of_ble_eq_true rfl⟩ rfl (Nat.le_of_ble_eq_true rfl) ⟨Nat.le_refl _, Nat.le_refl _⟩ dX6_bestReach_69 (fun H locs hW => ?_)
          have hW : XR X (xGl (va_up S 1 τ) (xMi sv hs pf sn nb) ρ) 1 (s_become (S 0) τ) H locs := by rw [xGl_at (r := 0) (by decide), ((va_up_ne _ _ (show (0 : Nat) ≠ 1 by omega)).trans rfl)] at hW; exact hW
          have hW : XG X (xGl (va_up S 1 (s_become (S 0) τ)) (xMi sv hs pf sn nb) ρ) H locs := by have h := XG.outS (by decide) hW; rw [xuu] at h; exact h
          have hk_5 : Sok (s_become (S 0) τ) := (Sok_become (hS 0 (by decide)) hv0_29)
          refine lv_aload_n hx hb dX6_bestReach_72 rfl (lv_at hl 0 rfl) ?_
          refine r_getr (C := RX6) (T := TX6) hx hb hts hown hK hW (xF_mi5).1 (xF_mi5).2 inlX6 rfl (by decide) 1 (by decide) (show xro (xkey 11 5 0) 1 = some (xkey 1 0 0) from by decide +kernel) xw_17 rfl dX6_bestReach_73 ?_
          refine lv_iconst (v := 1) hx hb dX6_bestReach_76 (by decide) ?_
          refine lv_iload hx hb dX6_bestReach_77 (lv_at hl 6 rfl) ?_
          have hW : XR X (xGl (va_up S 1 (s_become (S 0) τ)) (xMi sv hs pf sn nb) ρ) 1 (xSt ((s_become (S 0) τ) 0 0) ((s_become (S 0) τ) 1 0) ((s_become (S 0) τ) 2) ((s_become (S 0) τ) 3) ((s_become (S 0) τ) 4) ((s_become (S 0) τ) 5) ((s_become (S 0) τ) 6)) _ _ := XG.inS hW 1 (s_become (S 0) τ) (by decide) va_up_at
          refine x_callV hx hb hml hown hts hK hW hl.1 (c_X4_changeSetting l X _ (r := 1) (x := 1) (v := nI i) (hr := (by decide)) (ho0 := rfl) (hres := rfl)) (xF_street 1 (by omega)).1 (xF_street 1 (by omega)).2.1 (by decide) rfl xw_140 xw_141 xw_142 xw_15 xw_143 hdV_yX4_changeSetting ⟨Nat.le_of_ble_eq_true rfl, Nat.le_of_ble_eq_true rfl⟩ rfl (Nat.le_of_ble_eq_true rfl) ⟨Nat.le_refl _, Nat.le_refl _⟩ dX6_bestReach_79 (fun H locs hW => ?_)
          have hW : XR X (xGl (va_up S 1 (s_become (S 0) τ)) (xMi sv hs pf sn nb) ρ) 1 (s_changeSetting 1 (nI i) (s_become (S 0) τ)) H locs := hW
          have hW : XG X (xGl (va_up S 1 (s_changeSetting 1 (nI i) (s_become (S 0) τ))) (xMi sv hs pf sn nb) ρ) H locs := by have h := XG.outS (by decide) hW; rw [xuu] at h; exact h
          have hk_6 : Sok (s_changeSetting 1 (nI i) (s_become (S 0) τ)) := (Sok_changeSetting hk_5)
          refine lv_eqi (y := (r_changeSetting 1 (nI i) (s_become (S 0) τ))) rfl ?_
          refine lv_pop hx hb dX6_bestReach_82 rfl ?_
          refine lv_aload_n hx hb dX6_bestReach_83 rfl (lv_at hl 0 rfl) ?_
          refine r_getr (C := RX6) (T := TX6) hx hb hts hown hK hW (xF_mi5).1 (xF_mi5).2 inlX6 rfl (by decide) 1 (by decide) (show xro (xkey 11 5 0) 1 = some (xkey 1 0 0) from by decide +kernel) xw_17 rfl dX6_bestReach_84 ?_
          refine lv_iload_n hx hb dX6_bestReach_87 rfl (lv_at hl 1 rfl) ?_
          have hW : XR X (xGl (va_up S 1 (s_changeSetting 1 (nI i) (s_become (S 0) τ))) (xMi sv hs pf sn nb) ρ) 1 (xSt ((s_changeSetting 1 (nI i) (s_become (S 0) τ)) 0 0) ((s_changeSetting 1 (nI i) (s_become (S 0) τ)) 1 0) ((s_changeSetting 1 (nI i) (s_become (S 0) τ)) 2) ((s_changeSetting 1 (nI i) (s_become (S 0) τ)) 3) ((s_changeSetting 1 (nI i) (s_become (S 0) τ)) 4) ((s_changeSetting 1 (nI i) (s_become (S 0) τ)) 5) ((s_changeSetting 1 (nI i) (s_become (S 0) τ)) 6)) _ _ := XG.inS hW 1 (s_changeSetting 1 (nI i) (s_become (S 0) τ)) (by decide) va_up_at
          refine x_callV hx hb hml hown hts hK hW hl.1 (c_X4_letPass l X _ (r := 1) (n := (cN (s_changeSetting 1 (nI i) (s_become (S 0) τ)))) (nh := (cH (s_changeSetting 1 (nI i) (s_become (S 0) τ)))) (nw := (cW (s_changeSetting 1 (nI i) (s_become (S 0) τ)))) (x := x) (hr := (by decide)) (hn := hk_6.hn) (hn16 := hk_6.hn16) (hh := hk_6.hh) (hh8 := hk_6.hh8) (hw := hk_6.hw) (hw8 := hk_6.hw8) (ho0 := rfl) (ho1 := rfl) (ho2 := rfl) (ho3 := rfl) (ho4 := rfl) (ho5 := rfl) (hres := rfl)) (xF_street 1 (by omega)).1 (xF_street 1 (by omega)).2.1 (by decide) rfl xw_396 xw_397 xw_398 xw_15 xw_399 hdV_yX4_letPass ⟨Nat.le_of_ble_eq_true rfl, Nat.le_of_ble_eq_true rfl⟩ rfl (Nat.le_of_ble_eq_true rfl) ⟨Nat.le_refl _, Nat.le_refl _⟩ dX6_bestReach_88 (fun H locs hW => ?_)
          have hW : XR X (xGl (va_up S 1 (s_changeSetting 1 (nI i) (s_become (S 0) τ))) (xMi sv hs pf sn nb) ρ) 1 (s_letPass x (s_changeSetting 1 (nI i) (s_become (S 0) τ))) H locs := hW
          have hW : XG X (xGl (va_up S 1 (s_letPass x (s_changeSetting 1 (nI i) (s_become (S 0) τ)))) (xMi sv hs pf sn nb) ρ) H locs := by have h := XG.outS (by decide) hW; rw [xuu] at h; exact h
          have hk_7 : Sok (s_letPass x (s_changeSetting 1 (nI i) (s_become (S 0) τ))) := (Sok_letPass hk_6)
          refine lv_eqi (y := (r_letPass x (s_changeSetting 1 (nI i) (s_become (S 0) τ)))) rfl ?_
          refine lv_pop hx hb dX6_bestReach_91 rfl ?_
          refine lv_aload_n hx hb dX6_bestReach_92 rfl (lv_at hl 0 rfl) ?_
          refine lv_iconst (v := 0) hx hb dX6_bestReach_93 (by decide) ?_
          refine x_callV hx hb hml hown hts hK hW hl.1 (c_X6_broughtByTrial l X  (w := 0) (hS := (hS_up hS hk_7)) (hres := rfl)) (xF_mi5).1 (xF_mi5).2 (by decide) rfl xw_720 xw_721 xw_722 xw_2 xw_723 hdV_yX6_broughtByTrial ⟨Nat.le_of_ble_eq_true rfl, Nat.le_of_ble_eq_true rfl⟩ rfl (Nat.le_of_ble_eq_true rfl) ⟨Nat.le_refl _, Nat.le_refl _⟩ dX6_bestReach_94 (fun H locs hW => ?_)
          have hW : XG X (xGl (va_up S 1 (s_letPass x (s_changeSetting 1 (nI i) (s_become (S 0) τ)))) (xMi sv hs pf sn nb) ρ) H locs := hW
          refine lv_eqi (y := r_total 0 (s_letPass x (s_changeSetting 1 (nI i) (s_become (S 0) τ))) - r_total 0 (S 0)) rfl ?_
          refine lv_istore (lv' := [(7, .int (r_total 0 (s_letPass x (s_changeSetting 1 (nI i) (s_become (S 0) τ))) - r_total 0 (S 0))), (0, .ref (xB X + xkey 11 5 0)), (1, .int x), (2, .int ba), (3, .int da), (4, .int la), (5, .int (nI 1)), (6, .int (nI i))]) hx hb dX6_bestReach_97 hl (by decide) rfl (fun ls hl => ?_)
          refine lv_aload_n hx hb dX6_bestReach_99 rfl (lv_at hl 1 rfl) ?_
          refine lv_iconst (v := 1) hx hb dX6_bestReach_100 (by decide) ?_
          refine x_callV hx hb hml hown hts hK hW hl.1 (c_X6_broughtByTrial l X  (w := 1) (hS := (hS_up hS hk_7)) (hres := rfl)) (xF_mi5).1 (xF_mi5).2 (by decide) rfl xw_720 xw_721 xw_722 xw_2 xw_723 hdV_yX6_broughtByTrial ⟨Nat.le_of_ble_eq_true rfl, Nat.le_of_ble_eq_true rfl⟩ rfl (Nat.le_of_ble_eq_true rfl) ⟨Nat.le_refl _, Nat.le_refl _⟩ dX6_bestReach_101 (fun H locs hW => ?_)
          have hW : XG X (xGl (va_up S 1 (s_letPass x (s_changeSetting 1 (nI i) (s_become (S 0) τ)))) (xMi sv hs pf sn nb) ρ) H locs := hW
          refine lv_eqi (y := r_total 1 (s_letPass x (s_changeSetting 1 (nI i) (s_become (S 0) τ))) - r_total 1 (S 0)) rfl ?_
          refine lv_istore (lv' := [(8, .int (r_total 1 (s_letPass x (s_changeSetting 1 (nI i) (s_become (S 0) τ))) - r_total 1 (S 0))), (7, .int (r_total 0 (s_letPass x (s_changeSetting 1 (nI i) (s_become (S 0) τ))) - r_total 0 (S 0))), (0, .ref (xB X + xkey 11 5 0)), (1, .int x), (2, .int ba), (3, .int da), (4, .int la), (5, .int (nI 1)), (6, .int (nI i))]) hx hb dX6_bestReach_104 hl (by decide) rfl (fun ls hl => ?_)
          refine lv_iload_n hx hb dX6_bestReach_106 rfl (lv_at hl 4 rfl) ?_
          refine lv_bipush (v := (-6)) hx hb dX6_bestReach_107 (by decide) ?_
          refine lv_icmp_eq (tgt := 131) hx hb dX6_bestReach_109 (by decide) (fun c_8 => ?_) (fun c_8 => ?_)
          · skip
            refine lv_iload hx hb dX6_bestReach_131 (lv_at hl 8 rfl) ?_
            refine lv_istore_n (lv' := [(2, .int (nI i)), (8, .int (r_total 1 (s_letPass x (s_changeSetting 1 (nI i) (s_become (S 0) τ))) - r_total 1 (S 0))), (7, .int (r_total 0 (s_letPass x (s_changeSetting 1 (nI i) (s_become (S 0) τ))) - r_total 0 (S 0))), (0, .ref (xB X + xkey 11 5 0)), (1, .int x), (3, .int da), (4, .int la), (5, .int (nI 1)), (6, .int (nI i))]) hx hb dX6_bestReach_133 rfl hl (by decide) rfl (fun ls hl => ?_)
            refine lv_iload hx hb dX6_bestReach_134 (lv_at hl 2 rfl) ?_
            refine lv_istore_n (lv' := [(3, .int (r_total 0 (s_letPass x (s_changeSetting 1 (nI i) (s_become (S 0) τ))) - r_total 0 (S 0))), (2, .int (nI i)), (8, .int (r_total 1 (s_letPass x (s_changeSetting 1 (nI i) (s_become (S 0) τ))) - r_total 1 (S 0))), (7, .int (r_total 0 (s_letPass x (s_changeSetting 1 (nI i) (s_become (S 0) τ))) - r_total 0 (S 0))), (0, .ref (xB X + xkey 11 5 0)), (1, .int x), (4, .int la), (5, .int (nI 1)), (6, .int (nI i))]) hx hb dX6_bestReach_136 rfl hl (by decide) rfl (fun ls hl => ?_)
            refine lv_iload hx hb dX6_bestReach_137 (lv_at hl 2 rfl) ?_
            refine lv_istore (lv' := [(4, .int (r_total 1 (s_letPass x (s_changeSetting 1 (nI i) (s_become (S 0) τ))) - r_total 1 (S 0))), (3, .int (r_total 0 (s_letPass x (s_changeSetting 1 (nI i) (s_become (S 0) τ))) - r_total 0 (S 0))), (2, .int (nI i)), (8, .int (r_total 1 (s_letPass x (s_changeSetting 1 (nI i) (s_become (S 0) τ))) - r_total 1 (S 0))), (7, .int (r_total 0 (s_letPass x (s_changeSetting 1 (nI i) (s_become (S 0) τ))) - r_total 0 (S 0))), (0, .ref (xB X + xkey 11 5 0)), (1, .int x), (5, .int (nI 1)), (6, .int (nI i))]) hx hb dX6_bestReach_139 hl (by decide) rfl (fun ls hl => ?_)
            refine lv_iinc (v := nI (i + 1)) (lv' := [(6, .int (nI (i + 1))), (4, .int (r_total 1 (s_letPass x (s_changeSetting 1 (nI i) (s_become (S 0) τ))) - r_total 1 (S 0))), (3, .int (r_total 0 (s_letPass x (s_changeSetting 1 (nI i) (s_become (S 0) τ))) - r_total 0 (S 0))), (2, .int (nI i)), (8, .int (r_total 1 (s_letPass x (s_changeSetting 1 (nI i) (s_become (S 0) τ))) - r_total 1 (S 0))), (7, .int (r_total 0 (s_letPass x (s_changeSetting 1 (nI i) (s_become (S 0) τ))) - r_total 0 (S 0))), (0, .ref (xB X + xkey 11 5 0)), (1, .int x), (5, .int (nI 1))]) hx hb dX6_bestReach_141 hl (k := 8) rfl (nI_1 i) (by decide) rfl (fun ls hl => ?_)
            refine lv_goto (tgt := 29) hx hb dX6_bestReach_144 (by decide) ?_
            refine ih_29 (i + 1) (s_letPass x (s_changeSetting 1 (nI i) (s_become (S 0) τ))) (nI i) (r_total 0 (s_letPass x (s_changeSetting 1 (nI i) (s_become (S 0) τ))) - r_total 0 (S 0)) (r_total 1 (s_letPass x (s_changeSetting 1 (nI i) (s_become (S 0) τ))) - r_total 1 (S 0)) (by omega) hk_7 ?_ H locs ls hW (lv_sub hl [6, 7, 3, 2, 1, 8, 0] rfl)
            rw [← hsp_29]; simp [xloop, Fbest, xreach, c_1, c_3, c_4, Int32.not_lt.mpr c_4, c_8]
          · skip
            refine lv_iload hx hb dX6_bestReach_112 (lv_at hl 1 rfl) ?_
            refine lv_iload_n hx hb dX6_bestReach_114 rfl (lv_at hl 5 rfl) ?_
            refine lv_icmp_lt (tgt := 131) hx hb dX6_bestReach_115 (by decide) (fun c_9 => ?_) (fun c_9 => ?_)
            · skip
              refine lv_iload hx hb dX6_bestReach_131 (lv_at hl 8 rfl) ?_
              refine lv_istore_n (lv' := [(2, .int (nI i)), (8, .int (r_total 1 (s_letPass x (s_changeSetting 1 (nI i) (s_become (S 0) τ))) - r_total 1 (S 0))), (7, .int (r_total 0 (s_letPass x (s_changeSetting 1 (nI i) (s_become (S 0) τ))) - r_total 0 (S 0))), (0, .ref (xB X + xkey 11 5 0)), (1, .int x), (3, .int da), (4, .int la), (5, .int (nI 1)), (6, .int (nI i))]) hx hb dX6_bestReach_133 rfl hl (by decide) rfl (fun ls hl => ?_)
              refine lv_iload hx hb dX6_bestReach_134 (lv_at hl 2 rfl) ?_
              refine lv_istore_n (lv' := [(3, .int (r_total 0 (s_letPass x (s_changeSetting 1 (nI i) (s_become (S 0) τ))) - r_total 0 (S 0))), (2, .int (nI i)), (8, .int (r_total 1 (s_letPass x (s_changeSetting 1 (nI i) (s_become (S 0) τ))) - r_total 1 (S 0))), (7, .int (r_total 0 (s_letPass x (s_changeSetting 1 (nI i) (s_become (S 0) τ))) - r_total 0 (S 0))), (0, .ref (xB X + xkey 11 5 0)), (1, .int x), (4, .int la), (5, .int (nI 1)), (6, .int (nI i))]) hx hb dX6_bestReach_136 rfl hl (by decide) rfl (fun ls hl => ?_)
              refine lv_iload hx hb dX6_bestReach_137 (lv_at hl 2 rfl) ?_
              refine lv_istore (lv' := [(4, .int (r_total 1 (s_letPass x (s_changeSetting 1 (nI i) (s_become (S 0) τ))) - r_total 1 (S 0))), (3, .int (r_total 0 (s_letPass x (s_changeSetting 1 (nI i) (s_become (S 0) τ))) - r_total 0 (S 0))), (2, .int (nI i)), (8, .int (r_total 1 (s_letPass x (s_changeSetting 1 (nI i) (s_become (S 0) τ))) - r_total 1 (S 0))), (7, .int (r_total 0 (s_letPass x (s_changeSetting 1 (nI i) (s_become (S 0) τ))) - r_total 0 (S 0))), (0, .ref (xB X + xkey 11 5 0)), (1, .int x), (5, .int (nI 1)), (6, .int (nI i))]) hx hb dX6_bestReach_139 hl (by decide) rfl (fun ls hl => ?_)
              refine lv_iinc (v := nI (i + 1)) (lv' := [(6, .int (nI (i + 1))), (4, .int (r_total 1 (s_letPass x (s_changeSetting 1 (nI i) (s_become (S 0) τ))) - r_total 1 (S 0))), (3, .int (r_total 0 (s_letPass x (s_changeSetting 1 (nI i) (s_become (S 0) τ))) - r_total 0 (S 0))), (2, .int (nI i)), (8, .int (r_total 1 (s_letPass x (s_changeSetting 1 (nI i) (s_become (S 0) τ))) - r_total 1 (S 0))), (7, .int (r_total 0 (s_letPass x (s_changeSetting 1 (nI i) (s_become (S 0) τ))) - r_total 0 (S 0))), (0, .ref (xB X + xkey 11 5 0)), (1, .int x), (5, .int (nI 1))]) hx hb dX6_bestReach_141 hl (k := 8) rfl (nI_1 i) (by decide) rfl (fun ls hl => ?_)
              refine lv_goto (tgt := 29) hx hb dX6_bestReach_144 (by decide) ?_
              refine ih_29 (i + 1) (s_letPass x (s_changeSetting 1 (nI i) (s_become (S 0) τ))) (nI i) (r_total 0 (s_letPass x (s_changeSetting 1 (nI i) (s_become (S 0) τ))) - r_total 0 (S 0)) (r_total 1 (s_letPass x (s_changeSetting 1 (nI i) (s_become (S 0) τ))) - r_total 1 (S 0)) (by omega) hk_7 ?_ H locs ls hW (lv_sub hl [6, 7, 3, 2, 1, 8, 0] rfl)
              rw [← hsp_29]; simp [xloop, Fbest, xreach, c_1, c_3, c_4, Int32.not_lt.mpr c_4, c_8, c_9, Int32.not_le.mpr c_9]
            · skip
              refine lv_iload hx hb dX6_bestReach_118 (lv_at hl 1 rfl) ?_
              refine lv_iload_n hx hb dX6_bestReach_120 rfl (lv_at hl 5 rfl) ?_
              refine lv_icmp_ne (tgt := 141) hx hb dX6_bestReach_121 (by decide) (fun c_10 => ?_) (fun c_10 => ?_)
              · skip
                refine lv_iinc (v := nI (i + 1)) (lv' := [(6, .int (nI (i + 1))), (8, .int (r_total 1 (s_letPass x (s_changeSetting 1 (nI i) (s_become (S 0) τ))) - r_total 1 (S 0))), (7, .int (r_total 0 (s_letPass x (s_changeSetting 1 (nI i) (s_become (S 0) τ))) - r_total 0 (S 0))), (0, .ref (xB X + xkey 11 5 0)), (1, .int x), (2, .int ba), (3, .int da), (4, .int la), (5, .int (nI 1))]) hx hb dX6_bestReach_141 hl (k := 8) rfl (nI_1 i) (by decide) rfl (fun ls hl => ?_)
                refine lv_goto (tgt := 29) hx hb dX6_bestReach_144 (by decide) ?_
                refine ih_29 (i + 1) (s_letPass x (s_changeSetting 1 (nI i) (s_become (S 0) τ))) ba da la (by omega) hk_7 ?_ H locs ls hW (lv_sub hl [3, 4, 5, 6, 7, 8, 0] rfl)
                rw [← hsp_29]; simp [xloop, Fbest, xreach, c_1, c_3, c_4, Int32.not_lt.mpr c_4, c_8, c_9, Int32.not_lt.mp c_9, c_10]
              · skip
                refine lv_iload hx hb dX6_bestReach_124 (lv_at hl 0 rfl) ?_
                refine lv_iload hx hb dX6_bestReach_126 (lv_at hl 6 rfl) ?_
                refine lv_icmp_ge (tgt := 141) hx hb dX6_bestReach_128 (by decide) (fun c_11 => ?_) (fun c_11 => ?_)
                · skip
                  refine lv_iinc (v := nI (i + 1)) (lv' := [(6, .int (nI (i + 1))), (8, .int (r_total 1 (s_letPass x (s_changeSetting 1 (nI i) (s_become (S 0) τ))) - r_total 1 (S 0))), (7, .int (r_total 0 (s_letPass x (s_changeSetting 1 (nI i) (s_become (S 0) τ))) - r_total 0 (S 0))), (0, .ref (xB X + xkey 11 5 0)), (1, .int x), (2, .int ba), (3, .int da), (4, .int la), (5, .int (nI 1))]) hx hb dX6_bestReach_141 hl (k := 8) rfl (nI_1 i) (by decide) rfl (fun ls hl => ?_)
                  refine lv_goto (tgt := 29) hx hb dX6_bestReach_144 (by decide) ?_
                  refine ih_29 (i + 1) (s_letPass x (s_changeSetting 1 (nI i) (s_become (S 0) τ))) ba da la (by omega) hk_7 ?_ H locs ls hW (lv_sub hl [3, 4, 5, 6, 7, 8, 0] rfl)
                  rw [← hsp_29]; simp [xloop, Fbest, xreach, c_1, c_3, c_4, Int32.not_lt.mpr c_4, c_8, c_9, Int32.not_lt.mp c_9, c_10, c_11, Int32.not_lt.mpr c_11]
                · skip
                  refine lv_iload hx hb dX6_bestReach_131 (lv_at hl 8 rfl) ?_
                  refine lv_istore_n (lv' := [(2, .int (nI i)), (8, .int (r_total 1 (s_letPass x (s_changeSetting 1 (nI i) (s_become (S 0) τ))) - r_total 1 (S 0))), (7, .int (r_total 0 (s_letPass x (s_changeSetting 1 (nI i) (s_become (S 0) τ))) - r_total 0 (S 0))), (0, .ref (xB X + xkey 11 5 0)), (1, .int x), (3, .int da), (4, .int la), (5, .int (nI 1)), (6, .int (nI i))]) hx hb dX6_bestReach_133 rfl hl (by decide) rfl (fun ls hl => ?_)
                  refine lv_iload hx hb dX6_bestReach_134 (lv_at hl 2 rfl) ?_
                  refine lv_istore_n (lv' := [(3, .int (r_total 0 (s_letPass x (s_changeSetting 1 (nI i) (s_become (S 0) τ))) - r_total 0 (S 0))), (2, .int (nI i)), (8, .int (r_total 1 (s_letPass x (s_changeSetting 1 (nI i) (s_become (S 0) τ))) - r_total 1 (S 0))), (7, .int (r_total 0 (s_letPass x (s_changeSetting 1 (nI i) (s_become (S 0) τ))) - r_total 0 (S 0))), (0, .ref (xB X + xkey 11 5 0)), (1, .int x), (4, .int la), (5, .int (nI 1)), (6, .int (nI i))]) hx hb dX6_bestReach_136 rfl hl (by decide) rfl (fun ls hl => ?_)
                  refine lv_iload hx hb dX6_bestReach_137 (lv_at hl 2 rfl) ?_
                  refine lv_istore (lv' := [(4, .int (r_total 1 (s_letPass x (s_changeSetting 1 (nI i) (s_become (S 0) τ))) - r_total 1 (S 0))), (3, .int (r_total 0 (s_letPass x (s_changeSetting 1 (nI i) (s_become (S 0) τ))) - r_total 0 (S 0))), (2, .int (nI i)), (8, .int (r_total 1 (s_letPass x (s_changeSetting 1 (nI i) (s_become (S 0) τ))) - r_total 1 (S 0))), (7, .int (r_total 0 (s_letPass x (s_changeSetting 1 (nI i) (s_become (S 0) τ))) - r_total 0 (S 0))), (0, .ref (xB X + xkey 11 5 0)), (1, .int x), (5, .int (nI 1)), (6, .int (nI i))]) hx hb dX6_bestReach_139 hl (by decide) rfl (fun ls hl => ?_)
                  refine lv_iinc (v := nI (i + 1)) (lv' := [(6, .int (nI (i + 1))), (4, .int (r_total 1 (s_letPass x (s_changeSetting 1 (nI i) (s_become (S 0) τ))) - r_total 1 (S 0))), (3, .int (r_total 0 (s_letPass x (s_changeSetting 1 (nI i) (s_become (S 0) τ))) - r_total 0 (S 0))), (2, .int (nI i)), (8, .int (r_total 1 (s_letPass x (s_changeSetting 1 (nI i) (s_become (S 0) τ))) - r_total 1 (S 0))), (7, .int (r_total 0 (s_letPass x (s_changeSetting 1 (nI i) (s_become (S 0) τ))) - r_total 0 (S 0))), (0, .ref (xB X + xkey 11 5 0)), (1, .int x), (5, .int (nI 1))]) hx hb dX6_bestReach_141 hl (k := 8) rfl (nI_1 i) (by decide) rfl (fun ls hl => ?_)
                  refine lv_goto (tgt := 29) hx hb dX6_bestReach_144 (by decide) ?_
                  refine ih_29 (i + 1) (s_letPass x (s_changeSetting 1 (nI i) (s_become (S 0) τ))) (nI i) (r_total 0 (s_letPass x (s_changeSetting 1 (nI i) (s_become (S 0) τ))) - r_total 0 (S 0)) (r_total 1 (s_letPass x (s_changeSetting 1 (nI i) (s_become (S 0) τ))) - r_total 1 (S 0)) (by omega) hk_7 ?_ H locs ls hW (lv_sub hl [6, 7, 3, 2, 1, 8, 0] rfl)
                  rw [← hsp_29]; simp [xloop, Fbest, xreach, c_1, c_3, c_4, Int32.not_lt.mpr c_4, c_8, c_9, Int32.not_lt.mp c_9, c_10, c_11, Int32.not_le.mp c_11]
        · skip
          refine lv_aload_n hx hb dX6_bestReach_46 rfl (lv_at hl 0 rfl) ?_
          refine r_getr (C := RX6) (T := TX6) hx hb hts hown hK hW (xF_mi5).1 (xF_mi5).2 inlX6 rfl (by decide) 0 (by decide) (show xro (xkey 11 5 0) 0 = some (xkey 0 0 0) from by decide +kernel) xw_16 rfl dX6_bestReach_47 ?_
          refine lv_iload hx hb dX6_bestReach_50 (lv_at hl 6 rfl) ?_
          have hW : XR X (xGl (va_up S 1 τ) (xMi sv hs pf sn nb) ρ) 0 (xSt ((S 0) 0 0) ((S 0) 1 0) ((S 0) 2) ((S 0) 3) ((S 0) 4) ((S 0) 5) ((S 0) 6)) _ _ := XG.inS hW 0 (S 0) (by decide) ((va_up_ne _ _ (show (0 : Nat) ≠ 1 by omega)).trans rfl)
          refine x_callV hx hb hml hown hts hK hW hl.1 (c_X4_hasLampsApart l X _ (r := 0) (n := (cN (S 0))) (x := nI i) (hr := (by decide)) (hn := (hS 0 (by decide)).hn) (hn16 := (hS 0 (by decide)).hn16) (hres := rfl)) (xF_street 0 (by omega)).1 (xF_street 0 (by omega)).2.1 (by decide) rfl xw_742 xw_743 xw_744 xw_15 xw_745 hdV_yX4_hasLampsApart ⟨Nat.le_of_ble_eq_true rfl, Nat.le_of_ble_eq_true rfl⟩ rfl (Nat.le_of_ble_eq_true rfl) ⟨Nat.le_refl _, Nat.le_refl _⟩ dX6_bestReach_52 (fun H locs hW => ?_)
          have hW : XG X (xGl (va_up S 1 τ) (xMi sv hs pf sn nb) ρ) H locs := XG.unS (σ := (S 0)) (by decide) ((va_up_ne _ _ (show (0 : Nat) ≠ 1 by omega)).trans rfl) hW
          refine lv_eqi (y := (r_hasLampsApart (nI i) (S 0))) rfl ?_
          refine lv_if_ne (tgt := 61) hx hb dX6_bestReach_55 (by decide) (fun c_12 => ?_) (fun c_12 => ?_)
          · skip
            refine lv_aload_n hx hb dX6_bestReach_61 rfl (lv_at hl 0 rfl) ?_
            refine r_getr (C := RX6) (T := TX6) hx hb hts hown hK hW (xF_mi5).1 (xF_mi5).2 inlX6 rfl (by decide) 1 (by decide) (show xro (xkey 11 5 0) 1 = some (xkey 1 0 0) from by decide +kernel) xw_17 rfl dX6_bestReach_62 ?_
            refine lv_aload_n hx hb dX6_bestReach_65 rfl (lv_at hl 0 rfl) ?_
            refine r_getr (C := RX6) (T := TX6) hx hb hts hown hK hW (xF_mi5).1 (xF_mi5).2 inlX6 rfl (by decide) 0 (by decide) (show xro (xkey 11 5 0) 0 = some (xkey 0 0 0) from by decide +kernel) xw_16 rfl dX6_bestReach_66 ?_
            have hW : XR X (xGl (va_up S 1 τ) (xMi sv hs pf sn nb) ρ) 1 (xSt (τ 0 0) (τ 1 0) (τ 2) (τ 3) (τ 4) (τ 5) (τ 6)) _ _ := XG.inS hW 1 τ (by decide) va_up_at
            refine x_callV hx hb hml hown hts hK hW hl.1 (c_X4_become l X _ (r := 1) (r2 := 0) (n2 := (cN (S 0))) (nh2 := (cH (S 0))) (nw2 := (cW (S 0))) (hr := (by decide)) (hr2 := (by decide)) (hne := (by omega)) (hn2 := (by rw [xGl_at (r := 0) (by decide), ((va_up_ne _ _ (show (0 : Nat) ≠ 1 by omega)).trans rfl)]; exact (hS 0 (by decide)).hn)) (hn2b := (hS 0 (by decide)).hn16) (hh2 := (by rw [xGl_at (r := 0) (by decide), ((va_up_ne _ _ (show (0 : Nat) ≠ 1 by omega)).trans rfl)]; exact (hS 0 (by decide)).hh)) (hh2b := (hS 0 (by decide)).hh8) (hw2 := (by rw [xGl_at (r := 0) (by decide), ((va_up_ne _ _ (show (0 : Nat) ≠ 1 by omega)).trans rfl)]; exact (hS 0 (by decide)).hw)) (hw2b := (hS 0 (by decide)).hw8) (hbo := (by rw [xGl_at (r := 0) (by decide), ((va_up_ne _ _ (show (0 : Nat) ≠ 1 by omega)).trans rfl)]; exact (hS 0 (by decide)).hbo)) (ho0 := rfl) (ho1 := rfl) (ho2 := rfl) (ho3 := rfl) (ho4 := rfl) (ho5 := rfl) (ho6 := rfl)) (xF_street 1 (by omega)).1 (xF_street 1 (by omega)).2.1 (by decide) rfl xw_719 xw_100 xw_101 xw_15 xw_102 hdV_yX4_become ⟨Nat.le_of_ble_eq_true rfl, Nat.le_of_ble_eq_true rfl⟩ rfl (Nat.le_of_ble_eq_true rfl) ⟨Nat.le_refl _, Nat.le_refl _⟩ dX6_bestReach_69 (fun H locs hW => ?_)
            have hW : XR X (xGl (va_up S 1 τ) (xMi sv hs pf sn nb) ρ) 1 (s_become (S 0) τ) H locs := by rw [xGl_at (r := 0) (by decide), ((va_up_ne _ _ (show (0 : Nat) ≠ 1 by omega)).trans rfl)] at hW; exact hW
            have hW : XG X (xGl (va_up S 1 (s_become (S 0) τ)) (xMi sv hs pf sn nb) ρ) H locs := by have h := XG.outS (by decide) hW; rw [xuu] at h; exact h
            have hk_13 : Sok (s_become (S 0) τ) := (Sok_become (hS 0 (by decide)) hv0_29)
            refine lv_aload_n hx hb dX6_bestReach_72 rfl (lv_at hl 0 rfl) ?_
            refine r_getr (C := RX6) (T := TX6) hx hb hts hown hK hW (xF_mi5).1 (xF_mi5).2 inlX6 rfl (by decide) 1 (by decide) (show xro (xkey 11 5 0) 1 = some (xkey 1 0 0) from by decide +kernel) xw_17 rfl dX6_bestReach_73 ?_
            refine lv_iconst (v := 1) hx hb dX6_bestReach_76 (by decide) ?_
            refine lv_iload hx hb dX6_bestReach_77 (lv_at hl 6 rfl) ?_
            have hW : XR X (xGl (va_up S 1 (s_become (S 0) τ)) (xMi sv hs pf sn nb) ρ) 1 (xSt ((s_become (S 0) τ) 0 0) ((s_become (S 0) τ) 1 0) ((s_become (S 0) τ) 2) ((s_become (S 0) τ) 3) ((s_become (S 0) τ) 4) ((s_become (S 0) τ) 5) ((s_become (S 0) τ) 6)) _ _ := XG.inS hW 1 (s_become (S 0) τ) (by decide) va_up_at
            refine x_callV hx hb hml hown hts hK hW hl.1 (c_X4_changeSetting l X _ (r := 1) (x := 1) (v := nI i) (hr := (by decide)) (ho0 := rfl) (hres := rfl)) (xF_street 1 (by omega)).1 (xF_street 1 (by omega)).2.1 (by decide) rfl xw_140 xw_141 xw_142 xw_15 xw_143 hdV_yX4_changeSetting ⟨Nat.le_of_ble_eq_true rfl, Nat.le_of_ble_eq_true rfl⟩ rfl (Nat.le_of_ble_eq_true rfl) ⟨Nat.le_refl _, Nat.le_refl _⟩ dX6_bestReach_79 (fun H locs hW => ?_)
            have hW : XR X (xGl (va_up S 1 (s_become (S 0) τ)) (xMi sv hs pf sn nb) ρ) 1 (s_changeSetting 1 (nI i) (s_become (S 0) τ)) H locs := hW
            have hW : XG X (xGl (va_up S 1 (s_changeSetting 1 (nI i) (s_become (S 0) τ))) (xMi sv hs pf sn nb) ρ) H locs := by have h := XG.outS (by decide) hW; rw [xuu] at h; exact h
            have hk_14 : Sok (s_changeSetting 1 (nI i) (s_become (S 0) τ)) := (Sok_changeSetting hk_13)
            refine lv_eqi (y := (r_changeSetting 1 (nI i) (s_become (S 0) τ))) rfl ?_
            refine lv_pop hx hb dX6_bestReach_82 rfl ?_
            refine lv_aload_n hx hb dX6_bestReach_83 rfl (lv_at hl 0 rfl) ?_
            refine r_getr (C := RX6) (T := TX6) hx hb hts hown hK hW (xF_mi5).1 (xF_mi5).2 inlX6 rfl (by decide) 1 (by decide) (show xro (xkey 11 5 0) 1 = some (xkey 1 0 0) from by decide +kernel) xw_17 rfl dX6_bestReach_84 ?_
            refine lv_iload_n hx hb dX6_bestReach_87 rfl (lv_at hl 1 rfl) ?_
            have hW : XR X (xGl (va_up S 1 (s_changeSetting 1 (nI i) (s_become (S 0) τ))) (xMi sv hs pf sn nb) ρ) 1 (xSt ((s_changeSetting 1 (nI i) (s_become (S 0) τ)) 0 0) ((s_changeSetting 1 (nI i) (s_become (S 0) τ)) 1 0) ((s_changeSetting 1 (nI i) (s_become (S 0) τ)) 2) ((s_changeSetting 1 (nI i) (s_become (S 0) τ)) 3) ((s_changeSetting 1 (nI i) (s_become (S 0) τ)) 4) ((s_changeSetting 1 (nI i) (s_become (S 0) τ)) 5) ((s_changeSetting 1 (nI i) (s_become (S 0) τ)) 6)) _ _ := XG.inS hW 1 (s_changeSetting 1 (nI i) (s_become (S 0) τ)) (by decide) va_up_at
            refine x_callV hx hb hml hown hts hK hW hl.1 (c_X4_letPass l X _ (r := 1) (n := (cN (s_changeSetting 1 (nI i) (s_become (S 0) τ)))) (nh := (cH (s_changeSetting 1 (nI i) (s_become (S 0) τ)))) (nw := (cW (s_changeSetting 1 (nI i) (s_become (S 0) τ)))) (x := x) (hr := (by decide)) (hn := hk_14.hn) (hn16 := hk_14.hn16) (hh := hk_14.hh) (hh8 := hk_14.hh8) (hw := hk_14.hw) (hw8 := hk_14.hw8) (ho0 := rfl) (ho1 := rfl) (ho2 := rfl) (ho3 := rfl) (ho4 := rfl) (ho5 := rfl) (hres := rfl)) (xF_street 1 (by omega)).1 (xF_street 1 (by omega)).2.1 (by decide) rfl xw_396 xw_397 xw_398 xw_15 xw_399 hdV_yX4_letPass ⟨Nat.le_of_ble_eq_true rfl, Nat.le_of_ble_eq_true rfl⟩ rfl (Nat.le_of_ble_eq_true rfl) ⟨Nat.le_refl _, Nat.le_refl _⟩ dX6_bestReach_88 (fun H locs hW => ?_)
            have hW : XR X (xGl (va_up S 1 (s_changeSetting 1 (nI i) (s_become (S 0) τ))) (xMi sv hs pf sn nb) ρ) 1 (s_letPass x (s_changeSetting 1 (nI i) (s_become (S 0) τ))) H locs := hW
            have hW : XG X (xGl (va_up S 1 (s_letPass x (s_changeSetting 1 (nI i) (s_become (S 0) τ)))) (xMi sv hs pf sn nb) ρ) H locs := by have h := XG.outS (by decide) hW; rw [xuu] at h; exact h
            have hk_15 : Sok (s_letPass x (s_changeSetting 1 (nI i) (s_become (S 0) τ))) := (Sok_letPass hk_14)
            refine lv_eqi (y := (r_letPass x (s_changeSetting 1 (nI i) (s_become (S 0) τ)))) rfl ?_
            refine lv_pop hx hb dX6_bestReach_91 rfl ?_
            refine lv_aload_n hx hb dX6_bestReach_92 rfl (lv_at hl 0 rfl) ?_
            refine lv_iconst (v := 0) hx hb dX6_bestReach_93 (by decide) ?_
            refine x_callV hx hb hml hown hts hK hW hl.1 (c_X6_broughtByTrial l X  (w := 0) (hS := (hS_up hS hk_15)) (hres := rfl)) (xF_mi5).1 (xF_mi5).2 (by decide) rfl xw_720 xw_721 xw_722 xw_2 xw_723 hdV_yX6_broughtByTrial ⟨Nat.le_of_ble_eq_true rfl, Nat.le_of_ble_eq_true rfl⟩ rfl (Nat.le_of_ble_eq_true rfl) ⟨Nat.le_refl _, Nat.le_refl _⟩ dX6_bestReach_94 (fun H locs hW => ?_)
            have hW : XG X (xGl (va_up S 1 (s_letPass x (s_changeSetting 1 (nI i) (s_become (S 0) τ)))) (xMi sv hs pf sn nb) ρ) H locs := hW
            refine lv_eqi (y := r_total 0 (s_letPass x (s_changeSetting 1 (nI i) (s_become (S 0) τ))) - r_total 0 (S 0)) rfl ?_
            refine lv_istore (lv' := [(7, .int (r_total 0 (s_letPass x (s_changeSetting 1 (nI i) (s_become (S 0) τ))) - r_total 0 (S 0))), (0, .ref (xB X + xkey 11 5 0)), (1, .int x), (2, .int ba), (3, .int da), (4, .int la), (5, .int (nI 1)), (6, .int (nI i))]) hx hb dX6_bestReach_97 hl (by decide) rfl (fun ls hl => ?_)
            refine lv_aload_n hx hb dX6_bestReach_99 rfl (lv_at hl 1 rfl) ?_
            refine lv_iconst (v := 1) hx hb dX6_bestReach_100 (by decide) ?_
            refine x_callV hx hb hml hown hts hK hW hl.1 (c_X6_broughtByTrial l X  (w := 1) (hS := (hS_up hS hk_15)) (hres := rfl)) (xF_mi5).1 (xF_mi5).2 (by decide) rfl xw_720 xw_721 xw_722 xw_2 xw_723 hdV_yX6_broughtByTrial ⟨Nat.le_of_ble_eq_true rfl, Nat.le_of_ble_eq_true rfl⟩ rfl (Nat.le_of_ble_eq_true rfl) ⟨Nat.le_refl _, Nat.le_refl _⟩ dX6_bestReach_101 (fun H locs hW => ?_)
            have hW : XG X (xGl (va_up S 1 (s_letPass x (s_changeSetting 1 (nI i) (s_become (S 0) τ)))) (xMi sv hs pf sn nb) ρ) H locs := hW
            refine lv_eqi (y := r_total 1 (s_letPass x (s_changeSetting 1 (nI i) (s_become (S 0) τ))) - r_total 1 (S 0)) rfl ?_
            refine lv_istore (lv' := [(8, .int (r_total 1 (s_letPass x (s_changeSetting 1 (nI i) (s_become (S 0) τ))) - r_total 1 (S 0))), (7, .int (r_total 0 (s_letPass x (s_changeSetting 1 (nI i) (s_become (S 0) τ))) - r_total 0 (S 0))), (0, .ref (xB X + xkey 11 5 0)), (1, .int x), (2, .int ba), (3, .int da), (4, .int la), (5, .int (nI 1)), (6, .int (nI i))]) hx hb dX6_bestReach_104 hl (by decide) rfl (fun ls hl => ?_)
            refine lv_iload_n hx hb dX6_bestReach_106 rfl (lv_at hl 4 rfl) ?_
            refine lv_bipush (v := (-6)) hx hb dX6_bestReach_107 (by decide) ?_
            refine lv_icmp_eq (tgt := 131) hx hb dX6_bestReach_109 (by decide) (fun c_16 => ?_) (fun c_16 => ?_)
            · skip
              refine lv_iload hx hb dX6_bestReach_131 (lv_at hl 8 rfl) ?_
              refine lv_istore_n (lv' := [(2, .int (nI i)), (8, .int (r_total 1 (s_letPass x (s_changeSetting 1 (nI i) (s_become (S 0) τ))) - r_total 1 (S 0))), (7, .int (r_total 0 (s_letPass x (s_changeSetting 1 (nI i) (s_become (S 0) τ))) - r_total 0 (S 0))), (0, .ref (xB X + xkey 11 5 0)), (1, .int x), (3, .int da), (4, .int la), (5, .int (nI 1)), (6, .int (nI i))]) hx hb dX6_bestReach_133 rfl hl (by decide) rfl (fun ls hl => ?_)
              refine lv_iload hx hb dX6_bestReach_134 (lv_at hl 2 rfl) ?_
              refine lv_istore_n (lv' := [(3, .int (r_total 0 (s_letPass x (s_changeSetting 1 (nI i) (s_become (S 0) τ))) - r_total 0 (S 0))), (2, .int (nI i)), (8, .int (r_total 1 (s_letPass x (s_changeSetting 1 (nI i) (s_become (S 0) τ))) - r_total 1 (S 0))), (7, .int (r_total 0 (s_letPass x (s_changeSetting 1 (nI i) (s_become (S 0) τ))) - r_total 0 (S 0))), (0, .ref (xB X + xkey 11 5 0)), (1, .int x), (4, .int la), (5, .int (nI 1)), (6, .int (nI i))]) hx hb dX6_bestReach_136 rfl hl (by decide) rfl (fun ls hl => ?_)
              refine lv_iload hx hb dX6_bestReach_137 (lv_at hl 2 rfl) ?_
              refine lv_istore (lv' := [(4, .int (r_total 1 (s_letPass x (s_changeSetting 1 (nI i) (s_become (S 0) τ))) - r_total 1 (S 0))), (3, .int (r_total 0 (s_letPass x (s_changeSetting 1 (nI i) (s_become (S 0) τ))) - r_total 0 (S 0))), (2, .int (nI i)), (8, .int (r_total 1 (s_letPass x (s_changeSetting 1 (nI i) (s_become (S 0) τ))) - r_total 1 (S 0))), (7, .int (r_total 0 (s_letPass x (s_changeSetting 1 (nI i) (s_become (S 0) τ))) - r_total 0 (S 0))), (0, .ref (xB X + xkey 11 5 0)), (1, .int x), (5, .int (nI 1)), (6, .int (nI i))]) hx hb dX6_bestReach_139 hl (by decide) rfl (fun ls hl => ?_)
              refine lv_iinc (v := nI (i + 1)) (lv' := [(6, .int (nI (i + 1))), (4, .int (r_total 1 (s_letPass x (s_changeSetting 1 (nI i) (s_become (S 0) τ))) - r_total 1 (S 0))), (3, .int (r_total 0 (s_letPass x (s_changeSetting 1 (nI i) (s_become (S 0) τ))) - r_total 0 (S 0))), (2, .int (nI i)), (8, .int (r_total 1 (s_letPass x (s_changeSetting 1 (nI i) (s_become (S 0) τ))) - r_total 1 (S 0))), (7, .int (r_total 0 (s_letPass x (s_changeSetting 1 (nI i) (s_become (S 0) τ))) - r_total 0 (S 0))), (0, .ref (xB X + xkey 11 5 0)), (1, .int x), (5, .int (nI 1))]) hx hb dX6_bestReach_141 hl (k := 8) rfl (nI_1 i) (by decide) rfl (fun ls hl => ?_)
              refine lv_goto (tgt := 29) hx hb dX6_bestReach_144 (by decide) ?_
              refine ih_29 (i + 1) (s_letPass x (s_changeSetting 1 (nI i) (s_become (S 0) τ))) (nI i) (r_total 0 (s_letPass x (s_changeSetting 1 (nI i) (s_become (S 0) τ))) - r_total 0 (S 0)) (r_total 1 (s_letPass x (s_changeSetting 1 (nI i) (s_become (S 0) τ))) - r_total 1 (S 0)) (by omega) hk_15 ?_ H locs ls hW (lv_sub hl [6, 7, 3, 2, 1, 8, 0] rfl)
              rw [← hsp_29]; simp [xloop, Fbest, xreach, c_1, c_3, c_4, Int32.not_le.mp c_4, c_12, c_16]
            · skip
              refine lv_iload hx hb dX6_bestReach_112 (lv_at hl 1 rfl) ?_
              refine lv_iload_n hx hb dX6_bestReach_114 rfl (lv_at hl 5 rfl) ?_
              refine lv_icmp_lt (tgt := 131) hx hb dX6_bestReach_115 (by decide) (fun c_17 => ?_) (fun c_17 => ?_)
              · skip
                refine lv_iload hx hb dX6_bestReach_131 (lv_at hl 8 rfl) ?_
                refine lv_istore_n (lv' := [(2, .int (nI i)), (8, .int (r_total 1 (s_letPass x (s_changeSetting 1 (nI i) (s_become (S 0) τ))) - r_total 1 (S 0))), (7, .int (r_total 0 (s_letPass x (s_changeSetting 1 (nI i) (s_become (S 0) τ))) - r_total 0 (S 0))), (0, .ref (xB X + xkey 11 5 0)), (1, .int x), (3, .int da), (4, .int la), (5, .int (nI 1)), (6, .int (nI i))]) hx hb dX6_bestReach_133 rfl hl (by decide) rfl (fun ls hl => ?_)
                refine lv_iload hx hb dX6_bestReach_134 (lv_at hl 2 rfl) ?_
                refine lv_istore_n (lv' := [(3, .int (r_total 0 (s_letPass x (s_changeSetting 1 (nI i) (s_become (S 0) τ))) - r_total 0 (S 0))), (2, .int (nI i)), (8, .int (r_total 1 (s_letPass x (s_changeSetting 1 (nI i) (s_become (S 0) τ))) - r_total 1 (S 0))), (7, .int (r_total 0 (s_letPass x (s_changeSetting 1 (nI i) (s_become (S 0) τ))) - r_total 0 (S 0))), (0, .ref (xB X + xkey 11 5 0)), (1, .int x), (4, .int la), (5, .int (nI 1)), (6, .int (nI i))]) hx hb dX6_bestReach_136 rfl hl (by decide) rfl (fun ls hl => ?_)
                refine lv_iload hx hb dX6_bestReach_137 (lv_at hl 2 rfl) ?_
                refine lv_istore (lv' := [(4, .int (r_total 1 (s_letPass x (s_changeSetting 1 (nI i) (s_become (S 0) τ))) - r_total 1 (S 0))), (3, .int (r_total 0 (s_letPass x (s_changeSetting 1 (nI i) (s_become (S 0) τ))) - r_total 0 (S 0))), (2, .int (nI i)), (8, .int (r_total 1 (s_letPass x (s_changeSetting 1 (nI i) (s_become (S 0) τ))) - r_total 1 (S 0))), (7, .int (r_total 0 (s_letPass x (s_changeSetting 1 (nI i) (s_become (S 0) τ))) - r_total 0 (S 0))), (0, .ref (xB X + xkey 11 5 0)), (1, .int x), (5, .int (nI 1)), (6, .int (nI i))]) hx hb dX6_bestReach_139 hl (by decide) rfl (fun ls hl => ?_)
                refine lv_iinc (v := nI (i + 1)) (lv' := [(6, .int (nI (i + 1))), (4, .int (r_total 1 (s_letPass x (s_changeSetting 1 (nI i) (s_become (S 0) τ))) - r_total 1 (S 0))), (3, .int (r_total 0 (s_letPass x (s_changeSetting 1 (nI i) (s_become (S 0) τ))) - r_total 0 (S 0))), (2, .int (nI i)), (8, .int (r_total 1 (s_letPass x (s_changeSetting 1 (nI i) (s_become (S 0) τ))) - r_total 1 (S 0))), (7, .int (r_total 0 (s_letPass x (s_changeSetting 1 (nI i) (s_become (S 0) τ))) - r_total 0 (S 0))), (0, .ref (xB X + xkey 11 5 0)), (1, .int x), (5, .int (nI 1))]) hx hb dX6_bestReach_141 hl (k := 8) rfl (nI_1 i) (by decide) rfl (fun ls hl => ?_)
                refine lv_goto (tgt := 29) hx hb dX6_bestReach_144 (by decide) ?_
                refine ih_29 (i + 1) (s_letPass x (s_changeSetting 1 (nI i) (s_become (S 0) τ))) (nI i) (r_total 0 (s_letPass x (s_changeSetting 1 (nI i) (s_become (S 0) τ))) - r_total 0 (S 0)) (r_total 1 (s_letPass x (s_changeSetting 1 (nI i) (s_become (S 0) τ))) - r_total 1 (S 0)) (by omega) hk_15 ?_ H locs ls hW (lv_sub hl [6, 7, 3, 2, 1, 8, 0] rfl)
                rw [← hsp_29]; simp [xloop, Fbest, xreach, c_1, c_3, c_4, Int32.not_le.mp c_4, c_12, c_16, c_17, Int32.not_le.mpr c_17]
              · skip
                refine lv_iload hx hb dX6_bestReach_118 (lv_at hl 1 rfl) ?_
                refine lv_iload_n hx hb dX6_bestReach_120 rfl (lv_at hl 5 rfl) ?_
                refine lv_icmp_ne (tgt := 141) hx hb dX6_bestReach_121 (by decide) (fun c_18 => ?_) (fun c_18 => ?_)
                · skip
                  refine lv_iinc (v := nI (i + 1)) (lv' := [(6, .int (nI (i + 1))), (8, .int (r_total 1 (s_letPass x (s_changeSetting 1 (nI i) (s_become (S 0) τ))) - r_total 1 (S 0))), (7, .int (r_total 0 (s_letPass x (s_changeSetting 1 (nI i) (s_become (S 0) τ))) - r_total 0 (S 0))), (0, .ref (xB X + xkey 11 5 0)), (1, .int x), (2, .int ba), (3, .int da), (4, .int la), (5, .int (nI 1))]) hx hb dX6_bestReach_141 hl (k := 8) rfl (nI_1 i) (by decide) rfl (fun ls hl => ?_)
                  refine lv_goto (tgt := 29) hx hb dX6_bestReach_144 (by decide) ?_
                  refine ih_29 (i + 1) (s_letPass x (s_changeSetting 1 (nI i) (s_become (S 0) τ))) ba da la (by omega) hk_15 ?_ H locs ls hW (lv_sub hl [3, 4, 5, 6, 7, 8, 0] rfl)
                  rw [← hsp_29]; simp [xloop, Fbest, xreach, c_1, c_3, c_4, Int32.not_le.mp c_4, c_12, c_16, c_17, Int32.not_lt.mp c_17, c_18]
                · skip
                  refine lv_iload hx hb dX6_bestReach_124 (lv_at hl 0 rfl) ?_
                  refine lv_iload hx hb dX6_bestReach_126 (lv_at hl 6 rfl) ?_
                  refine lv_icmp_ge (tgt := 141) hx hb dX6_bestReach_128 (by decide) (fun c_19 => ?_) (fun c_19 => ?_)
                  · skip
                    refine lv_iinc (v := nI (i + 1)) (lv' := [(6, .int (nI (i + 1))), (8, .int (r_total 1 (s_letPass x (s_changeSetting 1 (nI i) (s_become (S 0) τ))) - r_total 1 (S 0))), (7, .int (r_total 0 (s_letPass x (s_changeSetting 1 (nI i) (s_become (S 0) τ))) - r_total 0 (S 0))), (0, .ref (xB X + xkey 11 5 0)), (1, .int x), (2, .int ba), (3, .int da), (4, .int la), (5, .int (nI 1))]) hx hb dX6_bestReach_141 hl (k := 8) rfl (nI_1 i) (by decide) rfl (fun ls hl => ?_)
                    refine lv_goto (tgt := 29) hx hb dX6_bestReach_144 (by decide) ?_
                    refine ih_29 (i + 1) (s_letPass x (s_changeSetting 1 (nI i) (s_become (S 0) τ))) ba da la (by omega) hk_15 ?_ H locs ls hW (lv_sub hl [3, 4, 5, 6, 7, 8, 0] rfl)
                    rw [← hsp_29]; simp [xloop, Fbest, xreach, c_1, c_3, c_4, Int32.not_le.mp c_4, c_12, c_16, c_17, Int32.not_lt.mp c_17, c_18, c_19, Int32.not_lt.mpr c_19]
                  · skip
                    refine lv_iload hx hb dX6_bestReach_131 (lv_at hl 8 rfl) ?_
                    refine lv_istore_n (lv' := [(2, .int (nI i)), (8, .int (r_total 1 (s_letPass x (s_changeSetting 1 (nI i) (s_become (S 0) τ))) - r_total 1 (S 0))), (7, .int (r_total 0 (s_letPass x (s_changeSetting 1 (nI i) (s_become (S 0) τ))) - r_total 0 (S 0))), (0, .ref (xB X + xkey 11 5 0)), (1, .int x), (3, .int da), (4, .int la), (5, .int (nI 1)), (6, .int (nI i))]) hx hb dX6_bestReach_133 rfl hl (by decide) rfl (fun ls hl => ?_)
                    refine lv_iload hx hb dX6_bestReach_134 (lv_at hl 2 rfl) ?_
                    refine lv_istore_n (lv' := [(3, .int (r_total 0 (s_letPass x (s_changeSetting 1 (nI i) (s_become (S 0) τ))) - r_total 0 (S 0))), (2, .int (nI i)), (8, .int (r_total 1 (s_letPass x (s_changeSetting 1 (nI i) (s_become (S 0) τ))) - r_total 1 (S 0))), (7, .int (r_total 0 (s_letPass x (s_changeSetting 1 (nI i) (s_become (S 0) τ))) - r_total 0 (S 0))), (0, .ref (xB X + xkey 11 5 0)), (1, .int x), (4, .int la), (5, .int (nI 1)), (6, .int (nI i))]) hx hb dX6_bestReach_136 rfl hl (by decide) rfl (fun ls hl => ?_)
                    refine lv_iload hx hb dX6_bestReach_137 (lv_at hl 2 rfl) ?_
                    refine lv_istore (lv' := [(4, .int (r_total 1 (s_letPass x (s_changeSetting 1 (nI i) (s_become (S 0) τ))) - r_total 1 (S 0))), (3, .int (r_total 0 (s_letPass x (s_changeSetting 1 (nI i) (s_become (S 0) τ))) - r_total 0 (S 0))), (2, .int (nI i)), (8, .int (r_total 1 (s_letPass x (s_changeSetting 1 (nI i) (s_become (S 0) τ))) - r_total 1 (S 0))), (7, .int (r_total 0 (s_letPass x (s_changeSetting 1 (nI i) (s_become (S 0) τ))) - r_total 0 (S 0))), (0, .ref (xB X + xkey 11 5 0)), (1, .int x), (5, .int (nI 1)), (6, .int (nI i))]) hx hb dX6_bestReach_139 hl (by decide) rfl (fun ls hl => ?_)
                    refine lv_iinc (v := nI (i + 1)) (lv' := [(6, .int (nI (i + 1))), (4, .int (r_total 1 (s_letPass x (s_changeSetting 1 (nI i) (s_become (S 0) τ))) - r_total 1 (S 0))), (3, .int (r_total 0 (s_letPass x (s_changeSetting 1 (nI i) (s_become (S 0) τ))) - r_total 0 (S 0))), (2, .int (nI i)), (8, .int (r_total 1 (s_letPass x (s_changeSetting 1 (nI i) (s_become (S 0) τ))) - r_total 1 (S 0))), (7, .int (r_total 0 (s_letPass x (s_changeSetting 1 (nI i) (s_become (S 0) τ))) - r_total 0 (S 0))), (0, .ref (xB X + xkey 11 5 0)), (1, .int x), (5, .int (nI 1))]) hx hb dX6_bestReach_141 hl (k := 8) rfl (nI_1 i) (by decide) rfl (fun ls hl => ?_)
                    refine lv_goto (tgt := 29) hx hb dX6_bestReach_144 (by decide) ?_
                    refine ih_29 (i + 1) (s_letPass x (s_changeSetting 1 (nI i) (s_become (S 0) τ))) (nI i) (r_total 0 (s_letPass x (s_changeSetting 1 (nI i) (s_become (S 0) τ))) - r_total 0 (S 0)) (r_total 1 (s_letPass x (s_changeSetting 1 (nI i) (s_become (S 0) τ))) - r_total 1 (S 0)) (by omega) hk_15 ?_ H locs ls hW (lv_sub hl [6, 7, 3, 2, 1, 8, 0] rfl)
                    rw [← hsp_29]; simp [xloop, Fbest, xreach, c_1, c_3, c_4, Int32.not_le.mp c_4, c_12, c_16, c_17, Int32.not_lt.mp c_17, c_18, c_19, Int32.not_le.mp c_19]
          · skip
            refine lv_goto (tgt := 141) hx hb dX6_bestReach_58 (by decide) ?_
            refine lv_iinc (v := nI (i + 1)) (lv' := [(6, .int (nI (i + 1))), (0, .ref (xB X + xkey 11 5 0)), (1, .int x), (2, .int ba), (3, .int da), (4, .int la), (5, .int (nI 1))]) hx hb dX6_bestReach_141 hl (k := 6) rfl (nI_1 i) (by decide) rfl (fun ls hl => ?_)
            refine lv_goto (tgt := 29) hx hb dX6_bestReach_144 (by decide) ?_
            refine ih_29 (i + 1) τ ba da la (by omega) hv0_29 ?_ H locs ls hW (lv_sub hl [1, 2, 3, 4, 5, 6, 0] rfl)
            rw [← hsp_29]; simp [xloop, Fbest, xreach, c_1, c_3, c_4, Int32.not_le.mp c_4, c_12]
    exact loop_29 60 1 (S 1) (-6) 0 0 (by omega) (hS 1 (by decide)) rfl _ _ _ hW (lv_sub hl [5, 6, 4, 3, 2, 1, 0] rfl)
  · skip
    refine lv_bipush (v := (-2)) hx hb dX6_bestReach_7 (by decide) ?_
    obtain rfl : S = S' := by (rw [← ho0]) <;> ((simp [sBest, c_1]) <;> exact xus.symm)
    obtain rfl : (-2) = res := by (rw [← hres]) <;> ((simp [sBest, c_1]) <;> exact xus.symm)
    rw [hQ0]
    exact x_iret hx hb hret hlocks rfl hW rfl dX6_bestReach_9
set_option maxHeartbeats 4000000 in
set_option maxRecDepth 100000 in
theorem c_X6_needless (l : Launch) (X : xX) {S : Nat → xS} {sv hs pf sn nb : Nat → Int32} {ρ : xS}  (hS : ∀ r, r < 11 → Sok (S r)) {S' : Nat → xS} (ho0 : (va_up S 1 (sNeed (S 0) (S 1)).1) = S') {res : Int32} (hres : ((sNeed (S 0) (S 1)).2) = res) : XC l yX6_needless cX6_needless 4 (some .int) 6 145 0 0 X xsh [.ref (xB X + xkey 11 5 0)] 603 603 (xval (xB X) (xGl S (xMi sv hs pf sn nb) ρ)) (xval (xB X) (xGl S' (xMi sv hs pf sn nb) ρ)) (some (.int res)) := by
  refine XC.of RX6 "needless" [(0, .ref (xB X + xkey 11 5 0))] (by decide) rfl rfl (Nat.le_of_ble_eq_true rfl) rfl ?_
  intro p e s m args below meth c ls hx hb hret hml hts hown hlocks hnm hK hW hl
  have hW : XG X (xGl S (xMi sv hs pf sn nb) ρ) s.heap [] := hW
  obtain ⟨Q0, hQ0⟩ : ∃ z, z = MQ below (xQ X xsh 603 (xval (xB X) (xGl S' (xMi sv hs pf sn nb) ρ)) (some (.int res))) args s 0 0 (fun q => xB X ≤ q) := ⟨_, rfl⟩
  rw [← hQ0]
  have hn7 := (hS 0 (by decide)).hn16
  refine lv_aload_n hx hb dX6_needless_0 rfl (lv_at hl 0 rfl) ?_
  refine r_getr (C := RX6) (T := TX6) hx hb hts hown hK hW (xF_mi5).1 (xF_mi5).2 inlX6 rfl (by decide) 1 (by decide) (show xro (xkey 11 5 0) 1 = some (xkey 1 0 0) from by decide +kernel) xw_17 rfl dX6_needless_1 ?_
  refine lv_aload_n hx hb dX6_needless_4 rfl (lv_at hl 0 rfl) ?_
  refine r_getr (C := RX6) (T := TX6) hx hb hts hown hK hW (xF_mi5).1 (xF_mi5).2 inlX6 rfl (by decide) 0 (by decide) (show xro (xkey 11 5 0) 0 = some (xkey 0 0 0) from by decide +kernel) xw_16 rfl dX6_needless_5 ?_
  have hW : XR X (xGl S (xMi sv hs pf sn nb) ρ) 1 (xSt ((S 1) 0 0) ((S 1) 1 0) ((S 1) 2) ((S 1) 3) ((S 1) 4) ((S 1) 5) ((S 1) 6)) _ _ := XG.inS hW 1 (S 1) (by decide) rfl
  refine x_callV hx hb hml hown hts hK hW hl.1 (c_X4_become l X _ (r := 1) (r2 := 0) (n2 := (cN (S 0))) (nh2 := (cH (S 0))) (nw2 := (cW (S 0))) (hr := (by decide)) (hr2 := (by decide)) (hne := (by omega)) (hn2 := (by rw [xGl_at (r := 0) (by decide)]; exact (hS 0 (by decide)).hn)) (hn2b := (hS 0 (by decide)).hn16) (hh2 := (by rw [xGl_at (r := 0) (by decide)]; exact (hS 0 (by decide)).hh)) (hh2b := (hS 0 (by decide)).hh8) (hw2 := (by rw [xGl_at (r := 0) (by decide)]; exact (hS 0 (by decide)).hw)) (hw2b := (hS 0 (by decide)).hw8) (hbo := (by rw [xGl_at (r := 0) (by decide)]; exact (hS 0 (by decide)).hbo)) (ho0 := rfl) (ho1 := rfl) (ho2 := rfl) (ho3 := rfl) (ho4 := rfl) (ho5 := rfl) (ho6 := rfl)) (xF_street 1 (by omega)).1 (xF_street 1 (by omega)).2.1 (by decide) rfl xw_719 xw_100 xw_101 xw_15 xw_102 hdV_yX4_become ⟨Nat.le_of_ble_eq_true rfl, Nat.le_of_ble_eq_true rfl⟩ rfl (Nat.le_of_ble_eq_true rfl) ⟨Nat.le_refl _, Nat.le_refl _⟩ dX6_needless_8 (fun H locs hW => ?_)
  have hW : XR X (xGl S (xMi sv hs pf sn nb) ρ) 1 (s_become (S 0) (S 1)) H locs := by rw [xGl_at (r := 0) (by decide)] at hW; exact hW
  have hW : XG X (xGl (va_up S 1 (s_become (S 0) (S 1))) (xMi sv hs pf sn nb) ρ) H locs := by have h := XG.outS (by decide) hW; exact h
  have hk_1 : Sok (s_become (S 0) (S 1)) := (Sok_become (hS 0 (by decide)) (hS 1 (by decide)))
  refine lv_aload_n hx hb dX6_needless_11 rfl (lv_at hl 0 rfl) ?_
  refine r_getr (C := RX6) (T := TX6) hx hb hts hown hK hW (xF_mi5).1 (xF_mi5).2 inlX6 rfl (by decide) 1 (by decide) (show xro (xkey 11 5 0) 1 = some (xkey 1 0 0) from by decide +kernel) xw_17 rfl dX6_needless_12 ?_
  refine lv_bipush (v := 100) hx hb dX6_needless_15 (by decide) ?_
  have hW : XR X (xGl (va_up S 1 (s_become (S 0) (S 1))) (xMi sv hs pf sn nb) ρ) 1 (xSt ((s_become (S 0) (S 1)) 0 0) ((s_become (S 0) (S 1)) 1 0) ((s_become (S 0) (S 1)) 2) ((s_become (S 0) (S 1)) 3) ((s_become (S 0) (S 1)) 4) ((s_become (S 0) (S 1)) 5) ((s_become (S 0) (S 1)) 6)) _ _ := XG.inS hW 1 (s_become (S 0) (S 1)) (by decide) va_up_at
  refine x_callV hx hb hml hown hts hK hW hl.1 (c_X4_letPass l X _ (r := 1) (n := (cN (s_become (S 0) (S 1)))) (nh := (cH (s_become (S 0) (S 1)))) (nw := (cW (s_become (S 0) (S 1)))) (x := 100) (hr := (by decide)) (hn := hk_1.hn) (hn16 := hk_1.hn16) (hh := hk_1.hh) (hh8 := hk_1.hh8) (hw := hk_1.hw) (hw8 := hk_1.hw8) (ho0 := rfl) (ho1 := rfl) (ho2 := rfl) (ho3 := rfl) (ho4 := rfl) (ho5 := rfl) (hres := rfl)) (xF_street 1 (by omega)).1 (xF_street 1 (by omega)).2.1 (by decide) rfl xw_396 xw_397 xw_398 xw_15 xw_399 hdV_yX4_letPass ⟨Nat.le_of_ble_eq_true rfl, Nat.le_of_ble_eq_true rfl⟩ rfl (Nat.le_of_ble_eq_true rfl) ⟨Nat.le_refl _, Nat.le_refl _⟩ dX6_needless_17 (fun H locs hW => ?_)
  have hW : XR X (xGl (va_up S 1 (s_become (S 0) (S 1))) (xMi sv hs pf sn nb) ρ) 1 (s_letPass 100 (s_become (S 0) (S 1))) H locs := hW
  have hW : XG X (xGl (va_up S 1 (s_letPass 100 (s_become (S 0) (S 1)))) (xMi sv hs pf sn nb) ρ) H locs := by have h := XG.outS (by decide) hW; rw [xuu] at h; exact h
  have hk_2 : Sok (s_letPass 100 (s_become (S 0) (S 1))) := (Sok_letPass hk_1)
  refine lv_eqi (y := (r_letPass 100 (s_become (S 0) (S 1)))) rfl ?_
  refine lv_pop hx hb dX6_needless_20 rfl ?_
  refine lv_aload_n hx hb dX6_needless_21 rfl (lv_at hl 0 rfl) ?_
  refine lv_iconst (v := 0) hx hb dX6_needless_22 (by decide) ?_
  refine x_callV hx hb hml hown hts hK hW hl.1 (c_X6_broughtByTrial l X  (w := 0) (hS := (hS_up hS hk_2)) (hres := rfl)) (xF_mi5).1 (xF_mi5).2 (by decide) rfl xw_720 xw_721 xw_722 xw_2 xw_723 hdV_yX6_broughtByTrial ⟨Nat.le_of_ble_eq_true rfl, Nat.le_of_ble_eq_true rfl⟩ rfl (Nat.le_of_ble_eq_true rfl) ⟨Nat.le_refl _, Nat.le_refl _⟩ dX6_needless_23 (fun H locs hW => ?_)
  have hW : XG X (xGl (va_up S 1 (s_letPass 100 (s_become (S 0) (S 1)))) (xMi sv hs pf sn nb) ρ) H locs := hW
  refine lv_eqi (y := r_total 0 (s_letPass 100 (s_become (S 0) (S 1))) - r_total 0 (S 0)) rfl ?_
  refine lv_istore_n (lv' := [(1, .int (r_total 0 (s_letPass 100 (s_become (S 0) (S 1))) - r_total 0 (S 0))), (0, .ref (xB X + xkey 11 5 0))]) hx hb dX6_needless_26 rfl hl (by decide) rfl (fun ls hl => ?_)
  refine lv_iconst (v := 0) hx hb dX6_needless_27 (by decide) ?_
  refine lv_istore_n (lv' := [(2, .int 0), (1, .int (r_total 0 (s_letPass 100 (s_become (S 0) (S 1))) - r_total 0 (S 0))), (0, .ref (xB X + xkey 11 5 0))]) hx hb dX6_needless_28 rfl hl (by decide) rfl (fun ls hl => ?_)
  refine lv_iconst (v := nI 0) hx hb dX6_needless_29 (by decide) ?_
  refine lv_istore_n (lv' := [(3, .int (nI 0)), (2, .int 0), (1, .int (r_total 0 (s_letPass 100 (s_become (S 0) (S 1))) - r_total 0 (S 0))), (0, .ref (xB X + xkey 11 5 0))]) hx hb dX6_needless_30 rfl hl (by decide) rfl (fun ls hl => ?_)
  have loop_31 : ∀ (k_31 i : Nat) (τ : xS) (ba : Int32), i + k_31 = cN (S 0) → Sok τ → xloop (Fneed (S 0) (r_total 0 (s_letPass 100 (s_become (S 0) (S 1))) - r_total 0 (S 0))) k_31 i (τ, ba) = xloop (Fneed (S 0) (r_total 0 (s_letPass 100 (s_become (S 0) (S 1))) - r_total 0 (S 0))) (cN (S 0)) 0 ((s_letPass 100 (s_become (S 0) (S 1))), 0) → ∀ (H : Heap) (locs : List Loc) (ls : Array Slot), XG X (xGl (va_up S 1 τ) (xMi sv hs pf sn nb) ρ) H locs → lv_has ls 4 [(0, .ref (xB X + xkey 11 5 0)), (1, .int (r_total 0 (s_letPass 100 (s_become (S 0) (S 1))) - r_total 0 (S 0))), (2, .int ba), (3, .int (nI i))] → W p l e { frames := 6, cells := 0, slots := 0, locals := 145 } s m args below meth c H locs 0 0 Q0 (F0 m 31 ls []) := by
    intro k_31
    induction k_31 with
    | zero =>
      intro i τ ba hik_31 hv0_31 hsp_31 H locs ls hW hl
      refine lv_iload_n hx hb dX6_needless_31 rfl (lv_at hl 3 rfl) ?_
      refine lv_aload_n hx hb dX6_needless_32 rfl (lv_at hl 0 rfl) ?_
      refine r_getr (C := RX6) (T := TX6) hx hb hts hown hK hW (xF_mi5).1 (xF_mi5).2 inlX6 rfl (by decide) 0 (by decide) (show xro (xkey 11 5 0) 0 = some (xkey 0 0 0) from by decide +kernel) xw_16 rfl dX6_needless_33 ?_
      refine r_get hx hb hts hown hK (XG.rdS hW 0 (S 0) (by decide) ((va_up_ne _ _ (show (0 : Nat) ≠ 1 by omega)).trans rfl)) (C := RX4) (T := TX4) (xF_street 0 (by omega)) inlX4 rfl (by decide) 4 (by decide) (xr_street 0 (by omega)).2.2.2.2.1 xw_632 rfl (x := nI (cN (S 0))) (hS 0 (by decide)).hn dX6_needless_36 ?_
      refine lv_icmp_ge (tgt := 94) hx hb dX6_needless_39 (by decide) (fun c_3 => ?_) (fun c_3 => absurd (xge_refl (by omega)) c_3)
      refine lv_iload_n hx hb dX6_needless_94 rfl (lv_at hl 2 rfl) ?_
      obtain rfl : (va_up S 1 τ) = S' := by (rw [← ho0]) <;> (unfold sNeed sTry; rw [← hsp_31]; rfl)
      obtain rfl : ba = res := by (rw [← hres]) <;> (unfold sNeed sTry; rw [← hsp_31]; rfl)
      rw [hQ0]
      exact x_iret hx hb hret hlocks rfl hW rfl dX6_needless_95
    | succ k_31 ih_31 =>
      intro i τ ba hik_31 hv0_31 hsp_31 H locs ls hW hl
      refine lv_iload_n hx hb dX6_needless_31 rfl (lv_at hl 3 rfl) ?_
      refine lv_aload_n hx hb dX6_needless_32 rfl (lv_at hl 0 rfl) ?_
      refine r_getr (C := RX6) (T := TX6) hx hb hts hown hK hW (xF_mi5).1 (xF_mi5).2 inlX6 rfl (by decide) 0 (by decide) (show xro (xkey 11 5 0) 0 = some (xkey 0 0 0) from by decide +kernel) xw_16 rfl dX6_needless_33 ?_
      refine r_get hx hb hts hown hK (XG.rdS hW 0 (S 0) (by decide) ((va_up_ne _ _ (show (0 : Nat) ≠ 1 by omega)).trans rfl)) (C := RX4) (T := TX4) (xF_street 0 (by omega)) inlX4 rfl (by decide) 4 (by decide) (xr_street 0 (by omega)).2.2.2.2.1 xw_632 rfl (x := nI (cN (S 0))) (hS 0 (by decide)).hn dX6_needless_36 ?_
      refine lv_icmp_ge (tgt := 94) hx hb dX6_needless_39 (by decide) (fun c_4 => absurd c_4 (nI_ge (by omega) (by omega))) (fun c_4 => ?_)
      refine lv_aload_n hx hb dX6_needless_42 rfl (lv_at hl 0 rfl) ?_
      refine r_getr (C := RX6) (T := TX6) hx hb hts hown hK hW (xF_mi5).1 (xF_mi5).2 inlX6 rfl (by decide) 1 (by decide) (show xro (xkey 11 5 0) 1 = some (xkey 1 0 0) from by decide +kernel) xw_17 rfl dX6_needless_43 ?_
      refine lv_aload_n hx hb dX6_needless_46 rfl (lv_at hl 0 rfl) ?_
      refine r_getr (C := RX6) (T := TX6) hx hb hts hown hK hW (xF_mi5).1 (xF_mi5).2 inlX6 rfl (by decide) 0 (by decide) (show xro (xkey 11 5 0) 0 = some (xkey 0 0 0) from by decide +kernel) xw_16 rfl dX6_needless_47 ?_
      have hW : XR X (xGl (va_up S 1 τ) (xMi sv hs pf sn nb) ρ) 1 (xSt (τ 0 0) (τ 1 0) (τ 2) (τ 3) (τ 4) (τ 5) (τ 6)) _ _ := XG.inS hW 1 τ (by decide) va_up_at
      refine x_callV hx hb hml hown hts hK hW hl.1 (c_X4_become l X _ (r := 1) (r2 := 0) (n2 := (cN (S 0))) (nh2 := (cH (S 0))) (nw2 := (cW (S 0))) (hr := (by decide)) (hr2 := (by decide)) (hne := (by omega)) (hn2 := (by rw [xGl_at (r := 0) (by decide), ((va_up_ne _ _ (show (0 : Nat) ≠ 1 by omega)).trans rfl)]; exact (hS 0 (by decide)).hn)) (hn2b := (hS 0 (by decide)).hn16) (hh2 := (by rw [xGl_at (r := 0) (by decide), ((va_up_ne _ _ (show (0 : Nat) ≠ 1 by omega)).trans rfl)]; exact (hS 0 (by decide)).hh)) (hh2b := (hS 0 (by decide)).hh8) (hw2 := (by rw [xGl_at (r := 0) (by decide), ((va_up_ne _ _ (show (0 : Nat) ≠ 1 by omega)).trans rfl)]; exact (hS 0 (by decide)).hw)) (hw2b := (hS 0 (by decide)).hw8) (hbo := (by rw [xGl_at (r := 0) (by decide), ((va_up_ne _ _ (show (0 : Nat) ≠ 1 by omega)).trans rfl)]; exact (hS 0 (by decide)).hbo)) (ho0 := rfl) (ho1 := rfl) (ho2 := rfl) (ho3 := rfl) (ho4 := rfl) (ho5 := rfl) (ho6 := rfl)) (xF_street 1 (by omega)).1 (xF_street 1 (by omega)).2.1 (by decide) rfl xw_719 xw_100 xw_101 xw_15 xw_102 hdV_yX4_become ⟨Nat.le_of_ble_eq_true rfl, Nat.le_of_ble_eq_true rfl⟩ rfl (Nat.le_of_ble_eq_true rfl) ⟨Nat.le_refl _, Nat.le_refl _⟩ dX6_needless_50 (fun H locs hW => ?_)
      have hW : XR X (xGl (va_up S 1 τ) (xMi sv hs pf sn nb) ρ) 1 (s_become (S 0) τ) H locs := by rw [xGl_at (r := 0) (by decide), ((va_up_ne _ _ (show (0 : Nat) ≠ 1 by omega)).trans rfl)] at hW; exact hW
      have hW : XG X (xGl (va_up S 1 (s_become (S 0) τ)) (xMi sv hs pf sn nb) ρ) H locs := by have h := XG.outS (by decide) hW; rw [xuu] at h; exact h
      have hk_5 : Sok (s_become (S 0) τ) := (Sok_become (hS 0 (by decide)) hv0_31)
      refine lv_aload_n hx hb dX6_needless_53 rfl (lv_at hl 0 rfl) ?_
      refine r_getr (C := RX6) (T := TX6) hx hb hts hown hK hW (xF_mi5).1 (xF_mi5).2 inlX6 rfl (by decide) 1 (by decide) (show xro (xkey 11 5 0) 1 = some (xkey 1 0 0) from by decide +kernel) xw_17 rfl dX6_needless_54 ?_
      refine lv_iload_n hx hb dX6_needless_57 rfl (lv_at hl 3 rfl) ?_
      refine lv_iconst (v := 2) hx hb dX6_needless_58 (by decide) ?_
      have hW : XR X (xGl (va_up S 1 (s_become (S 0) τ)) (xMi sv hs pf sn nb) ρ) 1 (xSt ((s_become (S 0) τ) 0 0) ((s_become (S 0) τ) 1 0) ((s_become (S 0) τ) 2) ((s_become (S 0) τ) 3) ((s_become (S 0) τ) 4) ((s_become (S 0) τ) 5) ((s_become (S 0) τ) 6)) _ _ := XG.inS hW 1 (s_become (S 0) τ) (by decide) va_up_at
      refine x_callV hx hb hml hown hts hK hW hl.1 (c_X4_mendLamp l X _ (r := 1) (n := (cN (s_become (S 0) τ))) (x := nI i) (h := 2) (hr := (by decide)) (hn := hk_5.hn) (hn16 := hk_5.hn16) (ho0 := rfl) (hres := rfl)) (xF_street 1 (by omega)).1 (xF_street 1 (by omega)).2.1 (by decide) rfl xw_290 xw_291 xw_292 xw_15 xw_293 hdV_yX4_mendLamp ⟨Nat.le_of_ble_eq_true rfl, Nat.le_of_ble_eq_true rfl⟩ rfl (Nat.le_of_ble_eq_true rfl) ⟨Nat.le_refl _, Nat.le_refl _⟩ dX6_needless_59 (fun H locs hW => ?_)
      have hW : XR X (xGl (va_up S 1 (s_become (S 0) τ)) (xMi sv hs pf sn nb) ρ) 1 (s_mendLamp (nI i) 2 (s_become (S 0) τ)) H locs := hW
      have hW : XG X (xGl (va_up S 1 (s_mendLamp (nI i) 2 (s_become (S 0) τ))) (xMi sv hs pf sn nb) ρ) H locs := by have h := XG.outS (by decide) hW; rw [xuu] at h; exact h
      have hk_6 : Sok (s_mendLamp (nI i) 2 (s_become (S 0) τ)) := (Sok_mendLamp hk_5)
      refine lv_eqi (y := (r_mendLamp (nI i) 2 (s_become (S 0) τ))) rfl ?_
      refine lv_pop hx hb dX6_needless_62 rfl ?_
      refine lv_aload_n hx hb dX6_needless_63 rfl (lv_at hl 0 rfl) ?_
      refine r_getr (C := RX6) (T := TX6) hx hb hts hown hK hW (xF_mi5).1 (xF_mi5).2 inlX6 rfl (by decide) 1 (by decide) (show xro (xkey 11 5 0) 1 = some (xkey 1 0 0) from by decide +kernel) xw_17 rfl dX6_needless_64 ?_
      refine lv_bipush (v := 100) hx hb dX6_needless_67 (by decide) ?_
      have hW : XR X (xGl (va_up S 1 (s_mendLamp (nI i) 2 (s_become (S 0) τ))) (xMi sv hs pf sn nb) ρ) 1 (xSt ((s_mendLamp (nI i) 2 (s_become (S 0) τ)) 0 0) ((s_mendLamp (nI i) 2 (s_become (S 0) τ)) 1 0) ((s_mendLamp (nI i) 2 (s_become (S 0) τ)) 2) ((s_mendLamp (nI i) 2 (s_become (S 0) τ)) 3) ((s_mendLamp (nI i) 2 (s_become (S 0) τ)) 4) ((s_mendLamp (nI i) 2 (s_become (S 0) τ)) 5) ((s_mendLamp (nI i) 2 (s_become (S 0) τ)) 6)) _ _ := XG.inS hW 1 (s_mendLamp (nI i) 2 (s_become (S 0) τ)) (by decide) va_up_at
      refine x_callV hx hb hml hown hts hK hW hl.1 (c_X4_letPass l X _ (r := 1) (n := (cN (s_mendLamp (nI i) 2 (s_become (S 0) τ)))) (nh := (cH (s_mendLamp (nI i) 2 (s_become (S 0) τ)))) (nw := (cW (s_mendLamp (nI i) 2 (s_become (S 0) τ)))) (x := 100) (hr := (by decide)) (hn := hk_6.hn) (hn16 := hk_6.hn16) (hh := hk_6.hh) (hh8 := hk_6.hh8) (hw := hk_6.hw) (hw8 := hk_6.hw8) (ho0 := rfl) (ho1 := rfl) (ho2 := rfl) (ho3 := rfl) (ho4 := rfl) (ho5 := rfl) (hres := rfl)) (xF_street 1 (by omega)).1 (xF_street 1 (by omega)).2.1 (by decide) rfl xw_396 xw_397 xw_398 xw_15 xw_399 hdV_yX4_letPass ⟨Nat.le_of_ble_eq_true rfl, Nat.le_of_ble_eq_true rfl⟩ rfl (Nat.le_of_ble_eq_true rfl) ⟨Nat.le_refl _, Nat.le_refl _⟩ dX6_needless_69 (fun H locs hW => ?_)
      have hW : XR X (xGl (va_up S 1 (s_mendLamp (nI i) 2 (s_become (S 0) τ))) (xMi sv hs pf sn nb) ρ) 1 (s_letPass 100 (s_mendLamp (nI i) 2 (s_become (S 0) τ))) H locs := hW
      have hW : XG X (xGl (va_up S 1 (s_letPass 100 (s_mendLamp (nI i) 2 (s_become (S 0) τ)))) (xMi sv hs pf sn nb) ρ) H locs := by have h := XG.outS (by decide) hW; rw [xuu] at h; exact h
      have hk_7 : Sok (s_letPass 100 (s_mendLamp (nI i) 2 (s_become (S 0) τ))) := (Sok_letPass hk_6)
      refine lv_eqi (y := (r_letPass 100 (s_mendLamp (nI i) 2 (s_become (S 0) τ)))) rfl ?_
      refine lv_pop hx hb dX6_needless_72 rfl ?_
      refine lv_aload_n hx hb dX6_needless_73 rfl (lv_at hl 0 rfl) ?_
      refine lv_iconst (v := 0) hx hb dX6_needless_74 (by decide) ?_
      refine x_callV hx hb hml hown hts hK hW hl.1 (c_X6_broughtByTrial l X  (w := 0) (hS := (hS_up hS hk_7)) (hres := rfl)) (xF_mi5).1 (xF_mi5).2 (by decide) rfl xw_720 xw_721 xw_722 xw_2 xw_723 hdV_yX6_broughtByTrial ⟨Nat.le_of_ble_eq_true rfl, Nat.le_of_ble_eq_true rfl⟩ rfl (Nat.le_of_ble_eq_true rfl) ⟨Nat.le_refl _, Nat.le_refl _⟩ dX6_needless_75 (fun H locs hW => ?_)
      have hW : XG X (xGl (va_up S 1 (s_letPass 100 (s_mendLamp (nI i) 2 (s_become (S 0) τ)))) (xMi sv hs pf sn nb) ρ) H locs := hW
      refine lv_eqi (y := r_total 0 (s_letPass 100 (s_mendLamp (nI i) 2 (s_become (S 0) τ))) - r_total 0 (S 0)) rfl ?_
      refine lv_iload_n hx hb dX6_needless_78 rfl (lv_at hl 1 rfl) ?_
      refine lv_icmp_gt (tgt := 88) hx hb dX6_needless_79 (by decide) (fun c_8 => ?_) (fun c_8 => ?_)
      · skip
        refine lv_iinc (v := nI (i + 1)) (lv' := [(3, .int (nI (i + 1))), (0, .ref (xB X + xkey 11 5 0)), (1, .int (r_total 0 (s_letPass 100 (s_become (S 0) (S 1))) - r_total 0 (S 0))), (2, .int ba)]) hx hb dX6_needless_88 hl (k := 3) rfl (nI_1 i) (by decide) rfl (fun ls hl => ?_)
        refine lv_goto (tgt := 31) hx hb dX6_needless_91 (by decide) ?_
        refine ih_31 (i + 1) (s_letPass 100 (s_mendLamp (nI i) 2 (s_become (S 0) τ))) ba (by omega) hk_7 ?_ H locs ls hW (lv_sub hl [1, 2, 3, 0] rfl)
        rw [← hsp_31]; simp [xloop, Fneed, xwithout, sTry, c_4, c_8, Int32.not_le.mpr c_8]
      · skip
        refine lv_iload_n hx hb dX6_needless_82 rfl (lv_at hl 2 rfl) ?_
        refine lv_iconst (v := 1) hx hb dX6_needless_83 (by decide) ?_
        refine lv_iload_n hx hb dX6_needless_84 rfl (lv_at hl 3 rfl) ?_
        refine lv_ishl hx hb dX6_needless_85 ?_
        refine lv_eqi (y := xbit i) rfl ?_
        refine lv_ior hx hb dX6_needless_86 ?_
        refine lv_istore_n (lv' := [(2, .int (ba ||| (xbit i))), (0, .ref (xB X + xkey 11 5 0)), (1, .int (r_total 0 (s_letPass 100 (s_become (S 0) (S 1))) - r_total 0 (S 0))), (3, .int (nI i))]) hx hb dX6_needless_87 rfl hl (by decide) rfl (fun ls hl => ?_)
        refine lv_iinc (v := nI (i + 1)) (lv' := [(3, .int (nI (i + 1))), (2, .int (ba ||| (xbit i))), (0, .ref (xB X + xkey 11 5 0)), (1, .int (r_total 0 (s_letPass 100 (s_become (S 0) (S 1))) - r_total 0 (S 0)))]) hx hb dX6_needless_88 hl (k := 3) rfl (nI_1 i) (by decide) rfl (fun ls hl => ?_)
        refine lv_goto (tgt := 31) hx hb dX6_needless_91 (by decide) ?_
        refine ih_31 (i + 1) (s_letPass 100 (s_mendLamp (nI i) 2 (s_become (S 0) τ))) (ba ||| (xbit i)) (by omega) hk_7 ?_ H locs ls hW (lv_sub hl [2, 3, 1, 0] rfl)
        rw [← hsp_31]; simp [xloop, Fneed, xwithout, sTry, c_4, c_8, Int32.not_lt.mp c_8]
  exact loop_31 (cN (S 0)) 0 (s_letPass 100 (s_become (S 0) (S 1))) 0 (by omega) hk_2 rfl _ _ _ hW (lv_sub hl [3, 2, 1, 0] rfl)
