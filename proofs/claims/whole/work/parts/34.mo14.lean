set_option maxHeartbeats 4000000 in
set_option maxRecDepth 100000 in
theorem c_X7_carryOut (l : Launch) (X : xX) (G : xG) {f sg pb pc pd pe pg ph pp pq pt pu : Nat → Int32} {L O Y : Nat → Nat → Int32} {n nh pf pm : Nat} (hn10 : f 10 = nI (f 10).toNatClampNeg) (hn10b : (f 10).toNatClampNeg ≤ 80) (hn : sg 7 = nI n) (hn16 : n ≤ 16) (hh : sg 8 = nI nh) (hh8 : nh ≤ 8) (hq : Mok n nh (sg, L, O, Y, pg, ph)) (hpf : f 2 = nI pf) (hpf6 : pf < 6) (hpm : f 3 = nI pm) (hpm6 : pm ≤ 6) {f' : Nat → Int32} (ho0 : (McoF (Mfa pp (f, pq, pt, pu)) pf pm) = f') {pq' : Nat → Int32} (ho1 : ((Mfa pp (f, pq, pt, pu)).2.1) = pq') {pt' : Nat → Int32} (ho2 : ((Mfa pp (f, pq, pt, pu)).2.2.1) = pt') {pu' : Nat → Int32} (ho3 : ((Mfa pp (f, pq, pt, pu)).2.2.2) = pu') {pb' : Nat → Int32} (ho4 : (Mco (Mfa pp (f, pq, pt, pu)) pb (MkB pf pm (xat sg L O Y) pb)) = pb') {sg' : Nat → Int32} (ho5 : (((McoS (Mfa pp (f, pq, pt, pu)) n nh (sg, L, O, Y, pg, ph)).1).1) = sg') {L' : Nat → Nat → Int32} (ho6 : (((McoS (Mfa pp (f, pq, pt, pu)) n nh (sg, L, O, Y, pg, ph)).1).2.1) = L') {O' : Nat → Nat → Int32} (ho7 : (((McoS (Mfa pp (f, pq, pt, pu)) n nh (sg, L, O, Y, pg, ph)).1).2.2.1) = O') {Y' : Nat → Nat → Int32} (ho8 : (((McoS (Mfa pp (f, pq, pt, pu)) n nh (sg, L, O, Y, pg, ph)).1).2.2.2.1) = Y') {pg' : Nat → Int32} (ho9 : (((McoS (Mfa pp (f, pq, pt, pu)) n nh (sg, L, O, Y, pg, ph)).1).2.2.2.2.1) = pg') {ph' : Nat → Int32} (ho10 : (((McoS (Mfa pp (f, pq, pt, pu)) n nh (sg, L, O, Y, pg, ph)).1).2.2.2.2.2) = ph') {res : Int32} (hres : (Mco (Mfa pp (f, pq, pt, pu)) (-3) (McoS (Mfa pp (f, pq, pt, pu)) n nh (sg, L, O, Y, pg, ph)).2) = res) : XC l yX7_carryOut cX7_carryOut 2 (some .int) 7 157 0 0 X xsh [.ref (xB X + xkey 12 0 0)] 603 603 (xval (xB X) (va_up G 12 (xMa f sg L O Y pb pc pd pe pg ph pp pq pt pu))) (xval (xB X) (va_up G 12 (xMa f' sg' L' O' Y' pb' pc pd pe pg' ph' pp pq' pt' pu'))) (some (.int res)) := by
  refine XC.of RX7 "carryOut" [(0, .ref (xB X + xkey 12 0 0))] (by decide) rfl rfl (Nat.le_of_ble_eq_true rfl) rfl ?_
  intro p e s m args below meth c ls hx hb hret hml hts hown hlocks hnm hK hW hl
  have hW : XR X G 12 (xMa f sg L O Y pb pc pd pe pg ph pp pq pt pu) s.heap [] := hW
  obtain ⟨Q0, hQ0⟩ : ∃ z, z = MQ below (xQ X xsh 603 (xval (xB X) (va_up G 12 (xMa f' sg' L' O' Y' pb' pc pd pe pg' ph' pp pq' pt' pu'))) (some (.int res))) args s 0 0 (fun q => xB X ≤ q) := ⟨_, rfl⟩
  rw [← hQ0]
  refine lv_aload_n hx hb dX7_carryOut_0 rfl (lv_at hl 0 rfl) ?_
  refine x_callV hx hb hml hown hts hK hW hl.1 (c_X7_fault l X G  (hn10 := (by first | exact hn10 | assumption)) (hn10b := (by first | exact hn10b | assumption)) (ho0 := rfl) (ho1 := rfl) (ho2 := rfl) (ho3 := rfl) (hres := rfl)) (xF_mo0).1 (xF_mo0).2.1 (by decide) rfl xw_898 xw_839 xw_840 xw_5 xw_841 hdV_yX7_fault ⟨Nat.le_of_ble_eq_true rfl, Nat.le_of_ble_eq_true rfl⟩ rfl (Nat.le_of_ble_eq_true rfl) ⟨Nat.le_refl _, Nat.le_refl _⟩ dX7_carryOut_1 (fun H locs hW => ?_)
  have hW : XR X G 12 (xMa ((Mfa pp (f, pq, pt, pu)).1) sg L O Y pb pc pd pe pg ph pp ((Mfa pp (f, pq, pt, pu)).2.1) ((Mfa pp (f, pq, pt, pu)).2.2.1) ((Mfa pp (f, pq, pt, pu)).2.2.2)) H locs := hW
  obtain ⟨⟨fa, qa, ta, ua⟩, hfa9⟩ : ∃ z, z = Mfa pp (f, pq, pt, pu) := ⟨_, rfl⟩
  rw [← hfa9] at hW
  have hor : Mor (fa, qa, ta, ua) := by rw [hfa9]; exact Mor_f hn10 hn10b
  refine lv_eqi (y := MfR (fa, qa, ta, ua)) (congrArg MfR hfa9).symm ?_
  have hW : XR X G 12 (xMa fa sg L O Y pb pc pd pe pg ph pp qa ta ua) _ _ := hW
  refine lv_if_lt (tgt := 10) hx hb dX7_carryOut_4 (by decide) (fun c_1 => ?_) (fun c_1 => ?_)
  · skip
    have hwr : fa 12 = 0 := MfR_neg hor c_1
    have hb9 := (hor.2.2 hwr).2
    have h39 := (hor.2.2 hwr).1
    obtain ⟨no, hno⟩ : ∃ z, z = (fa 13).toNatClampNeg := ⟨_, rfl⟩
    have hno2 : fa 13 = nI no := by rw [hno]; exact hor.2.1
    have hno27 : no ≤ 27 := by have h1 := hor.1.2.2.2.1; have h2 := hor.1.2.1; dsimp only at h39 h1 h2; omega
    have hb9 : ∀ j, j ≤ no → ta j = nI (ta j).toNatClampNeg ∧ (ta j).toNatClampNeg ≤ 80 := by rw [hno]; exact hb9
    have hfr := Mfa_fr (p := pp) (q := (f, pq, pt, pu))
    rw [← hfa9] at hfr
    have hpf9 : fa 2 = nI pf := hfr.1.trans hpf
    have hpm9 : fa 3 = nI pm := hfr.2.trans hpm
    have hpf8 := MkF_2 (f := fa) (pm := pm) hpf9
    have hpm8 := MkF_3 (f := fa) (pf := pf) (pm := pm)
    have hpf68 : (if pm = 6 then (pf + 1) % 6 else pf) < 6 := by split <;> omega
    have hpm68 : (if pm = 6 then 6 else pm + 1) ≤ 6 := by split <;> omega
    refine lv_aload_n hx hb dX7_carryOut_10 rfl (lv_at hl 0 rfl) ?_
    refine x_callV hx hb hml hown hts hK hW hl.1 (c_X7_keep l X G (pf := pf) (pm := pm) (hpf := hpf9) (hpf6 := (by omega)) (hpm := hpm9) (hpm6 := (by first | exact hpm6 | assumption)) (ho0 := rfl) (ho1 := rfl)) (xF_mo0).1 (xF_mo0).2.1 (by decide) rfl xw_165 xw_166 xw_167 xw_5 xw_168 hdV_yX7_keep ⟨Nat.le_of_ble_eq_true rfl, Nat.le_of_ble_eq_true rfl⟩ rfl (Nat.le_of_ble_eq_true rfl) ⟨Nat.le_refl _, Nat.le_refl _⟩ dX7_carryOut_11 (fun H locs hW => ?_)
    have hW : XR X G 12 (xMa (MkF pf pm fa) sg L O Y (MkB pf pm (xat sg L O Y) pb) pc pd pe pg ph pp qa ta ua) H locs := hW
    refine lv_iconst (v := nI 0) hx hb dX7_carryOut_14 (by decide) ?_
    refine lv_istore_n (lv' := [(1, .int (nI 0)), (0, .ref (xB X + xkey 12 0 0))]) hx hb dX7_carryOut_15 rfl hl (by decide) rfl (fun ls hl => ?_)
    have loop_16 : ∀ (k_16 i : Nat) (sa : Nat → Int32) (La : Nat → Nat → Int32) (Oa : Nat → Nat → Int32) (Ya : Nat → Nat → Int32) (ga : Nat → Int32) (ha : Nat → Int32), i + k_16 = no → Mok n nh (sa, La, Oa, Ya, ga, ha) → MdoL n nh qa ta ua k_16 i (sa, La, Oa, Ya, ga, ha) = MdoL n nh qa ta ua no 0 (sg, L, O, Y, pg, ph) → ∀ (H : Heap) (locs : List Loc) (ls : Array Slot), XR X G 12 (xMa (MkF pf pm fa) sa La Oa Ya (MkB pf pm (xat sg L O Y) pb) pc pd pe ga ha pp qa ta ua) H locs → lv_has ls 2 [(0, .ref (xB X + xkey 12 0 0)), (1, .int (nI i))] → W p l e { frames := 7, cells := 0, slots := 0, locals := 157 } s m args below meth c H locs 0 0 Q0 (F0 m 16 ls []) := by
      intro k_16
      induction k_16 with
      | zero =>
        intro i sa La Oa Ya ga ha hik_16 hv0_16 hsp_16 H locs ls hW hl
        refine lv_iload_n hx hb dX7_carryOut_16 rfl (lv_at hl 1 rfl) ?_
        refine lv_aload_n hx hb dX7_carryOut_17 rfl (lv_at hl 0 rfl) ?_
        refine r_get hx hb hts hown hK hW (C := RX7) (T := TX7) (xF_mo0) inlX7 rfl (by decide) 13 (by decide) (by decide +kernel) xw_844 rfl (x := nI no) ((MkF_w (by decide)).trans hno2) dX7_carryOut_18 ?_
        refine lv_icmp_ge (tgt := 38) hx hb dX7_carryOut_21 (by decide) (fun c_2 => ?_) (fun c_2 => absurd (xge_refl (by omega)) c_2)
        refine lv_aload_n hx hb dX7_carryOut_38 rfl (lv_at hl 0 rfl) ?_
        refine lv_iconst (v := 0) hx hb dX7_carryOut_39 (by decide) ?_
        refine r_put hx hb hts hown hK hW (C := RX7) (T := TX7) (xF_mo0) inlX7 tyX7 tyX7_ok nmX7 rfl (by decide) 10 (by decide) (by decide +kernel) xw_674 rfl rfl rfl rfl xMa0 dX7_carryOut_40 (fun H locs hW => ?_)
        refine lv_iload_n hx hb dX7_carryOut_43 rfl (lv_at hl 1 rfl) ?_
        obtain rfl : (va_up (MkF pf pm fa) 10 0) = f' := by (rw [← ho0]) <;> (rw [← hfa9]; unfold McoF; rw [if_pos c_1])
        obtain rfl : qa = pq' := by (rw [← ho1]) <;> (rw [← hfa9])
        obtain rfl : ta = pt' := by (rw [← ho2]) <;> (rw [← hfa9])
        obtain rfl : ua = pu' := by (rw [← ho3]) <;> (rw [← hfa9])
        obtain rfl : (MkB pf pm (xat sg L O Y) pb) = pb' := by (rw [← ho4]) <;> (rw [← hfa9]; unfold Mco; rw [if_pos c_1])
        obtain rfl : sa = sg' := by (rw [← ho5]) <;> (have hd9 : MdoL n nh qa ta ua no 0 (sg, L, O, Y, pg, ph) = ((sa, La, Oa, Ya, ga, ha), nI i) := hsp_16.symm; rw [← hfa9]; unfold McoS; rw [if_pos c_1]; dsimp only; rw [← hno, hd9])
        obtain rfl : La = L' := by (rw [← ho6]) <;> (have hd9 : MdoL n nh qa ta ua no 0 (sg, L, O, Y, pg, ph) = ((sa, La, Oa, Ya, ga, ha), nI i) := hsp_16.symm; rw [← hfa9]; unfold McoS; rw [if_pos c_1]; dsimp only; rw [← hno, hd9])
        obtain rfl : Oa = O' := by (rw [← ho7]) <;> (have hd9 : MdoL n nh qa ta ua no 0 (sg, L, O, Y, pg, ph) = ((sa, La, Oa, Ya, ga, ha), nI i) := hsp_16.symm; rw [← hfa9]; unfold McoS; rw [if_pos c_1]; dsimp only; rw [← hno, hd9])
        obtain rfl : Ya = Y' := by (rw [← ho8]) <;> (have hd9 : MdoL n nh qa ta ua no 0 (sg, L, O, Y, pg, ph) = ((sa, La, Oa, Ya, ga, ha), nI i) := hsp_16.symm; rw [← hfa9]; unfold McoS; rw [if_pos c_1]; dsimp only; rw [← hno, hd9])
        obtain rfl : ga = pg' := by (rw [← ho9]) <;> (have hd9 : MdoL n nh qa ta ua no 0 (sg, L, O, Y, pg, ph) = ((sa, La, Oa, Ya, ga, ha), nI i) := hsp_16.symm; rw [← hfa9]; unfold McoS; rw [if_pos c_1]; dsimp only; rw [← hno, hd9])
        obtain rfl : ha = ph' := by (rw [← ho10]) <;> (have hd9 : MdoL n nh qa ta ua no 0 (sg, L, O, Y, pg, ph) = ((sa, La, Oa, Ya, ga, ha), nI i) := hsp_16.symm; rw [← hfa9]; unfold McoS; rw [if_pos c_1]; dsimp only; rw [← hno, hd9])
        obtain rfl : nI i = res := by (rw [← hres]) <;> (have hd9 : MdoL n nh qa ta ua no 0 (sg, L, O, Y, pg, ph) = ((sa, La, Oa, Ya, ga, ha), nI i) := hsp_16.symm; rw [← hfa9]; unfold Mco McoS; rw [if_pos c_1, if_pos c_1]; dsimp only; rw [← hno, hd9])
        rw [hQ0]
        exact x_iret hx hb hret hlocks rfl hW rfl dX7_carryOut_44
      | succ k_16 ih_16 =>
        intro i sa La Oa Ya ga ha hik_16 hv0_16 hsp_16 H locs ls hW hl
        refine lv_iload_n hx hb dX7_carryOut_16 rfl (lv_at hl 1 rfl) ?_
        refine lv_aload_n hx hb dX7_carryOut_17 rfl (lv_at hl 0 rfl) ?_
        refine r_get hx hb hts hown hK hW (C := RX7) (T := TX7) (xF_mo0) inlX7 rfl (by decide) 13 (by decide) (by decide +kernel) xw_844 rfl (x := nI no) ((MkF_w (by decide)).trans hno2) dX7_carryOut_18 ?_
        refine lv_icmp_ge (tgt := 38) hx hb dX7_carryOut_21 (by decide) (fun c_3 => absurd c_3 (nI_ge (by omega) (by omega))) (fun c_3 => ?_)
        refine lv_aload_n hx hb dX7_carryOut_24 rfl (lv_at hl 0 rfl) ?_
        refine lv_iload_n hx hb dX7_carryOut_25 rfl (lv_at hl 1 rfl) ?_
        refine x_callV hx hb hml hown hts hK hW hl.1 (c_X7_carry l X G (n := n) (nh := nh) (nw := (sa 9).toNatClampNeg) (pf := (if pm = 6 then (pf + 1) % 6 else pf)) (pm := (if pm = 6 then 6 else pm + 1)) (k := i) (b0 := (ta i).toNatClampNeg) (b1 := (ta (i + 1)).toNatClampNeg) (hn := hv0_16.1) (hn16 := (by first | exact hn16 | assumption)) (hh := hv0_16.2.1) (hh8 := (by first | exact hh8 | assumption)) (hw := hv0_16.2.2.1) (hw8 := hv0_16.2.2.2.1) (hY := hv0_16.2.2.2.2) (hpf := hpf8) (hpf6 := hpf68) (hpm := hpm8) (hpm6 := hpm68) (hk9 := (by omega)) (hb0 := (hb9 i (by omega)).1) (hb08 := (hb9 i (by omega)).2) (hb1 := (hb9 (i + 1) (by omega)).1) (hb18 := (hb9 (i + 1) (by omega)).2) (ho0 := rfl) (ho1 := rfl) (ho2 := rfl) (ho3 := rfl) (ho4 := rfl) (ho5 := rfl) (hres := rfl)) (xF_mo0).1 (xF_mo0).2.1 (by decide) rfl xw_899 xw_900 xw_901 xw_5 xw_902 hdV_yX7_carry ⟨Nat.le_of_ble_eq_true rfl, Nat.le_of_ble_eq_true rfl⟩ rfl (Nat.le_of_ble_eq_true rfl) ⟨Nat.le_refl _, Nat.le_refl _⟩ dX7_carryOut_26 (fun H locs hW => ?_)
        have hW : XR X G 12 (xMa (MkF pf pm fa) (((Mcar n nh qa ta ua i (sa, La, Oa, Ya, ga, ha)).1).1) (((Mcar n nh qa ta ua i (sa, La, Oa, Ya, ga, ha)).1).2.1) (((Mcar n nh qa ta ua i (sa, La, Oa, Ya, ga, ha)).1).2.2.1) (((Mcar n nh qa ta ua i (sa, La, Oa, Ya, ga, ha)).1).2.2.2.1) (MkB pf pm (xat sg L O Y) pb) pc pd pe (((Mcar n nh qa ta ua i (sa, La, Oa, Ya, ga, ha)).1).2.2.2.2.1) (((Mcar n nh qa ta ua i (sa, La, Oa, Ya, ga, ha)).1).2.2.2.2.2) pp qa ta ua) H locs := hW
        refine lv_if_lt (tgt := 38) hx hb dX7_carryOut_29 (by decide) (fun c_4 => ?_) (fun c_4 => ?_)
        · skip
          refine lv_aload_n hx hb dX7_carryOut_38 rfl (lv_at hl 0 rfl) ?_
          refine lv_iconst (v := 0) hx hb dX7_carryOut_39 (by decide) ?_
          refine r_put hx hb hts hown hK hW (C := RX7) (T := TX7) (xF_mo0) inlX7 tyX7 tyX7_ok nmX7 rfl (by decide) 10 (by decide) (by decide +kernel) xw_674 rfl rfl rfl rfl xMa0 dX7_carryOut_40 (fun H locs hW => ?_)
          refine lv_iload_n hx hb dX7_carryOut_43 rfl (lv_at hl 1 rfl) ?_
          obtain rfl : (va_up (MkF pf pm fa) 10 0) = f' := by (rw [← ho0]) <;> (rw [← hfa9]; unfold McoF; rw [if_pos c_1])
          obtain rfl : qa = pq' := by (rw [← ho1]) <;> (rw [← hfa9])
          obtain rfl : ta = pt' := by (rw [← ho2]) <;> (rw [← hfa9])
          obtain rfl : ua = pu' := by (rw [← ho3]) <;> (rw [← hfa9])
          obtain rfl : (MkB pf pm (xat sg L O Y) pb) = pb' := by (rw [← ho4]) <;> (rw [← hfa9]; unfold Mco; rw [if_pos c_1])
          obtain rfl : (((Mcar n nh qa ta ua i (sa, La, Oa, Ya, ga, ha)).1).1) = sg' := by (rw [← ho5]) <;> (have hd9 : MdoL n nh qa ta ua no 0 (sg, L, O, Y, pg, ph) = ((Mcar n nh qa ta ua i (sa, La, Oa, Ya, ga, ha)).1, nI i) := hsp_16.symm.trans (if_pos c_4); rw [← hfa9]; unfold McoS; rw [if_pos c_1]; dsimp only; rw [← hno, hd9])
          obtain rfl : (((Mcar n nh qa ta ua i (sa, La, Oa, Ya, ga, ha)).1).2.1) = L' := by (rw [← ho6]) <;> (have hd9 : MdoL n nh qa ta ua no 0 (sg, L, O, Y, pg, ph) = ((Mcar n nh qa ta ua i (sa, La, Oa, Ya, ga, ha)).1, nI i) := hsp_16.symm.trans (if_pos c_4); rw [← hfa9]; unfold McoS; rw [if_pos c_1]; dsimp only; rw [← hno, hd9])
          obtain rfl : (((Mcar n nh qa ta ua i (sa, La, Oa, Ya, ga, ha)).1).2.2.1) = O' := by (rw [← ho7]) <;> (have hd9 : MdoL n nh qa ta ua no 0 (sg, L, O, Y, pg, ph) = ((Mcar n nh qa ta ua i (sa, La, Oa, Ya, ga, ha)).1, nI i) := hsp_16.symm.trans (if_pos c_4); rw [← hfa9]; unfold McoS; rw [if_pos c_1]; dsimp only; rw [← hno, hd9])
          obtain rfl : (((Mcar n nh qa ta ua i (sa, La, Oa, Ya, ga, ha)).1).2.2.2.1) = Y' := by (rw [← ho8]) <;> (have hd9 : MdoL n nh qa ta ua no 0 (sg, L, O, Y, pg, ph) = ((Mcar n nh qa ta ua i (sa, La, Oa, Ya, ga, ha)).1, nI i) := hsp_16.symm.trans (if_pos c_4); rw [← hfa9]; unfold McoS; rw [if_pos c_1]; dsimp only; rw [← hno, hd9])
          obtain rfl : (((Mcar n nh qa ta ua i (sa, La, Oa, Ya, ga, ha)).1).2.2.2.2.1) = pg' := by (rw [← ho9]) <;> (have hd9 : MdoL n nh qa ta ua no 0 (sg, L, O, Y, pg, ph) = ((Mcar n nh qa ta ua i (sa, La, Oa, Ya, ga, ha)).1, nI i) := hsp_16.symm.trans (if_pos c_4); rw [← hfa9]; unfold McoS; rw [if_pos c_1]; dsimp only; rw [← hno, hd9])
          obtain rfl : (((Mcar n nh qa ta ua i (sa, La, Oa, Ya, ga, ha)).1).2.2.2.2.2) = ph' := by (rw [← ho10]) <;> (have hd9 : MdoL n nh qa ta ua no 0 (sg, L, O, Y, pg, ph) = ((Mcar n nh qa ta ua i (sa, La, Oa, Ya, ga, ha)).1, nI i) := hsp_16.symm.trans (if_pos c_4); rw [← hfa9]; unfold McoS; rw [if_pos c_1]; dsimp only; rw [← hno, hd9])
          obtain rfl : nI i = res := by (rw [← hres]) <;> (have hd9 : MdoL n nh qa ta ua no 0 (sg, L, O, Y, pg, ph) = ((Mcar n nh qa ta ua i (sa, La, Oa, Ya, ga, ha)).1, nI i) := hsp_16.symm.trans (if_pos c_4); rw [← hfa9]; unfold Mco McoS; rw [if_pos c_1, if_pos c_1]; dsimp only; rw [← hno, hd9])
          rw [hQ0]
          exact x_iret hx hb hret hlocks rfl hW rfl dX7_carryOut_44
        · skip
          refine lv_iinc (v := nI (i + 1)) (lv' := [(1, .int (nI (i + 1))), (0, .ref (xB X + xkey 12 0 0))]) hx hb dX7_carryOut_32 hl (k := 1) rfl (nI_1 i) (by decide) rfl (fun ls hl => ?_)
          refine lv_goto (tgt := 16) hx hb dX7_carryOut_35 (by decide) ?_
          refine ih_16 (i + 1) (((Mcar n nh qa ta ua i (sa, La, Oa, Ya, ga, ha)).1).1) (((Mcar n nh qa ta ua i (sa, La, Oa, Ya, ga, ha)).1).2.1) (((Mcar n nh qa ta ua i (sa, La, Oa, Ya, ga, ha)).1).2.2.1) (((Mcar n nh qa ta ua i (sa, La, Oa, Ya, ga, ha)).1).2.2.2.1) (((Mcar n nh qa ta ua i (sa, La, Oa, Ya, ga, ha)).1).2.2.2.2.1) (((Mcar n nh qa ta ua i (sa, La, Oa, Ya, ga, ha)).1).2.2.2.2.2) (by omega) (Mok_car hv0_16) ?_ H locs ls hW (lv_sub hl [1, 0] rfl)
          rw [← hsp_16]; exact (if_neg c_4).symm
    exact loop_16 no 0 sg L O Y pg ph (by omega) hq rfl _ _ _ hW (lv_sub hl [1, 0] rfl)
  · skip
    refine lv_bipush (v := (-3)) hx hb dX7_carryOut_7 (by decide) ?_
    obtain rfl : fa = f' := by (rw [← ho0]) <;> (rw [← hfa9]; unfold McoF; rw [if_neg c_1])
    obtain rfl : qa = pq' := by (rw [← ho1]) <;> (rw [← hfa9])
    obtain rfl : ta = pt' := by (rw [← ho2]) <;> (rw [← hfa9])
    obtain rfl : ua = pu' := by (rw [← ho3]) <;> (rw [← hfa9])
    obtain rfl : pb = pb' := by (rw [← ho4]) <;> (rw [← hfa9]; unfold Mco; rw [if_neg c_1])
    obtain rfl : sg = sg' := by (rw [← ho5]) <;> (rw [← hfa9]; unfold McoS; rw [if_neg c_1])
    obtain rfl : L = L' := by (rw [← ho6]) <;> (rw [← hfa9]; unfold McoS; rw [if_neg c_1])
    obtain rfl : O = O' := by (rw [← ho7]) <;> (rw [← hfa9]; unfold McoS; rw [if_neg c_1])
    obtain rfl : Y = Y' := by (rw [← ho8]) <;> (rw [← hfa9]; unfold McoS; rw [if_neg c_1])
    obtain rfl : pg = pg' := by (rw [← ho9]) <;> (rw [← hfa9]; unfold McoS; rw [if_neg c_1])
    obtain rfl : ph = ph' := by (rw [← ho10]) <;> (rw [← hfa9]; unfold McoS; rw [if_neg c_1])
    obtain rfl : (-3) = res := by (rw [← hres]) <;> (rw [← hfa9]; unfold Mco; rw [if_neg c_1])
    rw [hQ0]
    exact x_iret hx hb hret hlocks rfl hW rfl dX7_carryOut_9
