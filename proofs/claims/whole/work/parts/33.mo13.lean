set_option maxHeartbeats 4000000 in
set_option maxRecDepth 100000 in
theorem c_X7_carry (l : Launch) (X : xX) (G : xG) {f sg pb pc pd pe pg ph pp pq pt pu : Nat → Int32} {L O Y : Nat → Nat → Int32} {n nh nw pf pm k b0 b1 : Nat} (hn : sg 7 = nI n) (hn16 : n ≤ 16) (hh : sg 8 = nI nh) (hh8 : nh ≤ 8) (hw : sg 9 = nI nw) (hw8 : nw ≤ 8) (hY : ∀ j, j < 8 → MW (Y j)) (hpf : f 2 = nI pf) (hpf6 : pf < 6) (hpm : f 3 = nI pm) (hpm6 : pm ≤ 6) (hk9 : k < 28) (hb0 : pt k = nI b0) (hb08 : b0 ≤ 80) (hb1 : pt (k + 1) = nI b1) (hb18 : b1 ≤ 80) {sg' : Nat → Int32} (ho0 : (((Mcar n nh pq pt pu k (sg, L, O, Y, pg, ph)).1).1) = sg') {L' : Nat → Nat → Int32} (ho1 : (((Mcar n nh pq pt pu k (sg, L, O, Y, pg, ph)).1).2.1) = L') {O' : Nat → Nat → Int32} (ho2 : (((Mcar n nh pq pt pu k (sg, L, O, Y, pg, ph)).1).2.2.1) = O') {Y' : Nat → Nat → Int32} (ho3 : (((Mcar n nh pq pt pu k (sg, L, O, Y, pg, ph)).1).2.2.2.1) = Y') {pg' : Nat → Int32} (ho4 : (((Mcar n nh pq pt pu k (sg, L, O, Y, pg, ph)).1).2.2.2.2.1) = pg') {ph' : Nat → Int32} (ho5 : (((Mcar n nh pq pt pu k (sg, L, O, Y, pg, ph)).1).2.2.2.2.2) = ph') {res : Int32} (hres : ((Mcar n nh pq pt pu k (sg, L, O, Y, pg, ph)).2) = res) : XC l yX7_carry cX7_carry 3 (some .int) 6 135 0 0 X xsh [.ref (xB X + xkey 12 0 0), .int (nI k)] 603 603 (xval (xB X) (va_up G 12 (xMa f sg L O Y pb pc pd pe pg ph pp pq pt pu))) (xval (xB X) (va_up G 12 (xMa f sg' L' O' Y' pb pc pd pe pg' ph' pp pq pt pu))) (some (.int res)) := by
  refine XC.of RX7 "carry" [(0, .ref (xB X + xkey 12 0 0)), (1, .int (nI k))] (by decide) rfl rfl (Nat.le_of_ble_eq_true rfl) rfl ?_
  intro p e s m args below meth c ls hx hb hret hml hts hown hlocks hnm hK hW hl
  have hW : XR X G 12 (xMa f sg L O Y pb pc pd pe pg ph pp pq pt pu) s.heap [] := hW
  obtain ⟨Q0, hQ0⟩ : ∃ z, z = MQ below (xQ X xsh 603 (xval (xB X) (va_up G 12 (xMa f sg' L' O' Y' pb pc pd pe pg' ph' pp pq pt pu))) (some (.int res))) args s 0 0 (fun q => xB X ≤ q) := ⟨_, rfl⟩
  rw [← hQ0]
  have eb0 : (pt k).toNatClampNeg = b0 := by rw [hb0]; exact nI_clamp (by omega)
  have eb1 : (pt (k + 1)).toNatClampNeg = b1 := by rw [hb1]; exact nI_clamp (by omega)
  have ew9 : (sg 9).toNatClampNeg = nw := by rw [hw]; exact nI_clamp (by omega)
  refine lv_aload_n hx hb dX7_carry_0 rfl (lv_at hl 0 rfl) ?_
  refine r_getr (C := RX7) (T := TX7) hx hb hts hown hK hW (xF_mo0).1 (xF_mo0).2.1 inlX7 rfl (by decide) 16 (by decide) (show xro (xkey 12 0 0) 16 = some (xkey 12 10 0) from by decide +kernel) xw_88 rfl dX7_carry_1 ?_
  refine lv_iload_n hx hb dX7_carry_4 rfl (lv_at hl 1 rfl) ?_
  refine r_iald hx hb hK hW (N := 30) (xF_mo10) k (by omega) (by decide) rfl (xr_model 10 (by decide) (by decide) k) (x := nI b0) (rfl.trans hb0) dX7_carry_5 ?_
  refine lv_istore_n (lv' := [(2, .int (nI b0)), (0, .ref (xB X + xkey 12 0 0)), (1, .int (nI k))]) hx hb dX7_carry_6 rfl hl (by decide) rfl (fun ls hl => ?_)
  refine lv_aload_n hx hb dX7_carry_7 rfl (lv_at hl 1 rfl) ?_
  refine r_getr (C := RX7) (T := TX7) hx hb hts hown hK hW (xF_mo0).1 (xF_mo0).2.1 inlX7 rfl (by decide) 15 (by decide) (show xro (xkey 12 0 0) 15 = some (xkey 12 9 0) from by decide +kernel) xw_87 rfl dX7_carry_8 ?_
  refine lv_iload_n hx hb dX7_carry_11 rfl (lv_at hl 2 rfl) ?_
  refine r_iald hx hb hK hW (N := 29) (xF_mo9) k (by omega) (by decide) rfl (xr_model 9 (by decide) (by decide) k) (x := pq k) rfl dX7_carry_12 ?_
  by_cases c_1 : pq k = 99
  · skip
    refine lv_lookup (off := 41) (tgt := 54) hx hb dX7_carry_13 (by decide) (by rw [c_1]; decide) (by decide) ?_
    refine lv_aload_n hx hb dX7_carry_54 rfl (lv_at hl 1 rfl) ?_
    refine lv_aload_n hx hb dX7_carry_55 rfl (lv_at hl 1 rfl) ?_
    refine r_getr (C := RX7) (T := TX7) hx hb hts hown hK hW (xF_mo0).1 (xF_mo0).2.1 inlX7 rfl (by decide) 17 (by decide) (show xro (xkey 12 0 0) 17 = some (xkey 12 11 0) from by decide +kernel) xw_89 rfl dX7_carry_56 ?_
    refine lv_iload_n hx hb dX7_carry_59 rfl (lv_at hl 0 rfl) ?_
    refine r_iald hx hb hK hW (N := 92) (xF_mo11) b0 (by omega) (by decide) rfl (xr_model 11 (by decide) (by decide) b0) (x := pu b0) rfl dX7_carry_60 ?_
    refine lv_iconst (v := 0) hx hb dX7_carry_61 (by decide) ?_
    refine x_callV hx hb hml hown hts hK hW hl.1 (c_X7_tryCough0 l X G (n := n) (pf := pf) (pm := pm) (x := pu b0) (hn := (by assumption)) (hn16 := (by assumption)) (hpf := (by assumption)) (hpf6 := (by omega)) (hpm := (by assumption)) (hpm6 := (by assumption)) (ho0 := rfl) (hres := rfl)) (xF_mo0).1 (xF_mo0).2.1 (by decide) rfl xw_369 xw_370 xw_371 xw_5 xw_372 hdV_yX7_tryCough ⟨Nat.le_of_ble_eq_true rfl, Nat.le_of_ble_eq_true rfl⟩ rfl (Nat.le_of_ble_eq_true rfl) ⟨Nat.le_refl _, Nat.le_refl _⟩ dX7_carry_62 (fun H locs hW => ?_)
    have hW : XR X G 12 (xMa f sg (Mcg (sg 7) (pu b0) L L L ((Mspread n sg (pu b0).toNatClampNeg 0 (Mcl1 n L)).1)) O Y pb pc pd pe pg ph pp pq pt pu) H locs := hW
    obtain rfl : sg = sg' := by (rw [← ho0]) <;> (unfold Mcar; dsimp only; rw [if_pos c_1]; first | done | (rw [eb0]; done) | (rw [eb0, ew9]; done) | (rw [eb0, eb1, ew9]; done))
    obtain rfl : (Mcg (sg 7) (pu b0) L L L ((Mspread n sg (pu b0).toNatClampNeg 0 (Mcl1 n L)).1)) = L' := by (rw [← ho1]) <;> (unfold Mcar; dsimp only; rw [if_pos c_1]; first | done | (rw [eb0]; done) | (rw [eb0, ew9]; done) | (rw [eb0, eb1, ew9]; done))
    obtain rfl : O = O' := by (rw [← ho2]) <;> (unfold Mcar; dsimp only; rw [if_pos c_1]; first | done | (rw [eb0]; done) | (rw [eb0, ew9]; done) | (rw [eb0, eb1, ew9]; done))
    obtain rfl : Y = Y' := by (rw [← ho3]) <;> (unfold Mcar; dsimp only; rw [if_pos c_1]; first | done | (rw [eb0]; done) | (rw [eb0, ew9]; done) | (rw [eb0, eb1, ew9]; done))
    obtain rfl : pg = pg' := by (rw [← ho4]) <;> (unfold Mcar; dsimp only; rw [if_pos c_1]; first | done | (rw [eb0]; done) | (rw [eb0, ew9]; done) | (rw [eb0, eb1, ew9]; done))
    obtain rfl : ph = ph' := by (rw [← ho5]) <;> (unfold Mcar; dsimp only; rw [if_pos c_1]; first | done | (rw [eb0]; done) | (rw [eb0, ew9]; done) | (rw [eb0, eb1, ew9]; done))
    obtain rfl : Mcg (sg 7) (pu b0) L (-1) (-5) ((Mspread n sg (pu b0).toNatClampNeg 0 (Mcl1 n L)).2) = res := by (rw [← hres]) <;> (unfold Mcar; dsimp only; rw [if_pos c_1]; first | done | (rw [eb0]; done) | (rw [eb0, ew9]; done) | (rw [eb0, eb1, ew9]; done))
    rw [hQ0]
    exact x_iret hx hb hret hlocks rfl hW rfl dX7_carry_65
  · skip
    by_cases c_2 : pq k = 109
    · skip
      refine lv_lookup (off := 53) (tgt := 66) hx hb dX7_carry_13 (by decide) (by rw [c_2]; decide) (by decide) ?_
      refine lv_aload_n hx hb dX7_carry_66 rfl (lv_at hl 1 rfl) ?_
      refine lv_aload_n hx hb dX7_carry_67 rfl (lv_at hl 1 rfl) ?_
      refine r_getr (C := RX7) (T := TX7) hx hb hts hown hK hW (xF_mo0).1 (xF_mo0).2.1 inlX7 rfl (by decide) 17 (by decide) (show xro (xkey 12 0 0) 17 = some (xkey 12 11 0) from by decide +kernel) xw_89 rfl dX7_carry_68 ?_
      refine lv_iload_n hx hb dX7_carry_71 rfl (lv_at hl 0 rfl) ?_
      refine r_iald hx hb hK hW (N := 92) (xF_mo11) b0 (by omega) (by decide) rfl (xr_model 11 (by decide) (by decide) b0) (x := pu b0) rfl dX7_carry_72 ?_
      refine lv_aload_n hx hb dX7_carry_73 rfl (lv_at hl 1 rfl) ?_
      refine r_getr (C := RX7) (T := TX7) hx hb hts hown hK hW (xF_mo0).1 (xF_mo0).2.1 inlX7 rfl (by decide) 17 (by decide) (show xro (xkey 12 0 0) 17 = some (xkey 12 11 0) from by decide +kernel) xw_89 rfl dX7_carry_74 ?_
      refine lv_iload_n hx hb dX7_carry_77 rfl (lv_at hl 0 rfl) ?_
      refine lv_iconst (v := nI 1) hx hb dX7_carry_78 (by decide) ?_
      refine lv_iadd hx hb dX7_carry_79 ?_
      refine lv_eqi (y := nI (b0 + 1)) (nI_add b0 1) ?_
      refine r_iald hx hb hK hW (N := 92) (xF_mo11) (b0 + 1) (by omega) (by decide) rfl (xr_model 11 (by decide) (by decide) (b0 + 1)) (x := pu (b0 + 1)) rfl dX7_carry_80 ?_
      refine lv_iconst (v := 0) hx hb dX7_carry_81 (by decide) ?_
      refine x_callV hx hb hml hown hts hK hW hl.1 (c_X7_tryMend0 l X G (n := n) (pf := pf) (pm := pm) (x := pu b0) (h := pu (b0 + 1)) (hn := (by assumption)) (hn16 := (by assumption)) (hpf := (by assumption)) (hpf6 := (by omega)) (hpm := (by assumption)) (hpm6 := (by assumption)) (ho0 := rfl) (hres := rfl)) (xF_mo0).1 (xF_mo0).2.1 (by decide) rfl xw_307 xw_308 xw_309 xw_5 xw_310 hdV_yX7_tryMend ⟨Nat.le_of_ble_eq_true rfl, Nat.le_of_ble_eq_true rfl⟩ rfl (Nat.le_of_ble_eq_true rfl) ⟨Nat.le_refl _, Nat.le_refl _⟩ dX7_carry_82 (fun H locs hW => ?_)
      have hW : XR X G 12 (xMa f sg (Mmd (sg 7) (pu b0) (pu (b0 + 1)) L L (va_up L (pu b0).toNatClampNeg (Mmend (pu (b0 + 1)) (L (pu b0).toNatClampNeg)))) O Y pb pc pd pe pg ph pp pq pt pu) H locs := hW
      obtain rfl : sg = sg' := by (rw [← ho0]) <;> (unfold Mcar; dsimp only; rw [if_neg c_1, if_pos c_2]; first | done | (rw [eb0]; done) | (rw [eb0, ew9]; done) | (rw [eb0, eb1, ew9]; done))
      obtain rfl : (Mmd (sg 7) (pu b0) (pu (b0 + 1)) L L (va_up L (pu b0).toNatClampNeg (Mmend (pu (b0 + 1)) (L (pu b0).toNatClampNeg)))) = L' := by (rw [← ho1]) <;> (unfold Mcar; dsimp only; rw [if_neg c_1, if_pos c_2]; first | done | (rw [eb0]; done) | (rw [eb0, ew9]; done) | (rw [eb0, eb1, ew9]; done))
      obtain rfl : O = O' := by (rw [← ho2]) <;> (unfold Mcar; dsimp only; rw [if_neg c_1, if_pos c_2]; first | done | (rw [eb0]; done) | (rw [eb0, ew9]; done) | (rw [eb0, eb1, ew9]; done))
      obtain rfl : Y = Y' := by (rw [← ho3]) <;> (unfold Mcar; dsimp only; rw [if_neg c_1, if_pos c_2]; first | done | (rw [eb0]; done) | (rw [eb0, ew9]; done) | (rw [eb0, eb1, ew9]; done))
      obtain rfl : pg = pg' := by (rw [← ho4]) <;> (unfold Mcar; dsimp only; rw [if_neg c_1, if_pos c_2]; first | done | (rw [eb0]; done) | (rw [eb0, ew9]; done) | (rw [eb0, eb1, ew9]; done))
      obtain rfl : ph = ph' := by (rw [← ho5]) <;> (unfold Mcar; dsimp only; rw [if_neg c_1, if_pos c_2]; first | done | (rw [eb0]; done) | (rw [eb0, ew9]; done) | (rw [eb0, eb1, ew9]; done))
      obtain rfl : Mmd (sg 7) (pu b0) (pu (b0 + 1)) (-1) (-2) (L (pu b0).toNatClampNeg 3) = res := by (rw [← hres]) <;> (unfold Mcar; dsimp only; rw [if_neg c_1, if_pos c_2]; first | done | (rw [eb0]; done) | (rw [eb0, ew9]; done) | (rw [eb0, eb1, ew9]; done))
      rw [hQ0]
      exact x_iret hx hb hret hlocks rfl hW rfl dX7_carry_85
    · skip
      by_cases c_3 : pq k = 119
      · skip
        refine lv_lookup (off := 35) (tgt := 48) hx hb dX7_carry_13 (by decide) (by rw [c_3]; decide) (by decide) ?_
        refine lv_aload_n hx hb dX7_carry_48 rfl (lv_at hl 1 rfl) ?_
        refine lv_iload_n hx hb dX7_carry_49 rfl (lv_at hl 2 rfl) ?_
        refine x_callV hx hb hml hown hts hK hW hl.1 (c_X7_sendWalker l X G (nw := nw) (pf := pf) (pm := pm) (k := k) (b0 := b0) (b1 := b1) (hw := (by assumption)) (hw8 := (by assumption)) (hY := (by assumption)) (hpf := (by assumption)) (hpf6 := (by omega)) (hpm := (by assumption)) (hpm6 := (by assumption)) (hk9 := (by omega)) (hb0 := (by assumption)) (hb08 := (by assumption)) (hb1 := (by assumption)) (hb18 := (by assumption)) (ho0 := rfl) (ho1 := rfl) (hres := rfl)) (xF_mo0).1 (xF_mo0).2.1 (by decide) rfl xw_903 xw_904 xw_905 xw_5 xw_906 hdV_yX7_sendWalker ⟨Nat.le_of_ble_eq_true rfl, Nat.le_of_ble_eq_true rfl⟩ rfl (Nat.le_of_ble_eq_true rfl) ⟨Nat.le_refl _, Nat.le_refl _⟩ dX7_carry_50 (fun H locs hW => ?_)
        have hW : XR X G 12 (xMa f (Msw (pu b0) (pu (b0 + 1)) nw sg) L O ((Msend pu b0 b1 nw sg Y).1) pb pc pd pe pg ph pp pq pt pu) H locs := hW
        obtain rfl : (Msw (pu b0) (pu (b0 + 1)) nw sg) = sg' := by (rw [← ho0]) <;> (unfold Mcar; dsimp only; rw [if_neg c_1, if_neg c_2, if_pos c_3]; first | done | (rw [eb0]; done) | (rw [eb0, ew9]; done) | (rw [eb0, eb1, ew9]; done))
        obtain rfl : L = L' := by (rw [← ho1]) <;> (unfold Mcar; dsimp only; rw [if_neg c_1, if_neg c_2, if_pos c_3]; first | done | (rw [eb0]; done) | (rw [eb0, ew9]; done) | (rw [eb0, eb1, ew9]; done))
        obtain rfl : O = O' := by (rw [← ho2]) <;> (unfold Mcar; dsimp only; rw [if_neg c_1, if_neg c_2, if_pos c_3]; first | done | (rw [eb0]; done) | (rw [eb0, ew9]; done) | (rw [eb0, eb1, ew9]; done))
        obtain rfl : ((Msend pu b0 b1 nw sg Y).1) = Y' := by (rw [← ho3]) <;> (unfold Mcar; dsimp only; rw [if_neg c_1, if_neg c_2, if_pos c_3]; first | done | (rw [eb0]; done) | (rw [eb0, ew9]; done) | (rw [eb0, eb1, ew9]; done))
        obtain rfl : pg = pg' := by (rw [← ho4]) <;> (unfold Mcar; dsimp only; rw [if_neg c_1, if_neg c_2, if_pos c_3]; first | done | (rw [eb0]; done) | (rw [eb0, ew9]; done) | (rw [eb0, eb1, ew9]; done))
        obtain rfl : ph = ph' := by (rw [← ho5]) <;> (unfold Mcar; dsimp only; rw [if_neg c_1, if_neg c_2, if_pos c_3]; first | done | (rw [eb0]; done) | (rw [eb0, ew9]; done) | (rw [eb0, eb1, ew9]; done))
        obtain rfl : (Msend pu b0 b1 nw sg Y).2 = res := by (rw [← hres]) <;> (unfold Mcar; dsimp only; rw [if_neg c_1, if_neg c_2, if_pos c_3]; first | done | (rw [eb0]; done) | (rw [eb0, ew9]; done) | (rw [eb0, eb1, ew9]; done))
        rw [hQ0]
        exact x_iret hx hb hret hlocks rfl hW rfl dX7_carry_53
      · skip
        refine lv_lookup (off := 73) (tgt := 86) hx hb dX7_carry_13 (by decide) (by show Op.lookupswitch.offset [(99, 41), (109, 53), (119, 35)] 73 _ = 73; rw [Op.lookupswitch.offset_cons, if_neg (x_nt2 c_1 (by decide)), Op.lookupswitch.offset_cons, if_neg (x_nt2 c_2 (by decide)), Op.lookupswitch.offset_cons, if_neg (x_nt2 c_3 (by decide))]; rfl) (by decide) ?_
        refine lv_aload_n hx hb dX7_carry_86 rfl (lv_at hl 1 rfl) ?_
        refine lv_aload_n hx hb dX7_carry_87 rfl (lv_at hl 1 rfl) ?_
        refine r_getr (C := RX7) (T := TX7) hx hb hts hown hK hW (xF_mo0).1 (xF_mo0).2.1 inlX7 rfl (by decide) 17 (by decide) (show xro (xkey 12 0 0) 17 = some (xkey 12 11 0) from by decide +kernel) xw_89 rfl dX7_carry_88 ?_
        refine lv_iload_n hx hb dX7_carry_91 rfl (lv_at hl 0 rfl) ?_
        refine r_iald hx hb hK hW (N := 92) (xF_mo11) b0 (by omega) (by decide) rfl (xr_model 11 (by decide) (by decide) b0) (x := pu b0) rfl dX7_carry_92 ?_
        refine lv_iconst (v := 0) hx hb dX7_carry_93 (by decide) ?_
        refine x_callV hx hb hml hown hts hK hW hl.1 (c_X7_tryTicks0 l X G (n := n) (nh := nh) (nw := nw) (pf := pf) (pm := pm) (x := pu b0) (hn := (by assumption)) (hn16 := (by assumption)) (hh := (by assumption)) (hh8 := (by assumption)) (hw := (by assumption)) (hw8 := (by assumption)) (hY := (by assumption)) (hpf := (by assumption)) (hpf6 := (by omega)) (hpm := (by assumption)) (hpm6 := (by assumption)) (ho0 := rfl) (ho1 := rfl) (ho2 := rfl) (ho3 := rfl) (ho4 := rfl) (ho5 := rfl) (hres := rfl)) (xF_mo0).1 (xF_mo0).2.1 (by decide) rfl xw_494 xw_495 xw_496 xw_5 xw_497 hdV_yX7_tryTicks ⟨Nat.le_of_ble_eq_true rfl, Nat.le_of_ble_eq_true rfl⟩ rfl (Nat.le_of_ble_eq_true rfl) ⟨Nat.le_refl _, Nat.le_refl _⟩ dX7_carry_94 (fun H locs hW => ?_)
        have hW : XR X G 12 (xMa f (Mtk (pu b0) sg ((Mticks n nh nw (pu b0).toNatClampNeg (sg, L, O, Y, pg, ph)).1)) (Mtk (pu b0) L ((Mticks n nh nw (pu b0).toNatClampNeg (sg, L, O, Y, pg, ph)).2.1)) (Mtk (pu b0) O ((Mticks n nh nw (pu b0).toNatClampNeg (sg, L, O, Y, pg, ph)).2.2.1)) (Mtk (pu b0) Y ((Mticks n nh nw (pu b0).toNatClampNeg (sg, L, O, Y, pg, ph)).2.2.2.1)) pb pc pd pe (Mtk (pu b0) pg ((Mticks n nh nw (pu b0).toNatClampNeg (sg, L, O, Y, pg, ph)).2.2.2.2.1)) (Mtk (pu b0) ph ((Mticks n nh nw (pu b0).toNatClampNeg (sg, L, O, Y, pg, ph)).2.2.2.2.2)) pp pq pt pu) H locs := hW
        obtain rfl : (Mtk (pu b0) sg ((Mticks n nh nw (pu b0).toNatClampNeg (sg, L, O, Y, pg, ph)).1)) = sg' := by (rw [← ho0]) <;> (unfold Mcar; dsimp only; rw [if_neg c_1, if_neg c_2, if_neg c_3]; first | done | (rw [eb0]; done) | (rw [eb0, ew9]; done) | (rw [eb0, eb1, ew9]; done))
        obtain rfl : (Mtk (pu b0) L ((Mticks n nh nw (pu b0).toNatClampNeg (sg, L, O, Y, pg, ph)).2.1)) = L' := by (rw [← ho1]) <;> (unfold Mcar; dsimp only; rw [if_neg c_1, if_neg c_2, if_neg c_3]; first | done | (rw [eb0]; done) | (rw [eb0, ew9]; done) | (rw [eb0, eb1, ew9]; done))
        obtain rfl : (Mtk (pu b0) O ((Mticks n nh nw (pu b0).toNatClampNeg (sg, L, O, Y, pg, ph)).2.2.1)) = O' := by (rw [← ho2]) <;> (unfold Mcar; dsimp only; rw [if_neg c_1, if_neg c_2, if_neg c_3]; first | done | (rw [eb0]; done) | (rw [eb0, ew9]; done) | (rw [eb0, eb1, ew9]; done))
        obtain rfl : (Mtk (pu b0) Y ((Mticks n nh nw (pu b0).toNatClampNeg (sg, L, O, Y, pg, ph)).2.2.2.1)) = Y' := by (rw [← ho3]) <;> (unfold Mcar; dsimp only; rw [if_neg c_1, if_neg c_2, if_neg c_3]; first | done | (rw [eb0]; done) | (rw [eb0, ew9]; done) | (rw [eb0, eb1, ew9]; done))
        obtain rfl : (Mtk (pu b0) pg ((Mticks n nh nw (pu b0).toNatClampNeg (sg, L, O, Y, pg, ph)).2.2.2.2.1)) = pg' := by (rw [← ho4]) <;> (unfold Mcar; dsimp only; rw [if_neg c_1, if_neg c_2, if_neg c_3]; first | done | (rw [eb0]; done) | (rw [eb0, ew9]; done) | (rw [eb0, eb1, ew9]; done))
        obtain rfl : (Mtk (pu b0) ph ((Mticks n nh nw (pu b0).toNatClampNeg (sg, L, O, Y, pg, ph)).2.2.2.2.2)) = ph' := by (rw [← ho5]) <;> (unfold Mcar; dsimp only; rw [if_neg c_1, if_neg c_2, if_neg c_3]; first | done | (rw [eb0]; done) | (rw [eb0, ew9]; done) | (rw [eb0, eb1, ew9]; done))
        obtain rfl : Mtk (pu b0) (-2) ((Mticks n nh nw (pu b0).toNatClampNeg (sg, L, O, Y, pg, ph)).1 6) = res := by (rw [← hres]) <;> (unfold Mcar; dsimp only; rw [if_neg c_1, if_neg c_2, if_neg c_3]; first | done | (rw [eb0]; done) | (rw [eb0, ew9]; done) | (rw [eb0, eb1, ew9]; done))
        rw [hQ0]
        exact x_iret hx hb hret hlocks rfl hW rfl dX7_carry_97
