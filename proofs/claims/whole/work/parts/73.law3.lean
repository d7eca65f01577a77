/-! ===== the law: texts, undo, slots ===== -/
section LAWC
variable {p : Program} {l : Launch} {e : Env} {s : State} {m : MethodId} {below : List Frame} {meth : Method} {c : Code} {H : Heap} {locs : List Loc} {Q : State → Prop}
variable {ls : Array Slot} {X : xX} {b L t : Nat} {xs : Nat → Int32}
set_option maxHeartbeats 4000000 in
set_option maxRecDepth 100000 in
theorem L_put (C : lw_C p s m c b L xs X) (ht : 4 * t + 4 ≤ L) (h : LawSt X t H locs) (hl : lv_has ls 4 (lawL X b t))
    (kk : ∀ (H : Heap) (locs : List Loc), LawSt X (t + 1) H locs → W p l e room_1 s m #[Value.ref b] below meth c H locs 603 9687 Q (F0 m 803 ls [])) : W p l e room_1 s m #[Value.ref b] below meth c H locs 603 9687 Q (F0 m 652 ls []) := by
  obtain ⟨hx, hb, hml, hown, hts, hK, hX, hbl, hL⟩ := id C
  obtain ⟨S, sv, hs, pf, sn, nb, f, sg, M, U, V, pb, pc, pd, pe, pg, ph, pp, pq, pt, pu, hW, hI⟩ := h
  obtain ⟨qd, qf, qm, ⟨-, -, h2m⟩, ⟨g1, g2, g3, g4⟩, -⟩ := id hI.2.2.2.1
  obtain ⟨pn, p8, p2, p10, -⟩ := id hI.2.1.2.2
  have hS0 := hI.1 0 (by omega)
  have hz := hI.2.2.1.1
  have hn4 := ZS.n4 hS0 hz
  have hN16 : cN (S 0) ≤ 16 := hS0.hn16
  have hH8 : cH (S 0) ≤ 8 := hS0.hh8
  have hW8 : cW (S 0) ≤ 8 := hS0.hw8
  have hY := hz.mw
  have hn10 : f 10 = nI (f 10).toNatClampNeg := by rw [p10, nI_clamp (by omega)]
  have hn10b : (f 10).toNatClampNeg ≤ 80 := by rw [p10, nI_clamp (by omega)]; exact p8
  have hB : 16000 * t < 2 ^ 30 := by omega
  have hE := I_put (x := (((xs (4 * t + 1)).toInt64 <<< ((nI 32).toInt64 &&& 63)) ||| ((xs (4 * t + 2)).toInt64 &&& 4294967295))) hI p10 p8
  obtain ⟨hE, hI'⟩ := hE
  refine lv_aload_n hx hb dL_law_652 rfl (lv_at hl 1 rfl) ?_
  refine L_arg C ht hW hl (k := 1) (by omega) (by decide) dL_law_653 dL_law_654 dL_law_655 dL_law_656 dL_law_657 ?_
  refine lv_i2l hx hb dL_law_658 rfl ?_
  refine lv_bipush (v := nI 32) hx hb dL_law_659 (by decide) ?_
  refine lv_lshl hx hb dL_law_661 rfl ?_
  refine L_arg C ht hW hl (k := 2) (by omega) (by decide) dL_law_662 dL_law_663 dL_law_664 dL_law_665 dL_law_666 ?_
  refine lv_i2l hx hb dL_law_667 rfl ?_
  refine lv_ldc2 hx hb hown (hts _ xw_6) dL_law_668 ?_
  refine lv_land hx hb dL_law_671 ?_
  refine lv_lor hx hb dL_law_672 ?_
  refine x_callV hx hb hml hown hts hK.1 hW hl.1 (c_X6_put l X (S := S) (sv := sv) (hs := hs) (pf := pf) (sn := sn) (nb := nb) (ρ := xMa f sg M U V pb pc pd pe pg ph pp pq pt pu) (x := (((xs (4 * t + 1)).toInt64 <<< ((nI 32).toInt64 &&& 63)) ||| ((xs (4 * t + 2)).toInt64 &&& 4294967295))) (hp := hI.2.1.1) (hc := hI.2.1.2.1) (ho0 := rfl) (ho1 := rfl) (hres := rfl)) xF_mi5.1 xF_mi5.2 (by decide) rfl xw_762 xw_763 xw_764 xw_2 xw_765 hdV_yX6_put ⟨(Nat.le_of_ble_eq_true rfl), (Nat.le_of_ble_eq_true rfl)⟩ rfl (Nat.le_of_ble_eq_true rfl) ⟨(Nat.le_of_ble_eq_true rfl), (Nat.le_of_ble_eq_true rfl)⟩ dL_law_673 (fun H locs hW => ?_)
  refine lv_aload_n hx hb dL_law_676 rfl (lv_at hl 2 rfl) ?_
  refine L_arg C ht hW hl (k := 1) (by omega) (by decide) dL_law_677 dL_law_678 dL_law_679 dL_law_680 dL_law_681 ?_
  refine lv_i2l hx hb dL_law_682 rfl ?_
  refine lv_bipush (v := nI 32) hx hb dL_law_683 (by decide) ?_
  refine lv_lshl hx hb dL_law_685 rfl ?_
  refine L_arg C ht hW hl (k := 2) (by omega) (by decide) dL_law_686 dL_law_687 dL_law_688 dL_law_689 dL_law_690 ?_
  refine lv_i2l hx hb dL_law_691 rfl ?_
  refine lv_ldc2 hx hb hown (hts _ xw_6) dL_law_692 ?_
  refine lv_land hx hb dL_law_695 ?_
  refine lv_lor hx hb dL_law_696 ?_
  have hW := XG.in12 hW
  refine x_callV hx hb hml hown hts hK.1 hW hl.1 (c_X7_put l X _ (f := f) (sg := sg) (L := M) (O := U) (Y := V) (pb := pb) (pc := pc) (pd := pd) (pe := pe) (pg := pg) (ph := ph) (pp := pp) (pq := pq) (pt := pt) (pu := pu) (pn := pn) (x := (((xs (4 * t + 1)).toInt64 <<< ((nI 32).toInt64 &&& 63)) ||| ((xs (4 * t + 2)).toInt64 &&& 4294967295))) (hpn := p10) (hpn8 := p8) (ho0 := rfl) (ho1 := rfl) (hres := rfl)) (xF_model 0 (by decide)).1 (show xsh (xkey 12 0 0) = (7, 18) from by decide +kernel) (by decide) rfl xw_775 xw_776 xw_777 xw_5 xw_778 hdV_yX7_put ⟨(Nat.le_of_ble_eq_true rfl), (Nat.le_of_ble_eq_true rfl)⟩ rfl (Nat.le_of_ble_eq_true rfl) ⟨(Nat.le_of_ble_eq_true rfl), (Nat.le_of_ble_eq_true rfl)⟩ dL_law_697 (fun H locs hW => ?_)
  refine lv_icmp_eq (tgt := 803) hx hb dL_law_700 (by decide) (fun _ => ?_) (fun c => absurd hE c)
  exact kk _ _ (LawSt.mk (XG.out12 hW) (hI'.le (by omega)))
set_option maxHeartbeats 4000000 in
set_option maxRecDepth 100000 in
theorem L_wipe (C : lw_C p s m c b L xs X) (ht : 4 * t + 4 ≤ L) (h : LawSt X t H locs) (hl : lv_has ls 4 (lawL X b t))
    (kk : ∀ (H : Heap) (locs : List Loc), LawSt X (t + 1) H locs → W p l e room_1 s m #[Value.ref b] below meth c H locs 603 9687 Q (F0 m 803 ls [])) : W p l e room_1 s m #[Value.ref b] below meth c H locs 603 9687 Q (F0 m 705 ls []) := by
  obtain ⟨hx, hb, hml, hown, hts, hK, hX, hbl, hL⟩ := id C
  obtain ⟨S, sv, hs, pf, sn, nb, f, sg, M, U, V, pb, pc, pd, pe, pg, ph, pp, pq, pt, pu, hW, hI⟩ := h
  obtain ⟨qd, qf, qm, ⟨-, -, h2m⟩, ⟨g1, g2, g3, g4⟩, -⟩ := id hI.2.2.2.1
  obtain ⟨pn, p8, p2, p10, -⟩ := id hI.2.1.2.2
  have hS0 := hI.1 0 (by omega)
  have hz := hI.2.2.1.1
  have hn4 := ZS.n4 hS0 hz
  have hN16 : cN (S 0) ≤ 16 := hS0.hn16
  have hH8 : cH (S 0) ≤ 8 := hS0.hh8
  have hW8 : cW (S 0) ≤ 8 := hS0.hw8
  have hY := hz.mw
  have hn10 : f 10 = nI (f 10).toNatClampNeg := by rw [p10, nI_clamp (by omega)]
  have hn10b : (f 10).toNatClampNeg ≤ 80 := by rw [p10, nI_clamp (by omega)]; exact p8
  have hB : 16000 * t < 2 ^ 30 := by omega
  have hE := I_wipe hI p10 p8
  obtain ⟨hE, hI'⟩ := hE
  refine lv_aload_n hx hb dL_law_705 rfl (lv_at hl 1 rfl) ?_
  refine x_callV hx hb hml hown hts hK.1 hW hl.1 (c_X6_wipe l X (S := S) (sv := sv) (hs := hs) (pf := pf) (sn := sn) (nb := nb) (ρ := xMa f sg M U V pb pc pd pe pg ph pp pq pt pu) (ho0 := rfl) (hres := rfl)) xF_mi5.1 xF_mi5.2 (by decide) rfl xw_780 xw_781 xw_782 xw_2 xw_783 hdV_yX6_wipe ⟨(Nat.le_of_ble_eq_true rfl), (Nat.le_of_ble_eq_true rfl)⟩ rfl (Nat.le_of_ble_eq_true rfl) ⟨(Nat.le_of_ble_eq_true rfl), (Nat.le_of_ble_eq_true rfl)⟩ dL_law_706 (fun H locs hW => ?_)
  refine lv_aload_n hx hb dL_law_709 rfl (lv_at hl 2 rfl) ?_
  have hW := XG.in12 hW
  refine x_callV hx hb hml hown hts hK.1 hW hl.1 (c_X7_wipe l X _ (f := f) (sg := sg) (L := M) (O := U) (Y := V) (pb := pb) (pc := pc) (pd := pd) (pe := pe) (pg := pg) (ph := ph) (pp := pp) (pq := pq) (pt := pt) (pu := pu) (pn := pn) (hpn := p10) (hpn8 := p8) (ho0 := rfl) (hres := rfl)) (xF_model 0 (by decide)).1 (show xsh (xkey 12 0 0) = (7, 18) from by decide +kernel) (by decide) rfl xw_788 xw_789 xw_790 xw_5 xw_791 hdV_yX7_wipe ⟨(Nat.le_of_ble_eq_true rfl), (Nat.le_of_ble_eq_true rfl)⟩ rfl (Nat.le_of_ble_eq_true rfl) ⟨(Nat.le_of_ble_eq_true rfl), (Nat.le_of_ble_eq_true rfl)⟩ dL_law_710 (fun H locs hW => ?_)
  refine lv_icmp_eq (tgt := 803) hx hb dL_law_713 (by decide) (fun _ => ?_) (fun c => absurd hE c)
  exact kk _ _ (LawSt.mk (XG.out12 hW) (hI'.le (by omega)))
set_option maxHeartbeats 4000000 in
set_option maxRecDepth 100000 in
theorem L_fault (C : lw_C p s m c b L xs X) (ht : 4 * t + 4 ≤ L) (h : LawSt X t H locs) (hl : lv_has ls 4 (lawL X b t))
    (kk : ∀ (H : Heap) (locs : List Loc), LawSt X (t + 1) H locs → W p l e room_1 s m #[Value.ref b] below meth c H locs 603 9687 Q (F0 m 803 ls [])) : W p l e room_1 s m #[Value.ref b] below meth c H locs 603 9687 Q (F0 m 718 ls []) := by
  obtain ⟨hx, hb, hml, hown, hts, hK, hX, hbl, hL⟩ := id C
  obtain ⟨S, sv, hs, pf, sn, nb, f, sg, M, U, V, pb, pc, pd, pe, pg, ph, pp, pq, pt, pu, hW, hI⟩ := h
  obtain ⟨qd, qf, qm, ⟨-, -, h2m⟩, ⟨g1, g2, g3, g4⟩, -⟩ := id hI.2.2.2.1
  obtain ⟨pn, p8, p2, p10, -⟩ := id hI.2.1.2.2
  have hS0 := hI.1 0 (by omega)
  have hz := hI.2.2.1.1
  have hn4 := ZS.n4 hS0 hz
  have hN16 : cN (S 0) ≤ 16 := hS0.hn16
  have hH8 : cH (S 0) ≤ 8 := hS0.hh8
  have hW8 : cW (S 0) ≤ 8 := hS0.hw8
  have hY := hz.mw
  have hn10 : f 10 = nI (f 10).toNatClampNeg := by rw [p10, nI_clamp (by omega)]
  have hn10b : (f 10).toNatClampNeg ≤ 80 := by rw [p10, nI_clamp (by omega)]; exact p8
  have hB : 16000 * t < 2 ^ 30 := by omega
  have hE := I_fault (nb := nb) (pq := pq) (pt := pt) (pu := pu) hI
  obtain ⟨hE, hI'⟩ := hE
  refine lv_aload_n hx hb dL_law_718 rfl (lv_at hl 1 rfl) ?_
  refine x_callV hx hb hml hown hts hK.1 hW hl.1 (c_X6_fault l X (S := S) (sv := sv) (hs := hs) (pf := pf) (sn := sn) (nb := nb) (ρ := xMa f sg M U V pb pc pd pe pg ph pp pq pt pu) (hp := hI.2.1.1) (hc := hI.2.1.2.1) (ho0 := rfl) (ho1 := rfl) (hres := rfl)) xF_mi5.1 xF_mi5.2 (by decide) rfl xw_792 xw_793 xw_794 xw_2 xw_795 hdV_yX6_fault ⟨(Nat.le_of_ble_eq_true rfl), (Nat.le_of_ble_eq_true rfl)⟩ rfl (Nat.le_of_ble_eq_true rfl) ⟨(Nat.le_of_ble_eq_true rfl), (Nat.le_of_ble_eq_true rfl)⟩ dL_law_719 (fun H locs hW => ?_)
  refine lv_aload_n hx hb dL_law_722 rfl (lv_at hl 2 rfl) ?_
  have hW := XG.in12 hW
  refine x_callV hx hb hml hown hts hK.1 hW hl.1 (c_X7_fault l X _ (f := f) (sg := sg) (L := M) (O := U) (Y := V) (pb := pb) (pc := pc) (pd := pd) (pe := pe) (pg := pg) (ph := ph) (pp := pp) (pq := pq) (pt := pt) (pu := pu) (hn10 := hn10) (hn10b := hn10b) (ho0 := rfl) (ho1 := rfl) (ho2 := rfl) (ho3 := rfl) (hres := rfl)) (xF_model 0 (by decide)).1 (show xsh (xkey 12 0 0) = (7, 18) from by decide +kernel) (by decide) rfl xw_838 xw_839 xw_840 xw_5 xw_841 hdV_yX7_fault ⟨(Nat.le_of_ble_eq_true rfl), (Nat.le_of_ble_eq_true rfl)⟩ rfl (Nat.le_of_ble_eq_true rfl) ⟨(Nat.le_of_ble_eq_true rfl), (Nat.le_of_ble_eq_true rfl)⟩ dL_law_723 (fun H locs hW => ?_)
  refine lv_icmp_eq (tgt := 803) hx hb dL_law_726 (by decide) (fun _ => ?_) (fun c => absurd hE c)
  exact kk _ _ (LawSt.mk (XG.out12 hW) (hI'.le (by omega)))
set_option maxHeartbeats 4000000 in
set_option maxRecDepth 100000 in
theorem L_carryOut (C : lw_C p s m c b L xs X) (ht : 4 * t + 4 ≤ L) (h : LawSt X t H locs) (hl : lv_has ls 4 (lawL X b t))
    (kk : ∀ (H : Heap) (locs : List Loc), LawSt X (t + 1) H locs → W p l e room_1 s m #[Value.ref b] below meth c H locs 603 9687 Q (F0 m 803 ls [])) : W p l e room_1 s m #[Value.ref b] below meth c H locs 603 9687 Q (F0 m 731 ls []) := by
  obtain ⟨hx, hb, hml, hown, hts, hK, hX, hbl, hL⟩ := id C
  obtain ⟨S, sv, hs, pf, sn, nb, f, sg, M, U, V, pb, pc, pd, pe, pg, ph, pp, pq, pt, pu, hW, hI⟩ := h
  obtain ⟨qd, qf, qm, ⟨-, -, h2m⟩, ⟨g1, g2, g3, g4⟩, -⟩ := id hI.2.2.2.1
  obtain ⟨pn, p8, p2, p10, -⟩ := id hI.2.1.2.2
  have hS0 := hI.1 0 (by omega)
  have hz := hI.2.2.1.1
  have hn4 := ZS.n4 hS0 hz
  have hN16 : cN (S 0) ≤ 16 := hS0.hn16
  have hH8 : cH (S 0) ≤ 8 := hS0.hh8
  have hW8 : cW (S 0) ≤ 8 := hS0.hw8
  have hY := hz.mw
  have hn10 : f 10 = nI (f 10).toNatClampNeg := by rw [p10, nI_clamp (by omega)]
  have hn10b : (f 10).toNatClampNeg ≤ 80 := by rw [p10, nI_clamp (by omega)]; exact p8
  have hB : 16000 * t < 2 ^ 30 := by omega
  have hMk : Mok (cN (S 0)) (cH (S 0)) (sg, M, U, V, pg, ph) := ZS.ok hS0 hz
  have hE := I_carryOut (nb := nb) (pq := pq) (pt := pt) (pu := pu) (g := pg) (q := ph) hB hI g1 g2 g3 g4
  obtain ⟨hE, hI'⟩ := hE
  refine lv_aload_n hx hb dL_law_731 rfl (lv_at hl 1 rfl) ?_
  refine x_callV hx hb hml hown hts hK.1 hW hl.1 (c_X6_carryOut l X (S := S) (sv := sv) (hs := hs) (pf := pf) (sn := sn) (nb := nb) (ρ := xMa f sg M U V pb pc pd pe pg ph pp pq pt pu) (hS := hI.1) (hH := hI.2.2.2.1.ok) (hp := hI.2.1.1) (hc := hI.2.1.2.1) (ho0 := rfl) (ho1 := rfl) (ho2 := rfl) (ho3 := rfl) (hres := rfl)) xF_mi5.1 xF_mi5.2 (by decide) rfl xw_874 xw_875 xw_876 xw_2 xw_877 hdV_yX6_carryOut ⟨(Nat.le_of_ble_eq_true rfl), (Nat.le_of_ble_eq_true rfl)⟩ rfl (Nat.le_of_ble_eq_true rfl) ⟨(Nat.le_of_ble_eq_true rfl), (Nat.le_of_ble_eq_true rfl)⟩ dL_law_732 (fun H locs hW => ?_)
  refine lv_aload_n hx hb dL_law_735 rfl (lv_at hl 2 rfl) ?_
  have hW := XG.in12 hW
  refine x_callV hx hb hml hown hts hK.1 hW hl.1 (c_X7_carryOut l X _ (f := f) (sg := sg) (L := M) (O := U) (Y := V) (pb := pb) (pc := pc) (pd := pd) (pe := pe) (pg := pg) (ph := ph) (pp := pp) (pq := pq) (pt := pt) (pu := pu) (n := cN (S 0)) (nh := cH (S 0)) (pf := qf) (pm := qm) (hn10 := hn10) (hn10b := hn10b) (hn := hn4.1) (hn16 := hN16) (hh := hn4.2.1) (hh8 := hH8) (hq := hMk) (hpf := g1) (hpf6 := g2) (hpm := g3) (hpm6 := g4) (ho0 := rfl) (ho1 := rfl) (ho2 := rfl) (ho3 := rfl) (ho4 := rfl) (ho5 := rfl) (ho6 := rfl) (ho7 := rfl) (ho8 := rfl) (ho9 := rfl) (ho10 := rfl) (hres := rfl)) (xF_model 0 (by decide)).1 (show xsh (xkey 12 0 0) = (7, 18) from by decide +kernel) (by decide) rfl xw_894 xw_895 xw_896 xw_5 xw_897 hdV_yX7_carryOut ⟨(Nat.le_of_ble_eq_true rfl), (Nat.le_of_ble_eq_true rfl)⟩ rfl (Nat.le_of_ble_eq_true rfl) ⟨(Nat.le_of_ble_eq_true rfl), (Nat.le_of_ble_eq_true rfl)⟩ dL_law_736 (fun H locs hW => ?_)
  refine lv_icmp_eq (tgt := 803) hx hb dL_law_739 (by decide) (fun _ => ?_) (fun c => absurd hE c)
  exact kk _ _ (LawSt.mk (XG.out12 hW) (hI'.le (by omega)))
set_option maxHeartbeats 4000000 in
set_option maxRecDepth 100000 in
theorem L_undo (C : lw_C p s m c b L xs X) (ht : 4 * t + 4 ≤ L) (h : LawSt X t H locs) (hl : lv_has ls 4 (lawL X b t))
    (kk : ∀ (H : Heap) (locs : List Loc), LawSt X (t + 1) H locs → W p l e room_1 s m #[Value.ref b] below meth c H locs 603 9687 Q (F0 m 803 ls [])) : W p l e room_1 s m #[Value.ref b] below meth c H locs 603 9687 Q (F0 m 744 ls []) := by
  obtain ⟨hx, hb, hml, hown, hts, hK, hX, hbl, hL⟩ := id C
  obtain ⟨S, sv, hs, pf, sn, nb, f, sg, M, U, V, pb, pc, pd, pe, pg, ph, pp, pq, pt, pu, hW, hI⟩ := h
  obtain ⟨qd, qf, qm, ⟨-, -, h2m⟩, ⟨g1, g2, g3, g4⟩, -⟩ := id hI.2.2.2.1
  obtain ⟨pn, p8, p2, p10, -⟩ := id hI.2.1.2.2
  have hS0 := hI.1 0 (by omega)
  have hz := hI.2.2.1.1
  have hn4 := ZS.n4 hS0 hz
  have hN16 : cN (S 0) ≤ 16 := hS0.hn16
  have hH8 : cH (S 0) ≤ 8 := hS0.hh8
  have hW8 : cW (S 0) ≤ 8 := hS0.hw8
  have hY := hz.mw
  have hn10 : f 10 = nI (f 10).toNatClampNeg := by rw [p10, nI_clamp (by omega)]
  have hn10b : (f 10).toNatClampNeg ≤ 80 := by rw [p10, nI_clamp (by omega)]; exact p8
  have hB : 16000 * t < 2 ^ 30 := by omega
  have hE := I_undo hI g1 g2 g3 g4
  obtain ⟨hE, hI'⟩ := hE
  refine lv_aload_n hx hb dL_law_744 rfl (lv_at hl 1 rfl) ?_
  refine x_callV hx hb hml hown hts hK.1 hW hl.1 (c_X6_undo l X (S := S) (sv := sv) (hs := hs) (pf := pf) (sn := sn) (nb := nb) (ρ := xMa f sg M U V pb pc pd pe pg ph pp pq pt pu) (hS := hI.1) (hH := hI.2.2.2.1.ok) (ho0 := rfl) (ho1 := rfl) (hres := rfl)) xF_mi5.1 xF_mi5.2 (by decide) rfl xw_907 xw_908 xw_909 xw_2 xw_910 hdV_yX6_undo ⟨(Nat.le_of_ble_eq_true rfl), (Nat.le_of_ble_eq_true rfl)⟩ rfl (Nat.le_of_ble_eq_true rfl) ⟨(Nat.le_of_ble_eq_true rfl), (Nat.le_of_ble_eq_true rfl)⟩ dL_law_745 (fun H locs hW => ?_)
  refine lv_aload_n hx hb dL_law_748 rfl (lv_at hl 2 rfl) ?_
  have hW := XG.in12 hW
  refine x_callV hx hb hml hown hts hK.1 hW hl.1 (c_X7_undo l X _ (f := f) (sg := sg) (L := M) (O := U) (Y := V) (pb := pb) (pc := pc) (pd := pd) (pe := pe) (pg := pg) (ph := ph) (pp := pp) (pq := pq) (pt := pt) (pu := pu) (pf := qf) (pm := qm) (hpf := g1) (hpf6 := g2) (hpm := g3) (hpm6 := g4) (ho0 := rfl) (ho1 := rfl) (ho2 := rfl) (ho3 := rfl) (ho4 := rfl) (hres := rfl)) (xF_model 0 (by decide)).1 (show xsh (xkey 12 0 0) = (7, 18) from by decide +kernel) (by decide) rfl xw_915 xw_916 xw_917 xw_5 xw_918 hdV_yX7_undo ⟨(Nat.le_of_ble_eq_true rfl), (Nat.le_of_ble_eq_true rfl)⟩ rfl (Nat.le_of_ble_eq_true rfl) ⟨(Nat.le_of_ble_eq_true rfl), (Nat.le_of_ble_eq_true rfl)⟩ dL_law_749 (fun H locs hW => ?_)
  refine lv_icmp_eq (tgt := 803) hx hb dL_law_752 (by decide) (fun _ => ?_) (fun c => absurd hE c)
  exact kk _ _ (LawSt.mk (XG.out12 hW) (hI'.le (by omega)))
set_option maxHeartbeats 4000000 in
set_option maxRecDepth 100000 in
theorem L_save (C : lw_C p s m c b L xs X) (ht : 4 * t + 4 ≤ L) (h : LawSt X t H locs) (hl : lv_has ls 4 (lawL X b t))
    (kk : ∀ (H : Heap) (locs : List Loc), LawSt X (t + 1) H locs → W p l e room_1 s m #[Value.ref b] below meth c H locs 603 9687 Q (F0 m 803 ls [])) : W p l e room_1 s m #[Value.ref b] below meth c H locs 603 9687 Q (F0 m 757 ls []) := by
  obtain ⟨hx, hb, hml, hown, hts, hK, hX, hbl, hL⟩ := id C
  obtain ⟨S, sv, hs, pf, sn, nb, f, sg, M, U, V, pb, pc, pd, pe, pg, ph, pp, pq, pt, pu, hW, hI⟩ := h
  obtain ⟨qd, qf, qm, ⟨-, -, h2m⟩, ⟨g1, g2, g3, g4⟩, -⟩ := id hI.2.2.2.1
  obtain ⟨pn, p8, p2, p10, -⟩ := id hI.2.1.2.2
  have hS0 := hI.1 0 (by omega)
  have hz := hI.2.2.1.1
  have hn4 := ZS.n4 hS0 hz
  have hN16 : cN (S 0) ≤ 16 := hS0.hn16
  have hH8 : cH (S 0) ≤ 8 := hS0.hh8
  have hW8 : cW (S 0) ≤ 8 := hS0.hw8
  have hY := hz.mw
  have hn10 : f 10 = nI (f 10).toNatClampNeg := by rw [p10, nI_clamp (by omega)]
  have hn10b : (f 10).toNatClampNeg ≤ 80 := by rw [p10, nI_clamp (by omega)]; exact p8
  have hB : 16000 * t < 2 ^ 30 := by omega
  have hE := I_save (x := (xs (4 * t + 1))) hI
  obtain ⟨hE, hI'⟩ := hE
  refine lv_aload_n hx hb dL_law_757 rfl (lv_at hl 1 rfl) ?_
  refine L_arg C ht hW hl (k := 1) (by omega) (by decide) dL_law_758 dL_law_759 dL_law_760 dL_law_761 dL_law_762 ?_
  refine x_callV hx hb hml hown hts hK.1 hW hl.1 (c_X6_save l X (S := S) (sv := sv) (hs := hs) (pf := pf) (sn := sn) (nb := nb) (ρ := xMa f sg M U V pb pc pd pe pg ph pp pq pt pu) (x := (xs (4 * t + 1))) (hS := hI.1) (ho0 := rfl) (ho1 := rfl) (hres := rfl)) xF_mi5.1 xF_mi5.2 (by decide) rfl xw_919 xw_920 xw_921 xw_2 xw_922 hdV_yX6_save ⟨(Nat.le_of_ble_eq_true rfl), (Nat.le_of_ble_eq_true rfl)⟩ rfl (Nat.le_of_ble_eq_true rfl) ⟨(Nat.le_of_ble_eq_true rfl), (Nat.le_of_ble_eq_true rfl)⟩ dL_law_763 (fun H locs hW => ?_)
  refine lv_aload_n hx hb dL_law_766 rfl (lv_at hl 2 rfl) ?_
  refine L_arg C ht hW hl (k := 1) (by omega) (by decide) dL_law_767 dL_law_768 dL_law_769 dL_law_770 dL_law_771 ?_
  have hW := XG.in12 hW
  refine x_callV hx hb hml hown hts hK.1 hW hl.1 (c_X7_save l X _ (f := f) (sg := sg) (L := M) (O := U) (Y := V) (pb := pb) (pc := pc) (pd := pd) (pe := pe) (pg := pg) (ph := ph) (pp := pp) (pq := pq) (pt := pt) (pu := pu) (x := (xs (4 * t + 1))) (ho0 := rfl) (ho1 := rfl) (hres := rfl)) (xF_model 0 (by decide)).1 (show xsh (xkey 12 0 0) = (7, 18) from by decide +kernel) (by decide) rfl xw_923 xw_924 xw_925 xw_5 xw_926 hdV_yX7_save ⟨(Nat.le_of_ble_eq_true rfl), (Nat.le_of_ble_eq_true rfl)⟩ rfl (Nat.le_of_ble_eq_true rfl) ⟨(Nat.le_of_ble_eq_true rfl), (Nat.le_of_ble_eq_true rfl)⟩ dL_law_772 (fun H locs hW => ?_)
  refine lv_icmp_eq (tgt := 803) hx hb dL_law_775 (by decide) (fun _ => ?_) (fun c => absurd hE c)
  exact kk _ _ (LawSt.mk (XG.out12 hW) (hI'.le (by omega)))
set_option maxHeartbeats 4000000 in
set_option maxRecDepth 100000 in
theorem L_restore (C : lw_C p s m c b L xs X) (ht : 4 * t + 4 ≤ L) (h : LawSt X t H locs) (hl : lv_has ls 4 (lawL X b t))
    (kk : ∀ (H : Heap) (locs : List Loc), LawSt X (t + 1) H locs → W p l e room_1 s m #[Value.ref b] below meth c H locs 603 9687 Q (F0 m 803 ls [])) : W p l e room_1 s m #[Value.ref b] below meth c H locs 603 9687 Q (F0 m 780 ls []) := by
  obtain ⟨hx, hb, hml, hown, hts, hK, hX, hbl, hL⟩ := id C
  obtain ⟨S, sv, hs, pf, sn, nb, f, sg, M, U, V, pb, pc, pd, pe, pg, ph, pp, pq, pt, pu, hW, hI⟩ := h
  obtain ⟨qd, qf, qm, ⟨-, -, h2m⟩, ⟨g1, g2, g3, g4⟩, -⟩ := id hI.2.2.2.1
  obtain ⟨pn, p8, p2, p10, -⟩ := id hI.2.1.2.2
  have hS0 := hI.1 0 (by omega)
  have hz := hI.2.2.1.1
  have hn4 := ZS.n4 hS0 hz
  have hN16 : cN (S 0) ≤ 16 := hS0.hn16
  have hH8 : cH (S 0) ≤ 8 := hS0.hh8
  have hW8 : cW (S 0) ≤ 8 := hS0.hw8
  have hY := hz.mw
  have hn10 : f 10 = nI (f 10).toNatClampNeg := by rw [p10, nI_clamp (by omega)]
  have hn10b : (f 10).toNatClampNeg ≤ 80 := by rw [p10, nI_clamp (by omega)]; exact p8
  have hB : 16000 * t < 2 ^ 30 := by omega
  have hE := I_restore (x := (xs (4 * t + 1))) hB hI g1 g2 g3 g4
  obtain ⟨hE, hI'⟩ := hE
  refine lv_aload_n hx hb dL_law_780 rfl (lv_at hl 1 rfl) ?_
  refine L_arg C ht hW hl (k := 1) (by omega) (by decide) dL_law_781 dL_law_782 dL_law_783 dL_law_784 dL_law_785 ?_
  refine x_callV hx hb hml hown hts hK.1 hW hl.1 (c_X6_restore l X (S := S) (sv := sv) (hs := hs) (pf := pf) (sn := sn) (nb := nb) (ρ := xMa f sg M U V pb pc pd pe pg ph pp pq pt pu) (x := (xs (4 * t + 1))) (hS := hI.1) (hH := hI.2.2.2.1.ok) (ho0 := rfl) (ho1 := rfl) (hres := rfl)) xF_mi5.1 xF_mi5.2 (by decide) rfl xw_927 xw_928 xw_929 xw_2 xw_930 hdV_yX6_restore ⟨(Nat.le_of_ble_eq_true rfl), (Nat.le_of_ble_eq_true rfl)⟩ rfl (Nat.le_of_ble_eq_true rfl) ⟨(Nat.le_of_ble_eq_true rfl), (Nat.le_of_ble_eq_true rfl)⟩ dL_law_786 (fun H locs hW => ?_)
  refine lv_aload_n hx hb dL_law_789 rfl (lv_at hl 2 rfl) ?_
  refine L_arg C ht hW hl (k := 1) (by omega) (by decide) dL_law_790 dL_law_791 dL_law_792 dL_law_793 dL_law_794 ?_
  have hW := XG.in12 hW
  refine x_callV hx hb hml hown hts hK.1 hW hl.1 (c_X7_restore l X _ (f := f) (sg := sg) (L := M) (O := U) (Y := V) (pb := pb) (pc := pc) (pd := pd) (pe := pe) (pg := pg) (ph := ph) (pp := pp) (pq := pq) (pt := pt) (pu := pu) (pf := qf) (pm := qm) (x := (xs (4 * t + 1))) (hpf := g1) (hpf6 := g2) (hpm := g3) (hpm6 := g4) (ho0 := rfl) (ho1 := rfl) (ho2 := rfl) (ho3 := rfl) (ho4 := rfl) (ho5 := rfl) (hres := rfl)) (xF_model 0 (by decide)).1 (show xsh (xkey 12 0 0) = (7, 18) from by decide +kernel) (by decide) rfl xw_931 xw_932 xw_933 xw_5 xw_934 hdV_yX7_restore ⟨(Nat.le_of_ble_eq_true rfl), (Nat.le_of_ble_eq_true rfl)⟩ rfl (Nat.le_of_ble_eq_true rfl) ⟨(Nat.le_of_ble_eq_true rfl), (Nat.le_of_ble_eq_true rfl)⟩ dL_law_795 (fun H locs hW => ?_)
  refine lv_icmp_eq (tgt := 803) hx hb dL_law_798 (by decide) (fun _ => ?_) (fun c => absurd hE c)
  exact kk _ _ (LawSt.mk (XG.out12 hW) (hI'.le (by omega)))
end LAWC
