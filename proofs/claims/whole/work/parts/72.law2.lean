/-! ===== the law: reads and forecasts ===== -/
section LAWC
variable {p : Program} {l : Launch} {e : Env} {s : State} {m : MethodId} {below : List Frame} {meth : Method} {c : Code} {H : Heap} {locs : List Loc} {Q : State → Prop}
variable {ls : Array Slot} {X : xX} {b L t : Nat} {xs : Nat → Int32}
set_option maxHeartbeats 4000000 in
set_option maxRecDepth 100000 in
theorem L_ofLamp (C : lw_C p s m c b L xs X) (ht : 4 * t + 4 ≤ L) (h : LawSt X t H locs) (hl : lv_has ls 4 (lawL X b t))
    (kk : ∀ (H : Heap) (locs : List Loc), LawSt X (t + 1) H locs → W p l e room_1 s m #[Value.ref b] below meth c H locs 603 9687 Q (F0 m 803 ls [])) : W p l e room_1 s m #[Value.ref b] below meth c H locs 603 9687 Q (F0 m 392 ls []) := by
  obtain ⟨hx, hb, hml, hown, hts, hK, hX, hbl, hL⟩ := id C
  obtain ⟨S, sv, hs, pf, sn, nb, f, sg, M, U, V, pb, pc, pd, pe, pg, ph, pp, pq, pt, pu, hW, hI⟩ := h
  obtain ⟨qd, qf, qm, ⟨-, -, h2m⟩, ⟨g1, g2, g3, g4⟩, -⟩ := id hI.2.2.2.1
  obtain ⟨pn, p8, p2, p10, -⟩ := id hI.2.1.2.2
  have hS0 := hI.1 0 (by omega)
  have hz := hI.2.2.1.1
  have hn4 := ZS.n4 hS0 hz
  have hN16 : cN (S 0) ≤ 16 := hS0.hn16
  have hH8 : cH (S 0) ≤ 8 := hS0.hh8
  have hW8 : cW (S 0) ≤ 8 := hS0.hw8
  have hY := hz.mw
  have hn10 : f 10 = nI (f 10).toNatClampNeg := by rw [p10, nI_clamp (by omega)]
  have hn10b : (f 10).toNatClampNeg ≤ 80 := by rw [p10, nI_clamp (by omega)]; exact p8
  have hB : 16000 * t < 2 ^ 30 := by omega
  have hE := (⟨Z_ofLamp (x := (xs (4 * t + 1))) (w := (xs (4 * t + 2))) hS0 hz, hI⟩ : _ ∧ _)
  obtain ⟨hE, hI'⟩ := hE
  refine lv_aload_n hx hb dL_law_392 rfl (lv_at hl 1 rfl) ?_
  refine L_arg C ht hW hl (k := 1) (by omega) (by decide) dL_law_393 dL_law_394 dL_law_395 dL_law_396 dL_law_397 ?_
  refine L_arg C ht hW hl (k := 2) (by omega) (by decide) dL_law_398 dL_law_399 dL_law_400 dL_law_401 dL_law_402 ?_
  refine x_callV hx hb hml hown hts hK.1 hW hl.1 (c_X6_ofLamp l X (S := S) (sv := sv) (hs := hs) (pf := pf) (sn := sn) (nb := nb) (ρ := xMa f sg M U V pb pc pd pe pg ph pp pq pt pu) (x := (xs (4 * t + 1))) (w := (xs (4 * t + 2))) (hS := hI.1) (hres := rfl)) xF_mi5.1 xF_mi5.2 (by decide) rfl xw_554 xw_555 xw_556 xw_2 xw_557 hdV_yX6_ofLamp ⟨(Nat.le_of_ble_eq_true rfl), (Nat.le_of_ble_eq_true rfl)⟩ rfl (Nat.le_of_ble_eq_true rfl) ⟨(Nat.le_of_ble_eq_true rfl), (Nat.le_of_ble_eq_true rfl)⟩ dL_law_403 (fun H locs hW => ?_)
  refine lv_aload_n hx hb dL_law_406 rfl (lv_at hl 2 rfl) ?_
  refine L_arg C ht hW hl (k := 1) (by omega) (by decide) dL_law_407 dL_law_408 dL_law_409 dL_law_410 dL_law_411 ?_
  refine L_arg C ht hW hl (k := 2) (by omega) (by decide) dL_law_412 dL_law_413 dL_law_414 dL_law_415 dL_law_416 ?_
  have hW := XG.in12 hW
  refine x_callV hx hb hml hown hts hK.1 hW hl.1 (c_X7_ofLamp l X _ (f := f) (sg := sg) (L := M) (O := U) (Y := V) (pb := pb) (pc := pc) (pd := pd) (pe := pe) (pg := pg) (ph := ph) (pp := pp) (pq := pq) (pt := pt) (pu := pu) (n := cN (S 0)) (x := (xs (4 * t + 1))) (v := (xs (4 * t + 2))) (hn := hn4.1) (hn16 := hN16) (hres := rfl)) (xF_model 0 (by decide)).1 (show xsh (xkey 12 0 0) = (7, 18) from by decide +kernel) (by decide) rfl xw_564 xw_565 xw_566 xw_5 xw_567 hdV_yX7_ofLamp ⟨(Nat.le_of_ble_eq_true rfl), (Nat.le_of_ble_eq_true rfl)⟩ rfl (Nat.le_of_ble_eq_true rfl) ⟨(Nat.le_of_ble_eq_true rfl), (Nat.le_of_ble_eq_true rfl)⟩ dL_law_417 (fun H locs hW => ?_)
  refine lv_icmp_eq (tgt := 803) hx hb dL_law_420 (by decide) (fun _ => ?_) (fun c => absurd hE c)
  exact kk _ _ (LawSt.mk (XG.out12 hW) (hI'.le (by omega)))
set_option maxHeartbeats 4000000 in
set_option maxRecDepth 100000 in
theorem L_ofWalker (C : lw_C p s m c b L xs X) (ht : 4 * t + 4 ≤ L) (h : LawSt X t H locs) (hl : lv_has ls 4 (lawL X b t))
    (kk : ∀ (H : Heap) (locs : List Loc), LawSt X (t + 1) H locs → W p l e room_1 s m #[Value.ref b] below meth c H locs 603 9687 Q (F0 m 803 ls [])) : W p l e room_1 s m #[Value.ref b] below meth c H locs 603 9687 Q (F0 m 425 ls []) := by
  obtain ⟨hx, hb, hml, hown, hts, hK, hX, hbl, hL⟩ := id C
  obtain ⟨S, sv, hs, pf, sn, nb, f, sg, M, U, V, pb, pc, pd, pe, pg, ph, pp, pq, pt, pu, hW, hI⟩ := h
  obtain ⟨qd, qf, qm, ⟨-, -, h2m⟩, ⟨g1, g2, g3, g4⟩, -⟩ := id hI.2.2.2.1
  obtain ⟨pn, p8, p2, p10, -⟩ := id hI.2.1.2.2
  have hS0 := hI.1 0 (by omega)
  have hz := hI.2.2.1.1
  have hn4 := ZS.n4 hS0 hz
  have hN16 : cN (S 0) ≤ 16 := hS0.hn16
  have hH8 : cH (S 0) ≤ 8 := hS0.hh8
  have hW8 : cW (S 0) ≤ 8 := hS0.hw8
  have hY := hz.mw
  have hn10 : f 10 = nI (f 10).toNatClampNeg := by rw [p10, nI_clamp (by omega)]
  have hn10b : (f 10).toNatClampNeg ≤ 80 := by rw [p10, nI_clamp (by omega)]; exact p8
  have hB : 16000 * t < 2 ^ 30 := by omega
  have hE := (⟨Z_ofWalker (x := (xs (4 * t + 1))) (w := (xs (4 * t + 2))) hS0 hz, hI⟩ : _ ∧ _)
  obtain ⟨hE, hI'⟩ := hE
  refine lv_aload_n hx hb dL_law_425 rfl (lv_at hl 1 rfl) ?_
  refine L_arg C ht hW hl (k := 1) (by omega) (by decide) dL_law_426 dL_law_427 dL_law_428 dL_law_429 dL_law_430 ?_
  refine L_arg C ht hW hl (k := 2) (by omega) (by decide) dL_law_431 dL_law_432 dL_law_433 dL_law_434 dL_law_435 ?_
  refine x_callV hx hb hml hown hts hK.1 hW hl.1 (c_X6_ofWalker l X (S := S) (sv := sv) (hs := hs) (pf := pf) (sn := sn) (nb := nb) (ρ := xMa f sg M U V pb pc pd pe pg ph pp pq pt pu) (x := (xs (4 * t + 1))) (w := (xs (4 * t + 2))) (hS := hI.1) (hres := rfl)) xF_mi5.1 xF_mi5.2 (by decide) rfl xw_568 xw_569 xw_570 xw_2 xw_571 hdV_yX6_ofWalker ⟨(Nat.le_of_ble_eq_true rfl), (Nat.le_of_ble_eq_true rfl)⟩ rfl (Nat.le_of_ble_eq_true rfl) ⟨(Nat.le_of_ble_eq_true rfl), (Nat.le_of_ble_eq_true rfl)⟩ dL_law_436 (fun H locs hW => ?_)
  refine lv_aload_n hx hb dL_law_439 rfl (lv_at hl 2 rfl) ?_
  refine L_arg C ht hW hl (k := 1) (by omega) (by decide) dL_law_440 dL_law_441 dL_law_442 dL_law_443 dL_law_444 ?_
  refine L_arg C ht hW hl (k := 2) (by omega) (by decide) dL_law_445 dL_law_446 dL_law_447 dL_law_448 dL_law_449 ?_
  have hW := XG.in12 hW
  refine x_callV hx hb hml hown hts hK.1 hW hl.1 (c_X7_ofWalker l X _ (f := f) (sg := sg) (L := M) (O := U) (Y := V) (pb := pb) (pc := pc) (pd := pd) (pe := pe) (pg := pg) (ph := ph) (pp := pp) (pq := pq) (pt := pt) (pu := pu) (n := cN (S 0)) (nw := cW (S 0)) (x := (xs (4 * t + 1))) (v := (xs (4 * t + 2))) (hn := hn4.1) (hn16 := hN16) (hw := hn4.2.2) (hw8 := hW8) (hres := rfl)) (xF_model 0 (by decide)).1 (show xsh (xkey 12 0 0) = (7, 18) from by decide +kernel) (by decide) rfl xw_583 xw_584 xw_585 xw_5 xw_586 hdV_yX7_ofWalker ⟨(Nat.le_of_ble_eq_true rfl), (Nat.le_of_ble_eq_true rfl)⟩ rfl (Nat.le_of_ble_eq_true rfl) ⟨(Nat.le_of_ble_eq_true rfl), (Nat.le_of_ble_eq_true rfl)⟩ dL_law_450 (fun H locs hW => ?_)
  refine lv_icmp_eq (tgt := 803) hx hb dL_law_453 (by decide) (fun _ => ?_) (fun c => absurd hE c)
  exact kk _ _ (LawSt.mk (XG.out12 hW) (hI'.le (by omega)))
set_option maxHeartbeats 4000000 in
set_option maxRecDepth 100000 in
theorem L_ofHouse (C : lw_C p s m c b L xs X) (ht : 4 * t + 4 ≤ L) (h : LawSt X t H locs) (hl : lv_has ls 4 (lawL X b t))
    (kk : ∀ (H : Heap) (locs : List Loc), LawSt X (t + 1) H locs → W p l e room_1 s m #[Value.ref b] below meth c H locs 603 9687 Q (F0 m 803 ls [])) : W p l e room_1 s m #[Value.ref b] below meth c H locs 603 9687 Q (F0 m 458 ls []) := by
  obtain ⟨hx, hb, hml, hown, hts, hK, hX, hbl, hL⟩ := id C
  obtain ⟨S, sv, hs, pf, sn, nb, f, sg, M, U, V, pb, pc, pd, pe, pg, ph, pp, pq, pt, pu, hW, hI⟩ := h
  obtain ⟨qd, qf, qm, ⟨-, -, h2m⟩, ⟨g1, g2, g3, g4⟩, -⟩ := id hI.2.2.2.1
  obtain ⟨pn, p8, p2, p10, -⟩ := id hI.2.1.2.2
  have hS0 := hI.1 0 (by omega)
  have hz := hI.2.2.1.1
  have hn4 := ZS.n4 hS0 hz
  have hN16 : cN (S 0) ≤ 16 := hS0.hn16
  have hH8 : cH (S 0) ≤ 8 := hS0.hh8
  have hW8 : cW (S 0) ≤ 8 := hS0.hw8
  have hY := hz.mw
  have hn10 : f 10 = nI (f 10).toNatClampNeg := by rw [p10, nI_clamp (by omega)]
  have hn10b : (f 10).toNatClampNeg ≤ 80 := by rw [p10, nI_clamp (by omega)]; exact p8
  have hB : 16000 * t < 2 ^ 30 := by omega
  have hE := (⟨Z_ofHouse (x := (xs (4 * t + 1))) (w := (xs (4 * t + 2))) hS0 hz, hI⟩ : _ ∧ _)
  obtain ⟨hE, hI'⟩ := hE
  refine lv_aload_n hx hb dL_law_458 rfl (lv_at hl 1 rfl) ?_
  refine L_arg C ht hW hl (k := 1) (by omega) (by decide) dL_law_459 dL_law_460 dL_law_461 dL_law_462 dL_law_463 ?_
  refine L_arg C ht hW hl (k := 2) (by omega) (by decide) dL_law_464 dL_law_465 dL_law_466 dL_law_467 dL_law_468 ?_
  refine x_callV hx hb hml hown hts hK.1 hW hl.1 (c_X6_ofHouse l X (S := S) (sv := sv) (hs := hs) (pf := pf) (sn := sn) (nb := nb) (ρ := xMa f sg M U V pb pc pd pe pg ph pp pq pt pu) (x := (xs (4 * t + 1))) (w := (xs (4 * t + 2))) (hS := hI.1) (hres := rfl)) xF_mi5.1 xF_mi5.2 (by decide) rfl xw_587 xw_588 xw_589 xw_2 xw_590 hdV_yX6_ofHouse ⟨(Nat.le_of_ble_eq_true rfl), (Nat.le_of_ble_eq_true rfl)⟩ rfl (Nat.le_of_ble_eq_true rfl) ⟨(Nat.le_of_ble_eq_true rfl), (Nat.le_of_ble_eq_true rfl)⟩ dL_law_469 (fun H locs hW => ?_)
  refine lv_aload_n hx hb dL_law_472 rfl (lv_at hl 2 rfl) ?_
  refine L_arg C ht hW hl (k := 1) (by omega) (by decide) dL_law_473 dL_law_474 dL_law_475 dL_law_476 dL_law_477 ?_
  refine L_arg C ht hW hl (k := 2) (by omega) (by decide) dL_law_478 dL_law_479 dL_law_480 dL_law_481 dL_law_482 ?_
  have hW := XG.in12 hW
  refine x_callV hx hb hml hown hts hK.1 hW hl.1 (c_X7_ofHouse l X _ (f := f) (sg := sg) (L := M) (O := U) (Y := V) (pb := pb) (pc := pc) (pd := pd) (pe := pe) (pg := pg) (ph := ph) (pp := pp) (pq := pq) (pt := pt) (pu := pu) (n := cN (S 0)) (nh := cH (S 0)) (x := (xs (4 * t + 1))) (v := (xs (4 * t + 2))) (hn := hn4.1) (hn16 := hN16) (hh := hn4.2.1) (hh8 := hH8) (hres := rfl)) (xF_model 0 (by decide)).1 (show xsh (xkey 12 0 0) = (7, 18) from by decide +kernel) (by decide) rfl xw_600 xw_601 xw_602 xw_5 xw_603 hdV_yX7_ofHouse ⟨(Nat.le_of_ble_eq_true rfl), (Nat.le_of_ble_eq_true rfl)⟩ rfl (Nat.le_of_ble_eq_true rfl) ⟨(Nat.le_of_ble_eq_true rfl), (Nat.le_of_ble_eq_true rfl)⟩ dL_law_483 (fun H locs hW => ?_)
  refine lv_icmp_eq (tgt := 803) hx hb dL_law_486 (by decide) (fun _ => ?_) (fun c => absurd hE c)
  exact kk _ _ (LawSt.mk (XG.out12 hW) (hI'.le (by omega)))
set_option maxHeartbeats 4000000 in
set_option maxRecDepth 100000 in
theorem L_lightAt (C : lw_C p s m c b L xs X) (ht : 4 * t + 4 ≤ L) (h : LawSt X t H locs) (hl : lv_has ls 4 (lawL X b t))
    (kk : ∀ (H : Heap) (locs : List Loc), LawSt X (t + 1) H locs → W p l e room_1 s m #[Value.ref b] below meth c H locs 603 9687 Q (F0 m 803 ls [])) : W p l e room_1 s m #[Value.ref b] below meth c H locs 603 9687 Q (F0 m 491 ls []) := by
  obtain ⟨hx, hb, hml, hown, hts, hK, hX, hbl, hL⟩ := id C
  obtain ⟨S, sv, hs, pf, sn, nb, f, sg, M, U, V, pb, pc, pd, pe, pg, ph, pp, pq, pt, pu, hW, hI⟩ := h
  obtain ⟨qd, qf, qm, ⟨-, -, h2m⟩, ⟨g1, g2, g3, g4⟩, -⟩ := id hI.2.2.2.1
  obtain ⟨pn, p8, p2, p10, -⟩ := id hI.2.1.2.2
  have hS0 := hI.1 0 (by omega)
  have hz := hI.2.2.1.1
  have hn4 := ZS.n4 hS0 hz
  have hN16 : cN (S 0) ≤ 16 := hS0.hn16
  have hH8 : cH (S 0) ≤ 8 := hS0.hh8
  have hW8 : cW (S 0) ≤ 8 := hS0.hw8
  have hY := hz.mw
  have hn10 : f 10 = nI (f 10).toNatClampNeg := by rw [p10, nI_clamp (by omega)]
  have hn10b : (f 10).toNatClampNeg ≤ 80 := by rw [p10, nI_clamp (by omega)]; exact p8
  have hB : 16000 * t < 2 ^ 30 := by omega
  have hE := (⟨Z_lightAt (x := (xs (4 * t + 1))) hz, hI⟩ : _ ∧ _)
  obtain ⟨hE, hI'⟩ := hE
  refine lv_aload_n hx hb dL_law_491 rfl (lv_at hl 1 rfl) ?_
  refine L_arg C ht hW hl (k := 1) (by omega) (by decide) dL_law_492 dL_law_493 dL_law_494 dL_law_495 dL_law_496 ?_
  refine x_callV hx hb hml hown hts hK.1 hW hl.1 (c_X6_lightAt l X (S := S) (sv := sv) (hs := hs) (pf := pf) (sn := sn) (nb := nb) (ρ := xMa f sg M U V pb pc pd pe pg ph pp pq pt pu) (x := (xs (4 * t + 1))) (hS := hI.1) (hres := rfl)) xF_mi5.1 xF_mi5.2 (by decide) rfl xw_604 xw_605 xw_606 xw_2 xw_607 hdV_yX6_lightAt ⟨(Nat.le_of_ble_eq_true rfl), (Nat.le_of_ble_eq_true rfl)⟩ rfl (Nat.le_of_ble_eq_true rfl) ⟨(Nat.le_of_ble_eq_true rfl), (Nat.le_of_ble_eq_true rfl)⟩ dL_law_497 (fun H locs hW => ?_)
  refine lv_aload_n hx hb dL_law_500 rfl (lv_at hl 2 rfl) ?_
  refine L_arg C ht hW hl (k := 1) (by omega) (by decide) dL_law_501 dL_law_502 dL_law_503 dL_law_504 dL_law_505 ?_
  have hW := XG.in12 hW
  refine x_callV hx hb hml hown hts hK.1 hW hl.1 (c_X7_lightAt l X _ (f := f) (sg := sg) (L := M) (O := U) (Y := V) (pb := pb) (pc := pc) (pd := pd) (pe := pe) (pg := pg) (ph := ph) (pp := pp) (pq := pq) (pt := pt) (pu := pu) (n := cN (S 0)) (x := (xs (4 * t + 1))) (hn := hn4.1) (hn16 := hN16) (hres := rfl)) (xF_model 0 (by decide)).1 (show xsh (xkey 12 0 0) = (7, 18) from by decide +kernel) (by decide) rfl xw_610 xw_611 xw_612 xw_5 xw_613 hdV_yX7_lightAt ⟨(Nat.le_of_ble_eq_true rfl), (Nat.le_of_ble_eq_true rfl)⟩ rfl (Nat.le_of_ble_eq_true rfl) ⟨(Nat.le_of_ble_eq_true rfl), (Nat.le_of_ble_eq_true rfl)⟩ dL_law_506 (fun H locs hW => ?_)
  refine lv_icmp_eq (tgt := 803) hx hb dL_law_509 (by decide) (fun _ => ?_) (fun c => absurd hE c)
  exact kk _ _ (LawSt.mk (XG.out12 hW) (hI'.le (by omega)))
set_option maxHeartbeats 4000000 in
set_option maxRecDepth 100000 in
theorem L_hearers (C : lw_C p s m c b L xs X) (ht : 4 * t + 4 ≤ L) (h : LawSt X t H locs) (hl : lv_has ls 4 (lawL X b t))
    (kk : ∀ (H : Heap) (locs : List Loc), LawSt X (t + 1) H locs → W p l e room_1 s m #[Value.ref b] below meth c H locs 603 9687 Q (F0 m 803 ls [])) : W p l e room_1 s m #[Value.ref b] below meth c H locs 603 9687 Q (F0 m 514 ls []) := by
  obtain ⟨hx, hb, hml, hown, hts, hK, hX, hbl, hL⟩ := id C
  obtain ⟨S, sv, hs, pf, sn, nb, f, sg, M, U, V, pb, pc, pd, pe, pg, ph, pp, pq, pt, pu, hW, hI⟩ := h
  obtain ⟨qd, qf, qm, ⟨-, -, h2m⟩, ⟨g1, g2, g3, g4⟩, -⟩ := id hI.2.2.2.1
  obtain ⟨pn, p8, p2, p10, -⟩ := id hI.2.1.2.2
  have hS0 := hI.1 0 (by omega)
  have hz := hI.2.2.1.1
  have hn4 := ZS.n4 hS0 hz
  have hN16 : cN (S 0) ≤ 16 := hS0.hn16
  have hH8 : cH (S 0) ≤ 8 := hS0.hh8
  have hW8 : cW (S 0) ≤ 8 := hS0.hw8
  have hY := hz.mw
  have hn10 : f 10 = nI (f 10).toNatClampNeg := by rw [p10, nI_clamp (by omega)]
  have hn10b : (f 10).toNatClampNeg ≤ 80 := by rw [p10, nI_clamp (by omega)]; exact p8
  have hB : 16000 * t < 2 ^ 30 := by omega
  have hE := (⟨Z_hearers (x := (xs (4 * t + 1))) hS0 hz, hI⟩ : _ ∧ _)
  obtain ⟨hE, hI'⟩ := hE
  refine lv_aload_n hx hb dL_law_514 rfl (lv_at hl 1 rfl) ?_
  refine L_arg C ht hW hl (k := 1) (by omega) (by decide) dL_law_515 dL_law_516 dL_law_517 dL_law_518 dL_law_519 ?_
  refine x_callV hx hb hml hown hts hK.1 hW hl.1 (c_X6_hearers l X (S := S) (sv := sv) (hs := hs) (pf := pf) (sn := sn) (nb := nb) (ρ := xMa f sg M U V pb pc pd pe pg ph pp pq pt pu) (x := (xs (4 * t + 1))) (hS := hI.1) (hres := rfl)) xF_mi5.1 xF_mi5.2 (by decide) rfl xw_614 xw_615 xw_616 xw_2 xw_617 hdV_yX6_hearers ⟨(Nat.le_of_ble_eq_true rfl), (Nat.le_of_ble_eq_true rfl)⟩ rfl (Nat.le_of_ble_eq_true rfl) ⟨(Nat.le_of_ble_eq_true rfl), (Nat.le_of_ble_eq_true rfl)⟩ dL_law_520 (fun H locs hW => ?_)
  refine lv_aload_n hx hb dL_law_523 rfl (lv_at hl 2 rfl) ?_
  refine L_arg C ht hW hl (k := 1) (by omega) (by decide) dL_law_524 dL_law_525 dL_law_526 dL_law_527 dL_law_528 ?_
  have hW := XG.in12 hW
  refine x_callV hx hb hml hown hts hK.1 hW hl.1 (c_X7_hearers l X _ (f := f) (sg := sg) (L := M) (O := U) (Y := V) (pb := pb) (pc := pc) (pd := pd) (pe := pe) (pg := pg) (ph := ph) (pp := pp) (pq := pq) (pt := pt) (pu := pu) (n := cN (S 0)) (x := (xs (4 * t + 1))) (hn := hn4.1) (hn16 := hN16) (hres := rfl)) (xF_model 0 (by decide)).1 (show xsh (xkey 12 0 0) = (7, 18) from by decide +kernel) (by decide) rfl xw_622 xw_623 xw_624 xw_5 xw_625 hdV_yX7_hearers ⟨(Nat.le_of_ble_eq_true rfl), (Nat.le_of_ble_eq_true rfl)⟩ rfl (Nat.le_of_ble_eq_true rfl) ⟨(Nat.le_of_ble_eq_true rfl), (Nat.le_of_ble_eq_true rfl)⟩ dL_law_529 (fun H locs hW => ?_)
  refine lv_icmp_eq (tgt := 803) hx hb dL_law_532 (by decide) (fun _ => ?_) (fun c => absurd hE c)
  exact kk _ _ (LawSt.mk (XG.out12 hW) (hI'.le (by omega)))
set_option maxHeartbeats 4000000 in
set_option maxRecDepth 100000 in
theorem L_count (C : lw_C p s m c b L xs X) (ht : 4 * t + 4 ≤ L) (h : LawSt X t H locs) (hl : lv_has ls 4 (lawL X b t))
    (kk : ∀ (H : Heap) (locs : List Loc), LawSt X (t + 1) H locs → W p l e room_1 s m #[Value.ref b] below meth c H locs 603 9687 Q (F0 m 803 ls [])) : W p l e room_1 s m #[Value.ref b] below meth c H locs 603 9687 Q (F0 m 537 ls []) := by
  obtain ⟨hx, hb, hml, hown, hts, hK, hX, hbl, hL⟩ := id C
  obtain ⟨S, sv, hs, pf, sn, nb, f, sg, M, U, V, pb, pc, pd, pe, pg, ph, pp, pq, pt, pu, hW, hI⟩ := h
  obtain ⟨qd, qf, qm, ⟨-, -, h2m⟩, ⟨g1, g2, g3, g4⟩, -⟩ := id hI.2.2.2.1
  obtain ⟨pn, p8, p2, p10, -⟩ := id hI.2.1.2.2
  have hS0 := hI.1 0 (by omega)
  have hz := hI.2.2.1.1
  have hn4 := ZS.n4 hS0 hz
  have hN16 : cN (S 0) ≤ 16 := hS0.hn16
  have hH8 : cH (S 0) ≤ 8 := hS0.hh8
  have hW8 : cW (S 0) ≤ 8 := hS0.hw8
  have hY := hz.mw
  have hn10 : f 10 = nI (f 10).toNatClampNeg := by rw [p10, nI_clamp (by omega)]
  have hn10b : (f 10).toNatClampNeg ≤ 80 := by rw [p10, nI_clamp (by omega)]; exact p8
  have hB : 16000 * t < 2 ^ 30 := by omega
  have hE := (⟨Z_count (x := (xs (4 * t + 1))) (pm := qm) hS0 hz (p2.trans p10.symm) h2m, hI⟩ : _ ∧ _)
  obtain ⟨hE, hI'⟩ := hE
  refine lv_aload_n hx hb dL_law_537 rfl (lv_at hl 1 rfl) ?_
  refine L_arg C ht hW hl (k := 1) (by omega) (by decide) dL_law_538 dL_law_539 dL_law_540 dL_law_541 dL_law_542 ?_
  refine x_callV hx hb hml hown hts hK.1 hW hl.1 (c_X6_count l X (S := S) (sv := sv) (hs := hs) (pf := pf) (sn := sn) (nb := nb) (ρ := xMa f sg M U V pb pc pd pe pg ph pp pq pt pu) (x := (xs (4 * t + 1))) (hS := hI.1) (hres := rfl)) xF_mi5.1 xF_mi5.2 (by decide) rfl xw_626 xw_627 xw_628 xw_2 xw_629 hdV_yX6_count ⟨(Nat.le_of_ble_eq_true rfl), (Nat.le_of_ble_eq_true rfl)⟩ rfl (Nat.le_of_ble_eq_true rfl) ⟨(Nat.le_of_ble_eq_true rfl), (Nat.le_of_ble_eq_true rfl)⟩ dL_law_543 (fun H locs hW => ?_)
  refine lv_aload_n hx hb dL_law_546 rfl (lv_at hl 2 rfl) ?_
  refine L_arg C ht hW hl (k := 1) (by omega) (by decide) dL_law_547 dL_law_548 dL_law_549 dL_law_550 dL_law_551 ?_
  have hW := XG.in12 hW
  refine x_callV hx hb hml hown hts hK.1 hW hl.1 (c_X7_count l X _ (f := f) (sg := sg) (L := M) (O := U) (Y := V) (pb := pb) (pc := pc) (pd := pd) (pe := pe) (pg := pg) (ph := ph) (pp := pp) (pq := pq) (pt := pt) (pu := pu) (n := cN (S 0)) (nh := cH (S 0)) (nw := cW (S 0)) (pm := qm) (x := (xs (4 * t + 1))) (hn := hn4.1) (hn16 := hN16) (hh := hn4.2.1) (hh8 := hH8) (hw := hn4.2.2) (hw8 := hW8) (hpm := g3) (hres := rfl)) (xF_model 0 (by decide)).1 (show xsh (xkey 12 0 0) = (7, 18) from by decide +kernel) (by decide) rfl xw_670 xw_671 xw_672 xw_5 xw_673 hdV_yX7_count ⟨(Nat.le_of_ble_eq_true rfl), (Nat.le_of_ble_eq_true rfl)⟩ rfl (Nat.le_of_ble_eq_true rfl) ⟨(Nat.le_of_ble_eq_true rfl), (Nat.le_of_ble_eq_true rfl)⟩ dL_law_552 (fun H locs hW => ?_)
  refine lv_icmp_eq (tgt := 803) hx hb dL_law_555 (by decide) (fun _ => ?_) (fun c => absurd hE c)
  exact kk _ _ (LawSt.mk (XG.out12 hW) (hI'.le (by omega)))
set_option maxHeartbeats 4000000 in
set_option maxRecDepth 100000 in
theorem L_homeIn (C : lw_C p s m c b L xs X) (ht : 4 * t + 4 ≤ L) (h : LawSt X t H locs) (hl : lv_has ls 4 (lawL X b t))
    (kk : ∀ (H : Heap) (locs : List Loc), LawSt X (t + 1) H locs → W p l e room_1 s m #[Value.ref b] below meth c H locs 603 9687 Q (F0 m 803 ls [])) : W p l e room_1 s m #[Value.ref b] below meth c H locs 603 9687 Q (F0 m 560 ls []) := by
  obtain ⟨hx, hb, hml, hown, hts, hK, hX, hbl, hL⟩ := id C
  obtain ⟨S, sv, hs, pf, sn, nb, f, sg, M, U, V, pb, pc, pd, pe, pg, ph, pp, pq, pt, pu, hW, hI⟩ := h
  obtain ⟨qd, qf, qm, ⟨-, -, h2m⟩, ⟨g1, g2, g3, g4⟩, -⟩ := id hI.2.2.2.1
  obtain ⟨pn, p8, p2, p10, -⟩ := id hI.2.1.2.2
  have hS0 := hI.1 0 (by omega)
  have hz := hI.2.2.1.1
  have hn4 := ZS.n4 hS0 hz
  have hN16 : cN (S 0) ≤ 16 := hS0.hn16
  have hH8 : cH (S 0) ≤ 8 := hS0.hh8
  have hW8 : cW (S 0) ≤ 8 := hS0.hw8
  have hY := hz.mw
  have hn10 : f 10 = nI (f 10).toNatClampNeg := by rw [p10, nI_clamp (by omega)]
  have hn10b : (f 10).toNatClampNeg ≤ 80 := by rw [p10, nI_clamp (by omega)]; exact p8
  have hB : 16000 * t < 2 ^ 30 := by omega
  have hE := I_homeIn (x := (xs (4 * t + 1))) hI
  obtain ⟨hE, hI'⟩ := hE
  refine lv_aload_n hx hb dL_law_560 rfl (lv_at hl 1 rfl) ?_
  refine L_arg C ht hW hl (k := 1) (by omega) (by decide) dL_law_561 dL_law_562 dL_law_563 dL_law_564 dL_law_565 ?_
  refine x_callV hx hb hml hown hts hK.1 hW hl.1 (c_X6_homeIn l X (S := S) (sv := sv) (hs := hs) (pf := pf) (sn := sn) (nb := nb) (ρ := xMa f sg M U V pb pc pd pe pg ph pp pq pt pu) (x := (xs (4 * t + 1))) (hS := hI.1) (ho0 := rfl) (hres := rfl)) xF_mi5.1 xF_mi5.2 (by decide) rfl xw_695 xw_696 xw_697 xw_2 xw_698 hdV_yX6_homeIn ⟨(Nat.le_of_ble_eq_true rfl), (Nat.le_of_ble_eq_true rfl)⟩ rfl (Nat.le_of_ble_eq_true rfl) ⟨(Nat.le_of_ble_eq_true rfl), (Nat.le_of_ble_eq_true rfl)⟩ dL_law_566 (fun H locs hW => ?_)
  refine lv_aload_n hx hb dL_law_569 rfl (lv_at hl 2 rfl) ?_
  refine L_arg C ht hW hl (k := 1) (by omega) (by decide) dL_law_570 dL_law_571 dL_law_572 dL_law_573 dL_law_574 ?_
  have hW := XG.in12 hW
  refine x_callV hx hb hml hown hts hK.1 hW hl.1 (c_X7_homeIn l X _ (f := f) (sg := sg) (L := M) (O := U) (Y := V) (pb := pb) (pc := pc) (pd := pd) (pe := pe) (pg := pg) (ph := ph) (pp := pp) (pq := pq) (pt := pt) (pu := pu) (nw := cW (S 0)) (x := (xs (4 * t + 1))) (hw := hn4.2.2) (hw8 := hW8) (hY := hY) (ho0 := rfl) (hres := rfl)) (xF_model 0 (by decide)).1 (show xsh (xkey 12 0 0) = (7, 18) from by decide +kernel) (by decide) rfl xw_702 xw_703 xw_704 xw_5 xw_705 hdV_yX7_homeIn ⟨(Nat.le_of_ble_eq_true rfl), (Nat.le_of_ble_eq_true rfl)⟩ rfl (Nat.le_of_ble_eq_true rfl) ⟨(Nat.le_of_ble_eq_true rfl), (Nat.le_of_ble_eq_true rfl)⟩ dL_law_575 (fun H locs hW => ?_)
  refine lv_icmp_eq (tgt := 803) hx hb dL_law_578 (by decide) (fun _ => ?_) (fun c => absurd hE c)
  exact kk _ _ (LawSt.mk (XG.out12 hW) (hI'.le (by omega)))
set_option maxHeartbeats 4000000 in
set_option maxRecDepth 100000 in
theorem L_brings (C : lw_C p s m c b L xs X) (ht : 4 * t + 4 ≤ L) (h : LawSt X t H locs) (hl : lv_has ls 4 (lawL X b t))
    (kk : ∀ (H : Heap) (locs : List Loc), LawSt X (t + 1) H locs → W p l e room_1 s m #[Value.ref b] below meth c H locs 603 9687 Q (F0 m 803 ls [])) : W p l e room_1 s m #[Value.ref b] below meth c H locs 603 9687 Q (F0 m 583 ls []) := by
  obtain ⟨hx, hb, hml, hown, hts, hK, hX, hbl, hL⟩ := id C
  obtain ⟨S, sv, hs, pf, sn, nb, f, sg, M, U, V, pb, pc, pd, pe, pg, ph, pp, pq, pt, pu, hW, hI⟩ := h
  obtain ⟨qd, qf, qm, ⟨-, -, h2m⟩, ⟨g1, g2, g3, g4⟩, -⟩ := id hI.2.2.2.1
  obtain ⟨pn, p8, p2, p10, -⟩ := id hI.2.1.2.2
  have hS0 := hI.1 0 (by omega)
  have hz := hI.2.2.1.1
  have hn4 := ZS.n4 hS0 hz
  have hN16 : cN (S 0) ≤ 16 := hS0.hn16
  have hH8 : cH (S 0) ≤ 8 := hS0.hh8
  have hW8 : cW (S 0) ≤ 8 := hS0.hw8
  have hY := hz.mw
  have hn10 : f 10 = nI (f 10).toNatClampNeg := by rw [p10, nI_clamp (by omega)]
  have hn10b : (f 10).toNatClampNeg ≤ 80 := by rw [p10, nI_clamp (by omega)]; exact p8
  have hB : 16000 * t < 2 ^ 30 := by omega
  have hE := I_brings (x := (xs (4 * t + 1))) (w := (xs (4 * t + 2))) (g := pg) (q := ph) hI
  obtain ⟨hE, hI'⟩ := hE
  refine lv_aload_n hx hb dL_law_583 rfl (lv_at hl 1 rfl) ?_
  refine L_arg C ht hW hl (k := 1) (by omega) (by decide) dL_law_584 dL_law_585 dL_law_586 dL_law_587 dL_law_588 ?_
  refine L_arg C ht hW hl (k := 2) (by omega) (by decide) dL_law_589 dL_law_590 dL_law_591 dL_law_592 dL_law_593 ?_
  refine x_callV hx hb hml hown hts hK.1 hW hl.1 (c_X6_brings l X (S := S) (sv := sv) (hs := hs) (pf := pf) (sn := sn) (nb := nb) (ρ := xMa f sg M U V pb pc pd pe pg ph pp pq pt pu) (x := (xs (4 * t + 1))) (w := (xs (4 * t + 2))) (hS := hI.1) (ho0 := rfl) (hres := rfl)) xF_mi5.1 xF_mi5.2 (by decide) rfl xw_714 xw_715 xw_716 xw_2 xw_717 hdV_yX6_brings ⟨(Nat.le_of_ble_eq_true rfl), (Nat.le_of_ble_eq_true rfl)⟩ rfl (Nat.le_of_ble_eq_true rfl) ⟨(Nat.le_of_ble_eq_true rfl), (Nat.le_of_ble_eq_true rfl)⟩ dL_law_594 (fun H locs hW => ?_)
  refine lv_aload_n hx hb dL_law_597 rfl (lv_at hl 2 rfl) ?_
  refine L_arg C ht hW hl (k := 1) (by omega) (by decide) dL_law_598 dL_law_599 dL_law_600 dL_law_601 dL_law_602 ?_
  refine L_arg C ht hW hl (k := 2) (by omega) (by decide) dL_law_603 dL_law_604 dL_law_605 dL_law_606 dL_law_607 ?_
  have hW := XG.in12 hW
  refine x_callV hx hb hml hown hts hK.1 hW hl.1 (c_X7_brings l X _ (f := f) (sg := sg) (L := M) (O := U) (Y := V) (pb := pb) (pc := pc) (pd := pd) (pe := pe) (pg := pg) (ph := ph) (pp := pp) (pq := pq) (pt := pt) (pu := pu) (n := cN (S 0)) (nh := cH (S 0)) (nw := cW (S 0)) (x := (xs (4 * t + 1))) (w := (xs (4 * t + 2))) (hn := hn4.1) (hn16 := hN16) (hh := hn4.2.1) (hh8 := hH8) (hw := hn4.2.2) (hw8 := hW8) (hY := hY) (ho0 := rfl) (ho1 := rfl) (ho2 := rfl) (hres := rfl)) (xF_model 0 (by decide)).1 (show xsh (xkey 12 0 0) = (7, 18) from by decide +kernel) (by decide) rfl xw_724 xw_725 xw_726 xw_5 xw_727 hdV_yX7_brings ⟨(Nat.le_of_ble_eq_true rfl), (Nat.le_of_ble_eq_true rfl)⟩ rfl (Nat.le_of_ble_eq_true rfl) ⟨(Nat.le_of_ble_eq_true rfl), (Nat.le_of_ble_eq_true rfl)⟩ dL_law_608 (fun H locs hW => ?_)
  refine lv_icmp_eq (tgt := 803) hx hb dL_law_611 (by decide) (fun _ => ?_) (fun c => absurd hE c)
  exact kk _ _ (LawSt.mk (XG.out12 hW) (hI'.le (by omega)))
set_option maxHeartbeats 4000000 in
set_option maxRecDepth 100000 in
theorem L_bestReach (C : lw_C p s m c b L xs X) (ht : 4 * t + 4 ≤ L) (h : LawSt X t H locs) (hl : lv_has ls 4 (lawL X b t))
    (kk : ∀ (H : Heap) (locs : List Loc), LawSt X (t + 1) H locs → W p l e room_1 s m #[Value.ref b] below meth c H locs 603 9687 Q (F0 m 803 ls [])) : W p l e room_1 s m #[Value.ref b] below meth c H locs 603 9687 Q (F0 m 616 ls []) := by
  obtain ⟨hx, hb, hml, hown, hts, hK, hX, hbl, hL⟩ := id C
  obtain ⟨S, sv, hs, pf, sn, nb, f, sg, M, U, V, pb, pc, pd, pe, pg, ph, pp, pq, pt, pu, hW, hI⟩ := h
  obtain ⟨qd, qf, qm, ⟨-, -, h2m⟩, ⟨g1, g2, g3, g4⟩, -⟩ := id hI.2.2.2.1
  obtain ⟨pn, p8, p2, p10, -⟩ := id hI.2.1.2.2
  have hS0 := hI.1 0 (by omega)
  have hz := hI.2.2.1.1
  have hn4 := ZS.n4 hS0 hz
  have hN16 : cN (S 0) ≤ 16 := hS0.hn16
  have hH8 : cH (S 0) ≤ 8 := hS0.hh8
  have hW8 : cW (S 0) ≤ 8 := hS0.hw8
  have hY := hz.mw
  have hn10 : f 10 = nI (f 10).toNatClampNeg := by rw [p10, nI_clamp (by omega)]
  have hn10b : (f 10).toNatClampNeg ≤ 80 := by rw [p10, nI_clamp (by omega)]; exact p8
  have hB : 16000 * t < 2 ^ 30 := by omega
  have hE := I_best (x := (xs (4 * t + 1))) (pe := pe) (g := pg) (q := ph) hI
  obtain ⟨hE, hI'⟩ := hE
  refine lv_aload_n hx hb dL_law_616 rfl (lv_at hl 1 rfl) ?_
  refine L_arg C ht hW hl (k := 1) (by omega) (by decide) dL_law_617 dL_law_618 dL_law_619 dL_law_620 dL_law_621 ?_
  refine x_callV hx hb hml hown hts hK.1 hW hl.1 (c_X6_bestReach l X (S := S) (sv := sv) (hs := hs) (pf := pf) (sn := sn) (nb := nb) (ρ := xMa f sg M U V pb pc pd pe pg ph pp pq pt pu) (x := (xs (4 * t + 1))) (hS := hI.1) (ho0 := rfl) (hres := rfl)) xF_mi5.1 xF_mi5.2 (by decide) rfl xw_736 xw_737 xw_738 xw_2 xw_739 hdV_yX6_bestReach ⟨(Nat.le_of_ble_eq_true rfl), (Nat.le_of_ble_eq_true rfl)⟩ rfl (Nat.le_of_ble_eq_true rfl) ⟨(Nat.le_of_ble_eq_true rfl), (Nat.le_of_ble_eq_true rfl)⟩ dL_law_622 (fun H locs hW => ?_)
  refine lv_aload_n hx hb dL_law_625 rfl (lv_at hl 2 rfl) ?_
  refine L_arg C ht hW hl (k := 1) (by omega) (by decide) dL_law_626 dL_law_627 dL_law_628 dL_law_629 dL_law_630 ?_
  have hW := XG.in12 hW
  refine x_callV hx hb hml hown hts hK.1 hW hl.1 (c_X7_bestReach l X _ (f := f) (sg := sg) (L := M) (O := U) (Y := V) (pb := pb) (pc := pc) (pd := pd) (pe := pe) (pg := pg) (ph := ph) (pp := pp) (pq := pq) (pt := pt) (pu := pu) (n := cN (S 0)) (nh := cH (S 0)) (nw := cW (S 0)) (x := (xs (4 * t + 1))) (hn := hn4.1) (hn16 := hN16) (hh := hn4.2.1) (hh8 := hH8) (hw := hn4.2.2) (hw8 := hW8) (hY := hY) (ho0 := rfl) (ho1 := rfl) (ho2 := rfl) (hres := rfl)) (xF_model 0 (by decide)).1 (show xsh (xkey 12 0 0) = (7, 18) from by decide +kernel) (by decide) rfl xw_746 xw_747 xw_748 xw_5 xw_749 hdV_yX7_bestReach ⟨(Nat.le_of_ble_eq_true rfl), (Nat.le_of_ble_eq_true rfl)⟩ rfl (Nat.le_of_ble_eq_true rfl) ⟨(Nat.le_of_ble_eq_true rfl), (Nat.le_of_ble_eq_true rfl)⟩ dL_law_631 (fun H locs hW => ?_)
  refine lv_icmp_eq (tgt := 803) hx hb dL_law_634 (by decide) (fun _ => ?_) (fun c => absurd hE c)
  exact kk _ _ (LawSt.mk (XG.out12 hW) (hI'.le (by omega)))
set_option maxHeartbeats 4000000 in
set_option maxRecDepth 100000 in
theorem L_needless (C : lw_C p s m c b L xs X) (ht : 4 * t + 4 ≤ L) (h : LawSt X t H locs) (hl : lv_has ls 4 (lawL X b t))
    (kk : ∀ (H : Heap) (locs : List Loc), LawSt X (t + 1) H locs → W p l e room_1 s m #[Value.ref b] below meth c H locs 603 9687 Q (F0 m 803 ls [])) : W p l e room_1 s m #[Value.ref b] below meth c H locs 603 9687 Q (F0 m 639 ls []) := by
  obtain ⟨hx, hb, hml, hown, hts, hK, hX, hbl, hL⟩ := id C
  obtain ⟨S, sv, hs, pf, sn, nb, f, sg, M, U, V, pb, pc, pd, pe, pg, ph, pp, pq, pt, pu, hW, hI⟩ := h
  obtain ⟨qd, qf, qm, ⟨-, -, h2m⟩, ⟨g1, g2, g3, g4⟩, -⟩ := id hI.2.2.2.1
  obtain ⟨pn, p8, p2, p10, -⟩ := id hI.2.1.2.2
  have hS0 := hI.1 0 (by omega)
  have hz := hI.2.2.1.1
  have hn4 := ZS.n4 hS0 hz
  have hN16 : cN (S 0) ≤ 16 := hS0.hn16
  have hH8 : cH (S 0) ≤ 8 := hS0.hh8
  have hW8 : cW (S 0) ≤ 8 := hS0.hw8
  have hY := hz.mw
  have hn10 : f 10 = nI (f 10).toNatClampNeg := by rw [p10, nI_clamp (by omega)]
  have hn10b : (f 10).toNatClampNeg ≤ 80 := by rw [p10, nI_clamp (by omega)]; exact p8
  have hB : 16000 * t < 2 ^ 30 := by omega
  have hE := I_need (pe := pe) (g := pg) (q := ph) hI
  obtain ⟨hE, hI'⟩ := hE
  refine lv_aload_n hx hb dL_law_639 rfl (lv_at hl 1 rfl) ?_
  refine x_callV hx hb hml hown hts hK.1 hW hl.1 (c_X6_needless l X (S := S) (sv := sv) (hs := hs) (pf := pf) (sn := sn) (nb := nb) (ρ := xMa f sg M U V pb pc pd pe pg ph pp pq pt pu) (hS := hI.1) (ho0 := rfl) (hres := rfl)) xF_mi5.1 xF_mi5.2 (by decide) rfl xw_750 xw_751 xw_752 xw_2 xw_753 hdV_yX6_needless ⟨(Nat.le_of_ble_eq_true rfl), (Nat.le_of_ble_eq_true rfl)⟩ rfl (Nat.le_of_ble_eq_true rfl) ⟨(Nat.le_of_ble_eq_true rfl), (Nat.le_of_ble_eq_true rfl)⟩ dL_law_640 (fun H locs hW => ?_)
  refine lv_aload_n hx hb dL_law_643 rfl (lv_at hl 2 rfl) ?_
  have hW := XG.in12 hW
  refine x_callV hx hb hml hown hts hK.1 hW hl.1 (c_X7_needless l X _ (f := f) (sg := sg) (L := M) (O := U) (Y := V) (pb := pb) (pc := pc) (pd := pd) (pe := pe) (pg := pg) (ph := ph) (pp := pp) (pq := pq) (pt := pt) (pu := pu) (n := cN (S 0)) (nh := cH (S 0)) (nw := cW (S 0)) (hn := hn4.1) (hn16 := hN16) (hh := hn4.2.1) (hh8 := hH8) (hw := hn4.2.2) (hw8 := hW8) (hY := hY) (ho0 := rfl) (ho1 := rfl) (ho2 := rfl) (hres := rfl)) (xF_model 0 (by decide)).1 (show xsh (xkey 12 0 0) = (7, 18) from by decide +kernel) (by decide) rfl xw_754 xw_755 xw_756 xw_5 xw_757 hdV_yX7_needless ⟨(Nat.le_of_ble_eq_true rfl), (Nat.le_of_ble_eq_true rfl)⟩ rfl (Nat.le_of_ble_eq_true rfl) ⟨(Nat.le_of_ble_eq_true rfl), (Nat.le_of_ble_eq_true rfl)⟩ dL_law_644 (fun H locs hW => ?_)
  refine lv_icmp_eq (tgt := 803) hx hb dL_law_647 (by decide) (fun _ => ?_) (fun c => absurd hE c)
  exact kk _ _ (LawSt.mk (XG.out12 hW) (hI'.le (by omega)))
end LAWC
