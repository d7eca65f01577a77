/-! ===== the law: which call, and one after another ===== -/
theorem and31 (x : Int32) : ∃ j, j < 32 ∧ x &&& 31 = nI j := by
  refine ⟨(x.toBitVec &&& 31#32).toNat, ?_, ?_⟩
  · rw [BitVec.toNat_and]
    exact Nat.lt_of_le_of_lt Nat.and_le_right (by decide)
  · apply Int32.toBitVec_inj.mp
    show x.toBitVec &&& 31#32 = _
    apply BitVec.eq_of_toNat_eq
    generalize (x.toBitVec &&& 31#32) = y
    unfold nI
    show y.toNat = (BitVec.ofNat 32 y.toNat).toNat
    rw [BitVec.toNat_ofNat, Nat.mod_eq_of_lt y.isLt]
theorem law_sub {L : Nat} (h : 4 ≤ L) : nI L - 4 = nI (L - 4) := by
  obtain ⟨k, rfl⟩ : ∃ k, L = k + 4 := ⟨L - 4, by omega⟩
  show nI (k + 4) - nI 4 = _
  rw [← nI_add, Int32.add_sub_cancel, Nat.add_sub_cancel]
theorem law_low : ∀ L, L < 4 → nI L - 4 < 0 := by decide +kernel
theorem LawSt.succ {X : xX} {t : Nat} {H : Heap} {locs : List Loc} (h : LawSt X t H locs) : LawSt X (t + 1) H locs := by
  obtain ⟨S, sv, hs, pf, sn, nb, f, sg, M, U, V, pb, pc, pd, pe, pg, ph, pp, pq, pt, pu, hW, hI⟩ := h
  exact LawSt.mk hW (hI.le (by omega))
theorem LawSt.at {X : xX} {t : Nat} {H : Heap} {locs : List Loc} (h : LawSt X t H locs) : ∃ G : xG, XG X G H locs := by
  obtain ⟨S, sv, hs, pf, sn, nb, f, sg, M, U, V, pb, pc, pd, pe, pg, ph, pp, pq, pt, pu, hW, hI⟩ := h
  exact ⟨_, hW⟩
section LAWLOOP
variable {p : Program} {l : Launch} {e : Env} {s : State} {m : MethodId} {below : List Frame} {meth : Method} {c : Code} {H : Heap} {locs : List Loc} {Q : State → Prop}
variable {ls : Array Slot} {X : xX} {b L t : Nat} {xs : Nat → Int32}
set_option maxHeartbeats 4000000 in
set_option maxRecDepth 100000 in
theorem law_call (C : lw_C p s m c b L xs X) (ht : 4 * t + 4 ≤ L) (h : LawSt X t H locs) (hl : lv_has ls 4 (lawL X b t))
    (kk : ∀ (H : Heap) (locs : List Loc), LawSt X (t + 1) H locs → W p l e room_1 s m #[Value.ref b] below meth c H locs 603 9687 Q (F0 m 803 ls [])) : W p l e room_1 s m #[Value.ref b] below meth c H locs 603 9687 Q (F0 m 26 ls []) := by
  obtain ⟨hx, hb, hml, hown, hts, hK, hX, hbl, hL⟩ := id C
  obtain ⟨G, hW⟩ := h.at
  refine lv_aload_n hx hb dL_law_26 rfl (lv_at hl 0 rfl) ?_
  refine lv_iload_n hx hb dL_law_27 rfl (lv_at hl 3 rfl) ?_
  refine va_sld hx hb hX hbl (by show ¬ xB X ≤ b; unfold xB; omega) hW.fit (vp_in_nI (show 4 * t < L by omega) (by omega)) dL_law_28 ?_
  refine lv_bipush (v := 31) hx hb dL_law_29 (by decide) ?_
  refine lv_iand hx hb dL_law_31 ?_
  obtain ⟨j, hj, ej⟩ := and31 (xs (nI (4 * t)).toNatClampNeg)
  rw [ej]
  clear ej hW
  by_cases c_0 : j = 0
  · subst c_0
    refine lv_tableIn (off := 116) (tgt := 148) hx hb dL_law_32 (by decide) (by decide) (by decide) (by decide) ?_
    exact L_set C ht h hl kk
  by_cases c_1 : j = 1
  · subst c_1
    refine lv_tableIn (off := 149) (tgt := 181) hx hb dL_law_32 (by decide) (by decide) (by decide) (by decide) ?_
    exact L_lamp C ht h hl kk
  by_cases c_2 : j = 2
  · subst c_2
    refine lv_tableIn (off := 182) (tgt := 214) hx hb dL_law_32 (by decide) (by decide) (by decide) (by decide) ?_
    exact L_house C ht h hl kk
  by_cases c_3 : j = 3
  · subst c_3
    refine lv_tableIn (off := 205) (tgt := 237) hx hb dL_law_32 (by decide) (by decide) (by decide) (by decide) ?_
    exact L_walker C ht h hl kk
  by_cases c_4 : j = 4
  · subst c_4
    refine lv_tableIn (off := 238) (tgt := 270) hx hb dL_law_32 (by decide) (by decide) (by decide) (by decide) ?_
    exact L_goal C ht h hl kk
  by_cases c_5 : j = 5
  · subst c_5
    refine lv_tableIn (off := 281) (tgt := 313) hx hb dL_law_32 (by decide) (by decide) (by decide) (by decide) ?_
    exact L_mend C ht h hl kk
  by_cases c_6 : j = 6
  · subst c_6
    refine lv_tableIn (off := 314) (tgt := 346) hx hb dL_law_32 (by decide) (by decide) (by decide) (by decide) ?_
    exact L_cough C ht h hl kk
  by_cases c_7 : j = 7
  · subst c_7
    refine lv_tableIn (off := 337) (tgt := 369) hx hb dL_law_32 (by decide) (by decide) (by decide) (by decide) ?_
    exact L_ticks C ht h hl kk
  by_cases c_8 : j = 8
  · subst c_8
    refine lv_tableIn (off := 360) (tgt := 392) hx hb dL_law_32 (by decide) (by decide) (by decide) (by decide) ?_
    exact L_ofLamp C ht h hl kk
  by_cases c_9 : j = 9
  · subst c_9
    refine lv_tableIn (off := 393) (tgt := 425) hx hb dL_law_32 (by decide) (by decide) (by decide) (by decide) ?_
    exact L_ofWalker C ht h hl kk
  by_cases c_10 : j = 10
  · subst c_10
    refine lv_tableIn (off := 426) (tgt := 458) hx hb dL_law_32 (by decide) (by decide) (by decide) (by decide) ?_
    exact L_ofHouse C ht h hl kk
  by_cases c_11 : j = 11
  · subst c_11
    refine lv_tableIn (off := 459) (tgt := 491) hx hb dL_law_32 (by decide) (by decide) (by decide) (by decide) ?_
    exact L_lightAt C ht h hl kk
  by_cases c_12 : j = 12
  · subst c_12
    refine lv_tableIn (off := 482) (tgt := 514) hx hb dL_law_32 (by decide) (by decide) (by decide) (by decide) ?_
    exact L_hearers C ht h hl kk
  by_cases c_13 : j = 13
  · subst c_13
    refine lv_tableIn (off := 505) (tgt := 537) hx hb dL_law_32 (by decide) (by decide) (by decide) (by decide) ?_
    exact L_count C ht h hl kk
  by_cases c_14 : j = 14
  · subst c_14
    refine lv_tableIn (off := 528) (tgt := 560) hx hb dL_law_32 (by decide) (by decide) (by decide) (by decide) ?_
    exact L_homeIn C ht h hl kk
  by_cases c_15 : j = 15
  · subst c_15
    refine lv_tableIn (off := 551) (tgt := 583) hx hb dL_law_32 (by decide) (by decide) (by decide) (by decide) ?_
    exact L_brings C ht h hl kk
  by_cases c_16 : j = 16
  · subst c_16
    refine lv_tableIn (off := 584) (tgt := 616) hx hb dL_law_32 (by decide) (by decide) (by decide) (by decide) ?_
    exact L_bestReach C ht h hl kk
  by_cases c_17 : j = 17
  · subst c_17
    refine lv_tableIn (off := 607) (tgt := 639) hx hb dL_law_32 (by decide) (by decide) (by decide) (by decide) ?_
    exact L_needless C ht h hl kk
  by_cases c_18 : j = 18
  · subst c_18
    refine lv_tableIn (off := 620) (tgt := 652) hx hb dL_law_32 (by decide) (by decide) (by decide) (by decide) ?_
    exact L_put C ht h hl kk
  by_cases c_19 : j = 19
  · subst c_19
    refine lv_tableIn (off := 673) (tgt := 705) hx hb dL_law_32 (by decide) (by decide) (by decide) (by decide) ?_
    exact L_wipe C ht h hl kk
  by_cases c_20 : j = 20
  · subst c_20
    refine lv_tableIn (off := 686) (tgt := 718) hx hb dL_law_32 (by decide) (by decide) (by decide) (by decide) ?_
    exact L_fault C ht h hl kk
  by_cases c_21 : j = 21
  · subst c_21
    refine lv_tableIn (off := 699) (tgt := 731) hx hb dL_law_32 (by decide) (by decide) (by decide) (by decide) ?_
    exact L_carryOut C ht h hl kk
  by_cases c_22 : j = 22
  · subst c_22
    refine lv_tableIn (off := 712) (tgt := 744) hx hb dL_law_32 (by decide) (by decide) (by decide) (by decide) ?_
    exact L_undo C ht h hl kk
  by_cases c_23 : j = 23
  · subst c_23
    refine lv_tableIn (off := 725) (tgt := 757) hx hb dL_law_32 (by decide) (by decide) (by decide) (by decide) ?_
    exact L_save C ht h hl kk
  by_cases c_24 : j = 24
  · subst c_24
    refine lv_tableIn (off := 748) (tgt := 780) hx hb dL_law_32 (by decide) (by decide) (by decide) (by decide) ?_
    exact L_restore C ht h hl kk
  refine lv_tableOut (tgt := 803) hx hb dL_law_32 (Or.inr ?_) (by decide) (kk _ _ h.succ)
  rw [nI_toInt (by omega)]
  omega
set_option maxHeartbeats 4000000 in
set_option maxRecDepth 100000 in
theorem law_loop (C : lw_C p s m c b L xs X) : ∀ (k t : Nat) (H : Heap) (locs : List Loc) (ls : Array Slot), L < 4 * (t + k) + 4 → 4 * t ≤ L → LawSt X t H locs → lv_has ls 4 (lawL X b t) →
    (∀ (t : Nat) (H : Heap) (locs : List Loc) (ls : Array Slot), LawSt X t H locs → W p l e room_1 s m #[Value.ref b] below meth c H locs 603 9687 Q (F0 m 809 ls [])) → W p l e room_1 s m #[Value.ref b] below meth c H locs 603 9687 Q (F0 m 18 ls []) := by
  obtain ⟨hx, hb, hml, hown, hts, hK, hX, hbl, hL⟩ := id C
  intro k
  induction k with
  | zero =>
    intro t H locs ls h1 h2 h hl kk
    obtain ⟨G, hW⟩ := h.at
    refine lv_iload_n hx hb dL_law_18 rfl (lv_at hl 3 rfl) ?_
    refine lv_aload_n hx hb dL_law_19 rfl (lv_at hl 0 rfl) ?_
    refine va_slen hx hb hX hbl (by show ¬ xB X ≤ b; unfold xB; omega) hW.fit dL_law_20 ?_
    refine lv_iconst (v := 4) hx hb dL_law_21 (by decide) ?_
    refine lv_isub hx hb dL_law_22 ?_
    refine lv_icmp_gt (tgt := 809) hx hb dL_law_23 (by decide) (fun _ => kk t _ _ _ h) (fun q => absurd ?_ q)
    show nI L - 4 < nI (4 * t)
    by_cases c4 : 4 ≤ L
    · rw [law_sub c4]
      exact nI_lt (by omega) (by omega)
    · have := law_low L (by omega)
      have h0 : t = 0 := by omega
      subst h0
      exact this
  | succ k ih =>
    intro t H locs ls h1 h2 h hl kk
    by_cases c4 : 4 * t + 4 ≤ L
    · obtain ⟨G, hW⟩ := h.at
      refine lv_iload_n hx hb dL_law_18 rfl (lv_at hl 3 rfl) ?_
      refine lv_aload_n hx hb dL_law_19 rfl (lv_at hl 0 rfl) ?_
      refine va_slen hx hb hX hbl (by show ¬ xB X ≤ b; unfold xB; omega) hW.fit dL_law_20 ?_
      refine lv_iconst (v := 4) hx hb dL_law_21 (by decide) ?_
      refine lv_isub hx hb dL_law_22 ?_
      refine lv_icmp_gt (tgt := 809) hx hb dL_law_23 (by decide) (fun q => absurd q ?_) (fun _ => ?_)
      · show ¬ nI L - 4 < nI (4 * t)
        rw [law_sub (by omega)]
        exact nI_nlt (by omega) (by omega)
      · refine law_call C c4 h hl (fun H locs h => ?_)
        refine lv_iinc (v := nI (4 * (t + 1))) (lv' := [(3, .int (nI (4 * (t + 1)))), (0, .ref b), (1, .ref (xB X + xkey 11 5 0)), (2, .ref (xB X + xkey 12 0 0))]) hx hb dL_law_803 hl (k := 3) rfl (by show nI (4 * t) + nI 4 = _; rw [nI_add]; exact congrArg nI (by omega)) (by decide) rfl (fun ls hl => ?_)
        refine lv_goto (tgt := 18) hx hb dL_law_806 (by decide) ?_
        exact ih (t + 1) H locs ls (by omega) (by omega) h (lv_sub hl [1, 2, 3, 0] rfl) kk
    · exact ih t H locs ls (by omega) h2 h hl kk
end LAWLOOP
