/-! ===== the class's own methods: the pad's signs, undo, save, restore ===== -/
def xshr8 (r : Int64) : Int64 := (r.toUInt64 >>> ((nI 8).toInt64.toUInt64 &&& Int64.toUInt64 63)).toInt64
def Fsigns : Nat → Int64 → Nat → Int32
  | 0, _, i => nI i
  | k + 1, r, i => if lg_cmp r 0 = 0 then nI i else if Fin3 (r &&& 255).toInt32 33 126 = 0 then 0 else Fsigns k (xshr8 r) (i + 1)
theorem Fsigns_nat : ∀ (k i : Nat) (r : Int64), ∃ m, Fsigns k r i = nI m ∧ m ≤ i + k
  | 0, i, _ => ⟨i, rfl, Nat.le_refl _⟩
  | k + 1, i, r => by
    unfold Fsigns
    split
    · exact ⟨i, rfl, by omega⟩
    · split
      · exact ⟨0, rfl, by omega⟩
      · obtain ⟨m, h1, h2⟩ := Fsigns_nat k (i + 1) (xshr8 r)
        exact ⟨m, h1, by omega⟩
def xchar (x : Int64) (k : Nat) : Int32 := ((((x.toUInt64 >>> ((nI 8 * nI k).toInt64.toUInt64 &&& Int64.toUInt64 63)).toInt64 &&& 255).toInt32).toUInt32 % 65536).toInt32
theorem xchar_nar {x : Int64} {k : Nat} : narrow .char (.int (xchar x k)) = .int (xchar x k) := by
  unfold xchar
  show Value.int ((_ : UInt32) % 65536).toInt32 = _
  congr 2
  apply UInt32.toNat_inj.mp
  simp
theorem xnI2 (a : Nat) : nI a + 2 = nI (a + 2) := nI_add a 2
theorem xnneg {k : Nat} (h : k < 2 ^ 31) : ¬ nI (k + 1) - 1 < 0 := by
  rw [← nI_1, Int32.add_sub_cancel]
  exact Int32.not_lt.mpr (nI_pos' h)
theorem xdn1 {k : Nat} : nI (k + 1) - 1 = nI k := by rw [← nI_1, Int32.add_sub_cancel]
theorem xsub1 {x : Int32} : x + (-1) = x - 1 := by rw [Int32.sub_eq_add_neg]
def Papp (p : Nat → Int32) : Nat → Int32 := if p 2 < 80 then va_up p 2 (p 2 + 1) else p
def Sapp (c : Int32) (p s : Nat → Int32) : Nat → Int32 := if p 2 < 80 then va_up s (p 2).toNatClampNeg c else s
def Fput : Nat → Int64 → xPS → xPS
  | 0, _, q => q
  | k + 1, x, q => Fput k x (Papp q.1, Sapp (xchar x k) q.1 q.2)
def Fputs (x : Int64) (q : xPS) : xPS × Int32 :=
  if Fsigns 8 x 0 = 0 then (q, -2) else if 80 < q.1 2 + Fsigns 8 x 0 then (q, -4) else (Fput (Fsigns 8 x 0).toNatClampNeg x q, (Fput (Fsigns 8 x 0).toNatClampNeg x q).1 2)
theorem Pok_app {p : Nat → Int32} (h : Pok p) : Pok (Papp p) := by
  unfold Papp
  split
  · rename_i h1
    obtain ⟨a1, a2, a3⟩ := h
    have h2 : (p 2).toNatClampNeg < 80 := (xix (n := 80) (by rw [a1]; exact nI_pos' (by omega)) h1 (by decide)).1
    have e : p 2 + 1 = nI ((p 2).toNatClampNeg + 1) := by rw [a1, nI_clamp (by omega)]; exact nI_1 _
    refine ⟨?_, ?_, a3⟩
    · show p 2 + 1 = nI (p 2 + 1).toNatClampNeg
      rw [e, nI_clamp (by omega)]
    · show (p 2 + 1).toNatClampNeg ≤ 80
      rw [e, nI_clamp (by omega)]
      omega
  · exact h
theorem Cok_app {p s : Nat → Int32} {x : Int64} {k : Nat} (h : Cok s) : Cok (Sapp (xchar x k) p s) := by
  intro j hj
  unfold Sapp
  split
  · unfold va_up
    split
    · exact xchar_nar
    · exact h j hj
  · exact h j hj
theorem Pok_put : ∀ (k : Nat) (x : Int64) (q : xPS), Pok q.1 → Pok (Fput k x q).1
  | 0, _, _, h => h
  | k + 1, x, q, h => Pok_put k x _ (Pok_app h)
theorem Cok_put : ∀ (k : Nat) (x : Int64) (q : xPS), Cok q.2 → Cok (Fput k x q).2
  | 0, _, _, h => h
  | k + 1, x, q, h => Cok_put k x _ (Cok_app h)
theorem hdS_yX6_countSigns : yX6_countSigns.cls ≠ "java/lang/invoke/MethodHandle" ∧ yX6_countSigns.cls ≠ "java/lang/invoke/VarHandle" ∧ (parseMethodDescriptor yX6_countSigns.desc).map (fun d => d.parameters.length) = some 1 := by decide +kernel
theorem hdV_yX6_put : yX6_put.cls = RX6 ∧ yX6_put.cls ≠ "java/lang/invoke/MethodHandle" ∧ yX6_put.cls ≠ "java/lang/invoke/VarHandle" ∧ (parseMethodDescriptor yX6_put.desc).map (fun d => d.parameters.length) = some 1 := by decide +kernel
theorem hdV_yX6_wipe : yX6_wipe.cls = RX6 ∧ yX6_wipe.cls ≠ "java/lang/invoke/MethodHandle" ∧ yX6_wipe.cls ≠ "java/lang/invoke/VarHandle" ∧ (parseMethodDescriptor yX6_wipe.desc).map (fun d => d.parameters.length) = some 0 := by decide +kernel
theorem hdV_yX6_fault : yX6_fault.cls = RX6 ∧ yX6_fault.cls ≠ "java/lang/invoke/MethodHandle" ∧ yX6_fault.cls ≠ "java/lang/invoke/VarHandle" ∧ (parseMethodDescriptor yX6_fault.desc).map (fun d => d.parameters.length) = some 0 := by decide +kernel
theorem hdV_yX6_undo : yX6_undo.cls = RX6 ∧ yX6_undo.cls ≠ "java/lang/invoke/MethodHandle" ∧ yX6_undo.cls ≠ "java/lang/invoke/VarHandle" ∧ (parseMethodDescriptor yX6_undo.desc).map (fun d => d.parameters.length) = some 0 := by decide +kernel
theorem hdV_yX6_save : yX6_save.cls = RX6 ∧ yX6_save.cls ≠ "java/lang/invoke/MethodHandle" ∧ yX6_save.cls ≠ "java/lang/invoke/VarHandle" ∧ (parseMethodDescriptor yX6_save.desc).map (fun d => d.parameters.length) = some 1 := by decide +kernel
theorem hdV_yX6_restore : yX6_restore.cls = RX6 ∧ yX6_restore.cls ≠ "java/lang/invoke/MethodHandle" ∧ yX6_restore.cls ≠ "java/lang/invoke/VarHandle" ∧ (parseMethodDescriptor yX6_restore.desc).map (fun d => d.parameters.length) = some 1 := by decide +kernel
set_option maxHeartbeats 4000000 in
set_option maxRecDepth 100000 in
theorem c_X6_countSigns (l : Launch) (X : xX) (G : xG) {x : Int64}  {res : Int32} (hres : (Fsigns 8 x 0) = res) : XC l yX6_countSigns cX6_countSigns 6 (some .int) 1 22 0 0 X xsh [.long x] 603 603 (xval (xB X) G) (xval (xB X) G) (some (.int res)) := by
  refine XC.of RX6 "countSigns" [(0, .long x)] (by decide) rfl rfl (Nat.le_of_ble_eq_true rfl) rfl ?_
  intro p e s m args below meth c ls hx hb hret hml hts hown hlocks hnm hK hW hl
  have hW : XG X G s.heap [] := hW
  obtain ⟨Q0, hQ0⟩ : ∃ z, z = MQ below (xQ X xsh 603 (xval (xB X) G) (some (.int res))) args s 0 0 (fun q => xB X ≤ q) := ⟨_, rfl⟩
  rw [← hQ0]
  refine lv_lload_n hx hb dX6_countSigns_0 rfl (lv_at hl 0 rfl) ?_
  refine lv_lstore_n (lv' := [(2, .long x), (0, .long x)]) hx hb dX6_countSigns_1 rfl hl (by decide) rfl (fun ls hl => ?_)
  refine lv_iconst (v := nI 0) hx hb dX6_countSigns_2 (by decide) ?_
  refine lv_istore (lv' := [(4, .int (nI 0)), (2, .long x), (0, .long x)]) hx hb dX6_countSigns_3 hl (by decide) rfl (fun ls hl => ?_)
  refine lv_iconst (v := nI 0) hx hb dX6_countSigns_5 (by decide) ?_
  refine lv_istore (lv' := [(5, .int (nI 0)), (4, .int (nI 0)), (2, .long x), (0, .long x)]) hx hb dX6_countSigns_6 hl (by decide) rfl (fun ls hl => ?_)
  have loop_8 : ∀ (k_8 i : Nat) (ra : Int64), i + k_8 = 8 → Fsigns k_8 ra i = Fsigns 8 x 0 → ∀ (H : Heap) (locs : List Loc) (ls : Array Slot), XG X G H locs → lv_has ls 6 [(2, .long ra), (4, .int (nI i)), (5, .int (nI i))] → W p l e { frames := 1, cells := 0, slots := 0, locals := 22 } s m args below meth c H locs 0 0 Q0 (F0 m 8 ls []) := by
    intro k_8
    induction k_8 with
    | zero =>
      intro i ra hik_8  hsp_8 H locs ls hW hl
      refine lv_iload hx hb dX6_countSigns_8 (lv_at hl 2 rfl) ?_
      refine lv_bipush (v := nI 8) hx hb dX6_countSigns_10 (by decide) ?_
      refine lv_icmp_ge (tgt := 53) hx hb dX6_countSigns_12 (by decide) (fun c_1 => ?_) (fun c_1 => absurd (xge_refl (by omega)) c_1)
      refine lv_iload hx hb dX6_countSigns_53 (lv_at hl 1 rfl) ?_
      obtain rfl : nI i = res := by (rw [← hres]) <;> (rw [← hsp_8]; rfl)
      rw [hQ0]
      exact x_iret hx hb hret hlocks rfl hW rfl dX6_countSigns_55
    | succ k_8 ih_8 =>
      intro i ra hik_8  hsp_8 H locs ls hW hl
      refine lv_iload hx hb dX6_countSigns_8 (lv_at hl 2 rfl) ?_
      refine lv_bipush (v := nI 8) hx hb dX6_countSigns_10 (by decide) ?_
      refine lv_icmp_ge (tgt := 53) hx hb dX6_countSigns_12 (by decide) (fun c_2 => absurd c_2 (nI_ge (by omega) (by omega))) (fun c_2 => ?_)
      refine lv_lload_n hx hb dX6_countSigns_15 rfl (lv_at hl 0 rfl) ?_
      refine lv_lconst (v := 0) hx hb dX6_countSigns_16 (by decide) ?_
      refine W.lcmp hx hb dX6_countSigns_17 ?_
      refine lv_if_eq (tgt := 53) hx hb dX6_countSigns_18 (by decide) (fun c_3 => ?_) (fun c_3 => ?_)
      · skip
        refine lv_iload hx hb dX6_countSigns_53 (lv_at hl 1 rfl) ?_
        obtain rfl : nI i = res := by (rw [← hres]) <;> (rw [← hsp_8]; exact (if_pos c_3).symm)
        rw [hQ0]
        exact x_iret hx hb hret hlocks rfl hW rfl dX6_countSigns_55
      · skip
        refine lv_lload_n hx hb dX6_countSigns_21 rfl (lv_at hl 0 rfl) ?_
        refine lv_ldc2 hx hb hown (hts _ xw_766) dX6_countSigns_22 ?_
        refine lv_land hx hb dX6_countSigns_25 ?_
        refine lv_l2i hx hb dX6_countSigns_26 rfl ?_
        refine lv_bipush (v := 33) hx hb dX6_countSigns_27 (by decide) ?_
        refine lv_bipush (v := 126) hx hb dX6_countSigns_29 (by decide) ?_
        refine x_callS hx hb hml hown hts hK hW hl.1 (c_X6_within l X _ (v := (ra &&& 255).toInt32) (lo := 33) (hi := 126) (hres := rfl)) xw_182 xw_144 xw_2 xw_145 hdS_yX6_within ⟨Nat.le_of_ble_eq_true rfl, Nat.le_of_ble_eq_true rfl⟩ rfl (Nat.le_of_ble_eq_true rfl) ⟨Nat.le_refl _, Nat.le_refl _⟩ dX6_countSigns_31 (fun H locs hW => ?_)
        refine lv_if_ne (tgt := 39) hx hb dX6_countSigns_34 (by decide) (fun c_4 => ?_) (fun c_4 => ?_)
        · skip
          refine lv_iinc (v := nI (i + 1)) (lv' := [(4, .int (nI (i + 1))), (2, .long ra), (5, .int (nI i))]) hx hb dX6_countSigns_39 hl (k := 1) rfl (nI_1 i) (by decide) rfl (fun ls hl => ?_)
          refine lv_lload_n hx hb dX6_countSigns_42 rfl (lv_at hl 1 rfl) ?_
          refine lv_bipush (v := nI 8) hx hb dX6_countSigns_43 (by decide) ?_
          refine lv_lushr hx hb dX6_countSigns_45 rfl ?_
          refine lv_lstore_n (lv' := [(2, .long ((ra.toUInt64 >>> ((nI 8).toInt64.toUInt64 &&& Int64.toUInt64 63)).toInt64)), (4, .int (nI (i + 1))), (5, .int (nI i))]) hx hb dX6_countSigns_46 rfl hl (by decide) rfl (fun ls hl => ?_)
          refine lv_iinc (v := nI (i + 1)) (lv' := [(5, .int (nI (i + 1))), (2, .long ((ra.toUInt64 >>> ((nI 8).toInt64.toUInt64 &&& Int64.toUInt64 63)).toInt64)), (4, .int (nI (i + 1)))]) hx hb dX6_countSigns_47 hl (k := 2) rfl (nI_1 i) (by decide) rfl (fun ls hl => ?_)
          refine lv_goto (tgt := 8) hx hb dX6_countSigns_50 (by decide) ?_
          refine ih_8 (i + 1) ((ra.toUInt64 >>> ((nI 8).toInt64.toUInt64 &&& Int64.toUInt64 63)).toInt64) (by omega)  ?_ H locs ls hW (lv_sub hl [1, 2, 0] rfl)
          exact ((if_neg c_3).trans (if_neg c_4)).symm.trans hsp_8
        · skip
          refine lv_iconst (v := 0) hx hb dX6_countSigns_37 (by decide) ?_
          obtain rfl : 0 = res := by (rw [← hres]) <;> (rw [← hsp_8]; exact ((if_neg c_3).trans (if_pos c_4)).symm)
          rw [hQ0]
          exact x_iret hx hb hret hlocks rfl hW rfl dX6_countSigns_38
  exact loop_8 8 0 x (by omega)  rfl _ _ _ hW (lv_sub hl [2, 1, 0] rfl)
set_option maxHeartbeats 4000000 in
set_option maxRecDepth 100000 in
theorem c_X6_put (l : Launch) (X : xX) {S : Nat → xS} {sv hs pf sn nb : Nat → Int32} {ρ : xS} {x : Int64} (hp : Pok pf) (hc : Cok sn) {pf' : Nat → Int32} (ho0 : ((Fputs x (pf, sn)).1.1) = pf') {sn' : Nat → Int32} (ho1 : ((Fputs x (pf, sn)).1.2) = sn') {res : Int32} (hres : ((Fputs x (pf, sn)).2) = res) : XC l yX6_put cX6_put 5 (some .int) 2 47 0 0 X xsh [.ref (xB X + xkey 11 5 0), .long x] 603 603 (xval (xB X) (xGl S (xMi sv hs pf sn nb) ρ)) (xval (xB X) (xGl S (xMi sv hs pf' sn' nb) ρ)) (some (.int res)) := by
  refine XC.of RX6 "put" [(0, .ref (xB X + xkey 11 5 0)), (1, .long x)] (by decide) rfl rfl (Nat.le_of_ble_eq_true rfl) rfl ?_
  intro p e s m args below meth c ls hx hb hret hml hts hown hlocks hnm hK hW hl
  have hW : XG X (xGl S (xMi sv hs pf sn nb) ρ) s.heap [] := hW
  obtain ⟨Q0, hQ0⟩ : ∃ z, z = MQ below (xQ X xsh 603 (xval (xB X) (xGl S (xMi sv hs pf' sn' nb) ρ)) (some (.int res))) args s 0 0 (fun q => xB X ≤ q) := ⟨_, rfl⟩
  rw [← hQ0]
  refine lv_lload_n hx hb dX6_put_0 rfl (lv_at hl 1 rfl) ?_
  refine x_callS hx hb hml hown hts hK hW hl.1 (c_X6_countSigns l X _ (x := x) (hres := rfl)) xw_767 xw_768 xw_2 xw_769 hdS_yX6_countSigns ⟨Nat.le_of_ble_eq_true rfl, Nat.le_of_ble_eq_true rfl⟩ rfl (Nat.le_of_ble_eq_true rfl) ⟨Nat.le_refl _, Nat.le_refl _⟩ dX6_put_1 (fun H locs hW => ?_)
  refine lv_istore_n (lv' := [(3, .int (Fsigns 8 x 0)), (0, .ref (xB X + xkey 11 5 0)), (1, .long x)]) hx hb dX6_put_4 rfl hl (by decide) rfl (fun ls hl => ?_)
  refine lv_iload_n hx hb dX6_put_5 rfl (lv_at hl 0 rfl) ?_
  refine lv_if_ne (tgt := 12) hx hb dX6_put_6 (by decide) (fun c_1 => ?_) (fun c_1 => ?_)
  · skip
    refine lv_aload_n hx hb dX6_put_12 rfl (lv_at hl 1 rfl) ?_
    refine r_getr (C := RX6) (T := TX6) hx hb hts hown hK hW (xF_mi5).1 (xF_mi5).2 inlX6 rfl (by decide) 5 (by decide) (show xro (xkey 11 5 0) 5 = some (xkey 11 2 0) from by decide +kernel) xw_28 rfl dX6_put_13 ?_
    refine r_get hx hb hts hown hK (XG.in11 hW) (C := RX3) (T := TX3) (xF_mi2) inlX3 rfl (by decide) 2 (by decide) (by decide +kernel) xw_635 rfl (x := pf 2) rfl dX6_put_16 ?_
    refine lv_iload_n hx hb dX6_put_19 rfl (lv_at hl 0 rfl) ?_
    refine lv_iadd hx hb dX6_put_20 ?_
    refine lv_bipush (v := 80) hx hb dX6_put_21 (by decide) ?_
    refine lv_icmp_le (tgt := 29) hx hb dX6_put_23 (by decide) (fun c_2 => ?_) (fun c_2 => ?_)
    · skip
      obtain ⟨mm, hm, hm8⟩ := Fsigns_nat 8 0 x
      refine lv_iload_n hx hb dX6_put_29 rfl (lv_at hl 0 rfl) ?_
      refine lv_eqi (y := nI mm) hm ?_
      refine lv_iconst (v := 1) hx hb dX6_put_30 (by decide) ?_
      refine lv_isub hx hb dX6_put_31 ?_
      refine lv_istore (lv' := [(4, .int ((nI mm) - 1)), (3, .int (Fsigns 8 x 0)), (0, .ref (xB X + xkey 11 5 0)), (1, .long x)]) hx hb dX6_put_32 hl (by decide) rfl (fun ls hl => ?_)
      have loop_34 : ∀ (k_34 i : Nat) (pa : Nat → Int32) (sa : Nat → Int32), i + k_34 = mm → Pok pa → Cok sa → Fput k_34 x (pa, sa) = Fput mm x (pf, sn) → ∀ (H : Heap) (locs : List Loc) (ls : Array Slot), XG X (xGl S (xMi sv hs pa sa nb) ρ) H locs → lv_has ls 5 [(0, .ref (xB X + xkey 11 5 0)), (1, .long x), (3, .int (Fsigns 8 x 0)), (4, .int (nI k_34 - 1))] → W p l e { frames := 2, cells := 0, slots := 0, locals := 47 } s m args below meth c H locs 0 0 Q0 (F0 m 34 ls []) := by
        intro k_34
        induction k_34 with
        | zero =>
          intro i pa sa hik_34 hv0_34 hv1_34 hsp_34 H locs ls hW hl
          refine lv_iload hx hb dX6_put_34 (lv_at hl 3 rfl) ?_
          refine lv_if_lt (tgt := 65) hx hb dX6_put_36 (by decide) (fun c_3 => ?_) (fun c_3 => absurd (by decide : nI 0 - 1 < (0 : Int32)) c_3)
          refine lv_aload_n hx hb dX6_put_65 rfl (lv_at hl 0 rfl) ?_
          refine r_getr (C := RX6) (T := TX6) hx hb hts hown hK hW (xF_mi5).1 (xF_mi5).2 inlX6 rfl (by decide) 5 (by decide) (show xro (xkey 11 5 0) 5 = some (xkey 11 2 0) from by decide +kernel) xw_28 rfl dX6_put_66 ?_
          refine r_get hx hb hts hown hK (XG.in11 hW) (C := RX3) (T := TX3) (xF_mi2) inlX3 rfl (by decide) 2 (by decide) (by decide +kernel) xw_635 rfl (x := pa 2) rfl dX6_put_69 ?_
          obtain rfl : pa = pf' := by (rw [← ho0]) <;> (unfold Fputs; rw [if_neg c_1, if_neg (Int32.not_lt.mpr c_2), hm, nI_clamp (by omega), ← hsp_34]; rfl)
          obtain rfl : sa = sn' := by (rw [← ho1]) <;> (unfold Fputs; rw [if_neg c_1, if_neg (Int32.not_lt.mpr c_2), hm, nI_clamp (by omega), ← hsp_34]; rfl)
          obtain rfl : pa 2 = res := by (rw [← hres]) <;> (unfold Fputs; rw [if_neg c_1, if_neg (Int32.not_lt.mpr c_2), hm, nI_clamp (by omega), ← hsp_34]; rfl)
          rw [hQ0]
          exact x_iret hx hb hret hlocks rfl hW rfl dX6_put_72
        | succ k_34 ih_34 =>
          intro i pa sa hik_34 hv0_34 hv1_34 hsp_34 H locs ls hW hl
          refine lv_iload hx hb dX6_put_34 (lv_at hl 3 rfl) ?_
          refine lv_if_lt (tgt := 65) hx hb dX6_put_36 (by decide) (fun c_4 => absurd c_4 (xnneg (by omega))) (fun c_4 => ?_)
          have hl : lv_has ls 5 [(0, .ref (xB X + xkey 11 5 0)), (1, .long x), (3, .int (Fsigns 8 x 0)), (4, .int (nI k_34))] := by have h := hl; rw [xdn1] at h; exact h
          refine lv_aload_n hx hb dX6_put_39 rfl (lv_at hl 0 rfl) ?_
          refine r_getr (C := RX6) (T := TX6) hx hb hts hown hK hW (xF_mi5).1 (xF_mi5).2 inlX6 rfl (by decide) 5 (by decide) (show xro (xkey 11 5 0) 5 = some (xkey 11 2 0) from by decide +kernel) xw_28 rfl dX6_put_40 ?_
          refine lv_lload_n hx hb dX6_put_43 rfl (lv_at hl 1 rfl) ?_
          refine lv_bipush (v := nI 8) hx hb dX6_put_44 (by decide) ?_
          refine lv_iload hx hb dX6_put_46 (lv_at hl 3 rfl) ?_
          refine lv_imul hx hb dX6_put_48 ?_
          refine lv_lushr hx hb dX6_put_49 rfl ?_
          refine lv_ldc2 hx hb hown (hts _ xw_766) dX6_put_50 ?_
          refine lv_land hx hb dX6_put_53 ?_
          refine lv_l2i hx hb dX6_put_54 rfl ?_
          refine lv_i2c hx hb dX6_put_55 rfl ?_
          refine lv_eqi (y := xchar x k_34) rfl ?_
          have hW := XG.in11 hW
          refine x_callV hx hb hml hown hts hK hW hl.1 (c_X3_append l X _ (x := xchar x k_34) (hp := hv0_34) (hch := xchar_nar) (ho0 := rfl) (ho1 := rfl)) (xF_mi2).1 (xF_mi2).2.1 (by decide) rfl xw_770 xw_771 xw_772 xw_27 xw_773 hdV_yX3_append ⟨Nat.le_of_ble_eq_true rfl, Nat.le_of_ble_eq_true rfl⟩ rfl (Nat.le_of_ble_eq_true rfl) ⟨Nat.le_refl _, Nat.le_refl _⟩ dX6_put_56 (fun H locs hW => ?_)
          have hW : XG X (xGl S (xMi sv hs ((if pa 2 < 80 then va_up pa 2 (pa 2 + 1) else pa)) ((if pa 2 < 80 then va_up sa (pa 2).toNatClampNeg (xchar x k_34) else sa)) nb) ρ) H locs := XG.out11 hW
          have hp_5 : Pok ((if pa 2 < 80 then va_up pa 2 (pa 2 + 1) else pa)) := Pok_app hv0_34
          refine lv_iinc (v := nI k_34 - 1) (lv' := [(4, .int (nI k_34 - 1)), (0, .ref (xB X + xkey 11 5 0)), (1, .long x), (3, .int (Fsigns 8 x 0))]) hx hb dX6_put_59 hl (k := 3) rfl xsub1 (by decide) rfl (fun ls hl => ?_)
          refine lv_goto (tgt := 34) hx hb dX6_put_62 (by decide) ?_
          refine ih_34 (i + 1) ((if pa 2 < 80 then va_up pa 2 (pa 2 + 1) else pa)) ((if pa 2 < 80 then va_up sa (pa 2).toNatClampNeg (xchar x k_34) else sa)) (by omega) hp_5 (Cok_app hv1_34) ?_ H locs ls hW (lv_sub hl [1, 2, 3, 0] rfl)
          rw [← hsp_34]; rfl
      exact loop_34 mm 0 pf sn (by omega) hp hc rfl _ _ _ hW (lv_sub hl [2, 3, 1, 0] rfl)
    · skip
      refine lv_bipush (v := (-4)) hx hb dX6_put_26 (by decide) ?_
      obtain rfl : pf = pf' := by (rw [← ho0]) <;> (simp [Fputs, c_1, c_2, Int32.not_le.mp c_2])
      obtain rfl : sn = sn' := by (rw [← ho1]) <;> (simp [Fputs, c_1, c_2, Int32.not_le.mp c_2])
      obtain rfl : (-4) = res := by (rw [← hres]) <;> (simp [Fputs, c_1, c_2, Int32.not_le.mp c_2])
      rw [hQ0]
      exact x_iret hx hb hret hlocks rfl hW rfl dX6_put_28
  · skip
    refine lv_bipush (v := (-2)) hx hb dX6_put_9 (by decide) ?_
    obtain rfl : pf = pf' := by (rw [← ho0]) <;> (simp [Fputs, c_1])
    obtain rfl : sn = sn' := by (rw [← ho1]) <;> (simp [Fputs, c_1])
    obtain rfl : (-2) = res := by (rw [← hres]) <;> (simp [Fputs, c_1])
    rw [hQ0]
    exact x_iret hx hb hret hlocks rfl hW rfl dX6_put_11
set_option maxHeartbeats 4000000 in
set_option maxRecDepth 100000 in
theorem c_X6_wipe (l : Launch) (X : xX) {S : Nat → xS} {sv hs pf sn nb : Nat → Int32} {ρ : xS}   {pf' : Nat → Int32} (ho0 : (va_up pf 2 0) = pf') {res : Int32} (hres : (pf 2) = res) : XC l yX6_wipe cX6_wipe 2 (some .int) 1 20 0 0 X xsh [.ref (xB X + xkey 11 5 0)] 603 603 (xval (xB X) (xGl S (xMi sv hs pf sn nb) ρ)) (xval (xB X) (xGl S (xMi sv hs pf' sn nb) ρ)) (some (.int res)) := by
  refine XC.of RX6 "wipe" [(0, .ref (xB X + xkey 11 5 0))] (by decide) rfl rfl (Nat.le_of_ble_eq_true rfl) rfl ?_
  intro p e s m args below meth c ls hx hb hret hml hts hown hlocks hnm hK hW hl
  have hW : XG X (xGl S (xMi sv hs pf sn nb) ρ) s.heap [] := hW
  obtain ⟨Q0, hQ0⟩ : ∃ z, z = MQ below (xQ X xsh 603 (xval (xB X) (xGl S (xMi sv hs pf' sn nb) ρ)) (some (.int res))) args s 0 0 (fun q => xB X ≤ q) := ⟨_, rfl⟩
  rw [← hQ0]
  refine lv_aload_n hx hb dX6_wipe_0 rfl (lv_at hl 0 rfl) ?_
  refine r_getr (C := RX6) (T := TX6) hx hb hts hown hK hW (xF_mi5).1 (xF_mi5).2 inlX6 rfl (by decide) 5 (by decide) (show xro (xkey 11 5 0) 5 = some (xkey 11 2 0) from by decide +kernel) xw_28 rfl dX6_wipe_1 ?_
  refine r_get hx hb hts hown hK (XG.in11 hW) (C := RX3) (T := TX3) (xF_mi2) inlX3 rfl (by decide) 2 (by decide) (by decide +kernel) xw_635 rfl (x := pf 2) rfl dX6_wipe_4 ?_
  refine lv_istore_n (lv' := [(1, .int (pf 2)), (0, .ref (xB X + xkey 11 5 0))]) hx hb dX6_wipe_7 rfl hl (by decide) rfl (fun ls hl => ?_)
  refine lv_aload_n hx hb dX6_wipe_8 rfl (lv_at hl 1 rfl) ?_
  refine r_getr (C := RX6) (T := TX6) hx hb hts hown hK hW (xF_mi5).1 (xF_mi5).2 inlX6 rfl (by decide) 5 (by decide) (show xro (xkey 11 5 0) 5 = some (xkey 11 2 0) from by decide +kernel) xw_28 rfl dX6_wipe_9 ?_
  have hW := XG.in11 hW
  refine x_callV hx hb hml hown hts hK hW hl.1 (c_X3_clear l X _   (ho0 := rfl)) (xF_mi2).1 (xF_mi2).2.1 (by decide) rfl xw_784 xw_785 xw_786 xw_27 xw_787 hdV_yX3_clear ⟨Nat.le_of_ble_eq_true rfl, Nat.le_of_ble_eq_true rfl⟩ rfl (Nat.le_of_ble_eq_true rfl) ⟨Nat.le_refl _, Nat.le_refl _⟩ dX6_wipe_12 (fun H locs hW => ?_)
  have hW : XG X (xGl S (xMi sv hs (va_up pf 2 0) sn nb) ρ) H locs := XG.out11 hW
  refine lv_iload_n hx hb dX6_wipe_15 rfl (lv_at hl 0 rfl) ?_
  obtain rfl : (va_up pf 2 0) = pf' := by (rw [← ho0]) <;> (skip)
  obtain rfl : pf 2 = res := by (rw [← hres]) <;> (skip)
  rw [hQ0]
  exact x_iret hx hb hret hlocks rfl hW rfl dX6_wipe_16
set_option maxHeartbeats 4000000 in
set_option maxRecDepth 100000 in
theorem c_X6_fault (l : Launch) (X : xX) {S : Nat → xS} {sv hs pf sn nb : Nat → Int32} {ρ : xS}  (hp : Pok pf) (hc : Cok sn) {pf' : Nat → Int32} (ho0 : ((Ffirst sn (pf, nb)).1.1) = pf') {nb' : Nat → Int32} (ho1 : ((Ffirst sn (pf, nb)).1.2) = nb') {res : Int32} (hres : ((Ffirst sn (pf, nb)).2) = res) : XC l yX6_fault cX6_fault 1 (some .int) 5 106 0 0 X xsh [.ref (xB X + xkey 11 5 0)] 603 603 (xval (xB X) (xGl S (xMi sv hs pf sn nb) ρ)) (xval (xB X) (xGl S (xMi sv hs pf' sn nb') ρ)) (some (.int res)) := by
  refine XC.of RX6 "fault" [(0, .ref (xB X + xkey 11 5 0))] (by decide) rfl rfl (Nat.le_of_ble_eq_true rfl) rfl ?_
  intro p e s m args below meth c ls hx hb hret hml hts hown hlocks hnm hK hW hl
  have hW : XG X (xGl S (xMi sv hs pf sn nb) ρ) s.heap [] := hW
  obtain ⟨Q0, hQ0⟩ : ∃ z, z = MQ below (xQ X xsh 603 (xval (xB X) (xGl S (xMi sv hs pf' sn nb') ρ)) (some (.int res))) args s 0 0 (fun q => xB X ≤ q) := ⟨_, rfl⟩
  rw [← hQ0]
  refine lv_aload_n hx hb dX6_fault_0 rfl (lv_at hl 0 rfl) ?_
  refine r_getr (C := RX6) (T := TX6) hx hb hts hown hK hW (xF_mi5).1 (xF_mi5).2 inlX6 rfl (by decide) 5 (by decide) (show xro (xkey 11 5 0) 5 = some (xkey 11 2 0) from by decide +kernel) xw_28 rfl dX6_fault_1 ?_
  have hW := XG.in11 hW
  obtain ⟨q_1, eq_1⟩ : ∃ z, z = Ffirst sn (pf, nb) := ⟨_, rfl⟩
  refine x_callV hx hb hml hown hts hK hW hl.1 (c_X3_firstFault l X _  (hp := hp) (hc := (by assumption)) (ho0 := (congrArg (fun z => z.1.1) eq_1.symm)) (ho1 := (congrArg (fun z => z.1.2) eq_1.symm)) (hres := (congrArg (fun z => z.2) eq_1.symm))) (xF_mi2).1 (xF_mi2).2.1 (by decide) rfl xw_796 xw_797 xw_798 xw_27 xw_799 hdV_yX3_firstFault ⟨Nat.le_of_ble_eq_true rfl, Nat.le_of_ble_eq_true rfl⟩ rfl (Nat.le_of_ble_eq_true rfl) ⟨Nat.le_refl _, Nat.le_refl _⟩ dX6_fault_4 (fun H locs hW => ?_)
  have hW : XG X (xGl S (xMi sv hs q_1.1.1 sn q_1.1.2) ρ) H locs := XG.out11 hW
  have hp_2 : Pok q_1.1.1 := by rw [eq_1]; exact Pok_first (q := (pf, nb)) hp
  obtain rfl : q_1.1.1 = pf' := by (rw [← ho0]) <;> (simp [← eq_1])
  obtain rfl : q_1.1.2 = nb' := by (rw [← ho1]) <;> (simp [← eq_1])
  obtain rfl : q_1.2 = res := by (rw [← hres]) <;> (simp [← eq_1])
  rw [hQ0]
  exact x_iret hx hb hret hlocks rfl hW rfl dX6_fault_7
set_option maxHeartbeats 4000000 in
set_option maxRecDepth 100000 in
theorem c_X6_undo (l : Launch) (X : xX) {S : Nat → xS} {sv hs pf sn nb : Nat → Int32} {ρ : xS}  (hS : ∀ r, r < 11 → Sok (S r)) (hH : Hok hs) {S' : Nat → xS} (ho0 : (Sback S hs) = S') {hs' : Nat → Int32} (ho1 : (Fback hs) = hs') {res : Int32} (hres : ((if hs 2 = 0 then -5 else hs 2 - 1)) = res) : XC l yX6_undo cX6_undo 1 (some .int) 4 104 0 0 X xsh [.ref (xB X + xkey 11 5 0)] 603 603 (xval (xB X) (xGl S (xMi sv hs pf sn nb) ρ)) (xval (xB X) (xGl S' (xMi sv hs' pf sn nb) ρ)) (some (.int res)) := by
  refine XC.of RX6 "undo" [(0, .ref (xB X + xkey 11 5 0))] (by decide) rfl rfl (Nat.le_of_ble_eq_true rfl) rfl ?_
  intro p e s m args below meth c ls hx hb hret hml hts hown hlocks hnm hK hW hl
  have hW : XG X (xGl S (xMi sv hs pf sn nb) ρ) s.heap [] := hW
  obtain ⟨Q0, hQ0⟩ : ∃ z, z = MQ below (xQ X xsh 603 (xval (xB X) (xGl S' (xMi sv hs' pf sn nb) ρ)) (some (.int res))) args s 0 0 (fun q => xB X ≤ q) := ⟨_, rfl⟩
  rw [← hQ0]
  refine lv_aload_n hx hb dX6_undo_0 rfl (lv_at hl 0 rfl) ?_
  refine r_getr (C := RX6) (T := TX6) hx hb hts hown hK hW (xF_mi5).1 (xF_mi5).2 inlX6 rfl (by decide) 4 (by decide) (show xro (xkey 11 5 0) 4 = some (xkey 11 1 0) from by decide +kernel) xw_24 rfl dX6_undo_1 ?_
  refine lv_aload_n hx hb dX6_undo_4 rfl (lv_at hl 0 rfl) ?_
  refine r_getr (C := RX6) (T := TX6) hx hb hts hown hK hW (xF_mi5).1 (xF_mi5).2 inlX6 rfl (by decide) 0 (by decide) (show xro (xkey 11 5 0) 0 = some (xkey 0 0 0) from by decide +kernel) xw_16 rfl dX6_undo_5 ?_
  refine x_callV hx hb hml hown hts hK hW hl.1 (c_X0_takeBack l X   (hS := hS) (hH := hH) (ho0 := rfl) (ho1 := rfl) (hres := rfl)) (xF_mi1).1 (xF_mi1).2.1 (by decide) rfl xw_911 xw_912 xw_913 xw_23 xw_914 hdV_yX0_takeBack ⟨Nat.le_of_ble_eq_true rfl, Nat.le_of_ble_eq_true rfl⟩ rfl (Nat.le_of_ble_eq_true rfl) ⟨Nat.le_refl _, Nat.le_refl _⟩ dX6_undo_8 (fun H locs hW => ?_)
  have hW : XG X (xGl (Sback S hs) (xMi sv (Fback hs) pf sn nb) ρ) H locs := hW
  obtain rfl : (Sback S hs) = S' := by (rw [← ho0]) <;> (skip)
  obtain rfl : (Fback hs) = hs' := by (rw [← ho1]) <;> (skip)
  obtain rfl : (if hs 2 = 0 then -5 else hs 2 - 1) = res := by (rw [← hres]) <;> (skip)
  rw [hQ0]
  exact x_iret hx hb hret hlocks rfl hW rfl dX6_undo_11
set_option maxHeartbeats 4000000 in
set_option maxRecDepth 100000 in
theorem c_X6_save (l : Launch) (X : xX) {S : Nat → xS} {sv hs pf sn nb : Nat → Int32} {ρ : xS} {x : Int32} (hS : ∀ r, r < 11 → Sok (S r)) {S' : Nat → xS} (ho0 : (if Fin3 x 0 1 = 0 then S else va_up S (9 + x.toNatClampNeg) (s_become (S 0) (S (9 + x.toNatClampNeg)))) = S') {sv' : Nat → Int32} (ho1 : (if Fin3 x 0 1 = 0 then sv else va_up sv x.toNatClampNeg 1) = sv') {res : Int32} (hres : (if Fin3 x 0 1 = 0 then -2 else S 0 0 0 7) = res) : XC l yX6_save cX6_save 2 (some .int) 3 83 0 0 X xsh [.ref (xB X + xkey 11 5 0), .int x] 603 603 (xval (xB X) (xGl S (xMi sv hs pf sn nb) ρ)) (xval (xB X) (xGl S' (xMi sv' hs pf sn nb) ρ)) (some (.int res)) := by
  refine XC.of RX6 "save" [(0, .ref (xB X + xkey 11 5 0)), (1, .int x)] (by decide) rfl rfl (Nat.le_of_ble_eq_true rfl) rfl ?_
  intro p e s m args below meth c ls hx hb hret hml hts hown hlocks hnm hK hW hl
  have hW : XG X (xGl S (xMi sv hs pf sn nb) ρ) s.heap [] := hW
  obtain ⟨Q0, hQ0⟩ : ∃ z, z = MQ below (xQ X xsh 603 (xval (xB X) (xGl S' (xMi sv' hs pf sn nb) ρ)) (some (.int res))) args s 0 0 (fun q => xB X ≤ q) := ⟨_, rfl⟩
  rw [← hQ0]
  refine lv_iload_n hx hb dX6_save_0 rfl (lv_at hl 1 rfl) ?_
  refine lv_iconst (v := 0) hx hb dX6_save_1 (by decide) ?_
  refine lv_iconst (v := 1) hx hb dX6_save_2 (by decide) ?_
  refine x_callS hx hb hml hown hts hK hW hl.1 (c_X6_within l X _ (v := x) (lo := 0) (hi := 1) (hres := rfl)) xw_182 xw_144 xw_2 xw_145 hdS_yX6_within ⟨Nat.le_of_ble_eq_true rfl, Nat.le_of_ble_eq_true rfl⟩ rfl (Nat.le_of_ble_eq_true rfl) ⟨Nat.le_refl _, Nat.le_refl _⟩ dX6_save_3 (fun H locs hW => ?_)
  refine lv_if_ne (tgt := 12) hx hb dX6_save_6 (by decide) (fun c_1 => ?_) (fun c_1 => ?_)
  · skip
    have hx9 := xfin (x := x) (hi := 1) 1 (by decide) (by decide) c_1
    have hx8 := hx9.1
    refine lv_aload_n hx hb dX6_save_12 rfl (lv_at hl 0 rfl) ?_
    refine r_getr (C := RX6) (T := TX6) hx hb hts hown hK hW (xF_mi5).1 (xF_mi5).2 inlX6 rfl (by decide) 2 (by decide) (show xro (xkey 11 5 0) 2 = some (xkey 11 5 107) from by decide +kernel) xw_18 rfl dX6_save_13 ?_
    refine lv_iload_n hx hb dX6_save_16 rfl (lv_at hl 1 rfl) ?_
    refine r_aald hx hb hK hW xF_mi5s.1 xF_mi5s.2 (by decide) 3 rfl x.toNatClampNeg (by omega) (by decide) hx9.2 (xr_slots x.toNatClampNeg (by omega)) dX6_save_17 ?_
    refine lv_aload_n hx hb dX6_save_18 rfl (lv_at hl 0 rfl) ?_
    refine r_getr (C := RX6) (T := TX6) hx hb hts hown hK hW (xF_mi5).1 (xF_mi5).2 inlX6 rfl (by decide) 0 (by decide) (show xro (xkey 11 5 0) 0 = some (xkey 0 0 0) from by decide +kernel) xw_16 rfl dX6_save_19 ?_
    have hW : XR X (xGl S (xMi sv hs pf sn nb) ρ) (9 + x.toNatClampNeg) (xSt ((S (9 + x.toNatClampNeg)) 0 0) ((S (9 + x.toNatClampNeg)) 1 0) ((S (9 + x.toNatClampNeg)) 2) ((S (9 + x.toNatClampNeg)) 3) ((S (9 + x.toNatClampNeg)) 4) ((S (9 + x.toNatClampNeg)) 5) ((S (9 + x.toNatClampNeg)) 6)) _ _ := XG.inS hW (9 + x.toNatClampNeg) (S (9 + x.toNatClampNeg)) (by omega) rfl
    refine x_callV hx hb hml hown hts hK hW hl.1 (c_X4_become l X _ (r := 9 + x.toNatClampNeg) (r2 := 0) (n2 := (cN (S 0))) (nh2 := (cH (S 0))) (nw2 := (cW (S 0))) (hr := (by omega)) (hr2 := (by decide)) (hne := (by omega)) (hn2 := (by rw [xGl_at (r := 0) (by decide)]; exact (hS 0 (by decide)).hn)) (hn2b := (hS 0 (by decide)).hn16) (hh2 := (by rw [xGl_at (r := 0) (by decide)]; exact (hS 0 (by decide)).hh)) (hh2b := (hS 0 (by decide)).hh8) (hw2 := (by rw [xGl_at (r := 0) (by decide)]; exact (hS 0 (by decide)).hw)) (hw2b := (hS 0 (by decide)).hw8) (hbo := (by rw [xGl_at (r := 0) (by decide)]; exact (hS 0 (by decide)).hbo)) (ho0 := rfl) (ho1 := rfl) (ho2 := rfl) (ho3 := rfl) (ho4 := rfl) (ho5 := rfl) (ho6 := rfl)) (xF_street (9 + x.toNatClampNeg) (by omega)).1 (xF_street (9 + x.toNatClampNeg) (by omega)).2.1 (by decide) rfl xw_719 xw_100 xw_101 xw_15 xw_102 hdV_yX4_become ⟨Nat.le_of_ble_eq_true rfl, Nat.le_of_ble_eq_true rfl⟩ rfl (Nat.le_of_ble_eq_true rfl) ⟨Nat.le_refl _, Nat.le_refl _⟩ dX6_save_22 (fun H locs hW => ?_)
    have hW : XR X (xGl S (xMi sv hs pf sn nb) ρ) (9 + x.toNatClampNeg) (s_become (S 0) (S (9 + x.toNatClampNeg))) H locs := by rw [xGl_at (r := 0) (by decide)] at hW; exact hW
    have hW : XG X (xGl (va_up S (9 + x.toNatClampNeg) (s_become (S 0) (S (9 + x.toNatClampNeg)))) (xMi sv hs pf sn nb) ρ) H locs := by have h := XG.outS (by omega) hW; exact h
    have hk_2 : Sok (s_become (S 0) (S (9 + x.toNatClampNeg))) := (Sok_become (hS 0 (by decide)) (hS (9 + x.toNatClampNeg) (by omega)))
    refine lv_aload_n hx hb dX6_save_25 rfl (lv_at hl 0 rfl) ?_
    refine r_getr (C := RX6) (T := TX6) hx hb hts hown hK hW (xF_mi5).1 (xF_mi5).2 inlX6 rfl (by decide) 3 (by decide) (show xro (xkey 11 5 0) 3 = some (xkey 11 0 0) from by decide +kernel) xw_20 rfl dX6_save_26 ?_
    refine lv_iload_n hx hb dX6_save_29 rfl (lv_at hl 1 rfl) ?_
    refine lv_iconst (v := 1) hx hb dX6_save_30 (by decide) ?_
    refine r_zast hx hb hK (XG.in11 hW) (N := 2) (xF_mi0) x.toNatClampNeg (by omega) (by decide) hx9.2 (xr_mi0 x.toNatClampNeg) rfl xMi0 dX6_save_31 (fun H locs hW => ?_)
    have hW : XG X (xGl (va_up S (9 + x.toNatClampNeg) (s_become (S 0) (S (9 + x.toNatClampNeg)))) (xMi (va_up sv x.toNatClampNeg 1) hs pf sn nb) ρ) H locs := XG.out11 hW
    refine lv_aload_n hx hb dX6_save_32 rfl (lv_at hl 0 rfl) ?_
    refine r_getr (C := RX6) (T := TX6) hx hb hts hown hK hW (xF_mi5).1 (xF_mi5).2 inlX6 rfl (by decide) 0 (by decide) (show xro (xkey 11 5 0) 0 = some (xkey 0 0 0) from by decide +kernel) xw_16 rfl dX6_save_33 ?_
    refine r_get hx hb hts hown hK (XG.rdS hW 0 (S 0) (by decide) ((va_up_ne _ _ (show (0 : Nat) ≠ 9 + x.toNatClampNeg by omega)).trans rfl)) (C := RX4) (T := TX4) (xF_street 0 (by omega)) inlX4 rfl (by decide) 7 (by decide) (xr_street 0 (by omega)).2.2.2.2.2.2.2 xw_631 rfl (x := (S 0) 0 0 7) rfl dX6_save_36 ?_
    obtain rfl : (va_up S (9 + x.toNatClampNeg) (s_become (S 0) (S (9 + x.toNatClampNeg)))) = S' := by (rw [← ho0]) <;> (simp [c_1])
    obtain rfl : (va_up sv x.toNatClampNeg 1) = sv' := by (rw [← ho1]) <;> (simp [c_1])
    obtain rfl : (S 0) 0 0 7 = res := by (rw [← hres]) <;> (simp [c_1])
    rw [hQ0]
    exact x_iret hx hb hret hlocks rfl hW rfl dX6_save_39
  · skip
    refine lv_bipush (v := (-2)) hx hb dX6_save_9 (by decide) ?_
    obtain rfl : S = S' := by (rw [← ho0]) <;> (simp [c_1])
    obtain rfl : sv = sv' := by (rw [← ho1]) <;> (simp [c_1])
    obtain rfl : (-2) = res := by (rw [← hres]) <;> (simp [c_1])
    rw [hQ0]
    exact x_iret hx hb hret hlocks rfl hW rfl dX6_save_11
set_option maxHeartbeats 4000000 in
set_option maxRecDepth 100000 in
theorem c_X6_restore (l : Launch) (X : xX) {S : Nat → xS} {sv hs pf sn nb : Nat → Int32} {ρ : xS} {x : Int32} (hS : ∀ r, r < 11 → Sok (S r)) (hH : Hok hs) {S' : Nat → xS} (ho0 : (if Fin3 x 0 1 = 0 then S else if sv x.toNatClampNeg = 0 then S else va_up (Sdraft S hs) 0 (s_become (S (9 + x.toNatClampNeg)) (S 0))) = S') {hs' : Nat → Int32} (ho1 : (if Fin3 x 0 1 = 0 then hs else if sv x.toNatClampNeg = 0 then hs else Fkeep (s_become (S (9 + x.toNatClampNeg)) (S 0) 0 0 7) hs) = hs') {res : Int32} (hres : (if Fin3 x 0 1 = 0 then -2 else if sv x.toNatClampNeg = 0 then -5 else s_become (S (9 + x.toNatClampNeg)) (S 0) 0 0 7) = res) : XC l yX6_restore cX6_restore 2 (some .int) 4 104 0 0 X xsh [.ref (xB X + xkey 11 5 0), .int x] 603 603 (xval (xB X) (xGl S (xMi sv hs pf sn nb) ρ)) (xval (xB X) (xGl S' (xMi sv hs' pf sn nb) ρ)) (some (.int res)) := by
  refine XC.of RX6 "restore" [(0, .ref (xB X + xkey 11 5 0)), (1, .int x)] (by decide) rfl rfl (Nat.le_of_ble_eq_true rfl) rfl ?_
  intro p e s m args below meth c ls hx hb hret hml hts hown hlocks hnm hK hW hl
  have hW : XG X (xGl S (xMi sv hs pf sn nb) ρ) s.heap [] := hW
  obtain ⟨Q0, hQ0⟩ : ∃ z, z = MQ below (xQ X xsh 603 (xval (xB X) (xGl S' (xMi sv hs' pf sn nb) ρ)) (some (.int res))) args s 0 0 (fun q => xB X ≤ q) := ⟨_, rfl⟩
  rw [← hQ0]
  have hd6 := hH.2.1
  refine lv_iload_n hx hb dX6_restore_0 rfl (lv_at hl 1 rfl) ?_
  refine lv_iconst (v := 0) hx hb dX6_restore_1 (by decide) ?_
  refine lv_iconst (v := 1) hx hb dX6_restore_2 (by decide) ?_
  refine x_callS hx hb hml hown hts hK hW hl.1 (c_X6_within l X _ (v := x) (lo := 0) (hi := 1) (hres := rfl)) xw_182 xw_144 xw_2 xw_145 hdS_yX6_within ⟨Nat.le_of_ble_eq_true rfl, Nat.le_of_ble_eq_true rfl⟩ rfl (Nat.le_of_ble_eq_true rfl) ⟨Nat.le_refl _, Nat.le_refl _⟩ dX6_restore_3 (fun H locs hW => ?_)
  refine lv_if_ne (tgt := 12) hx hb dX6_restore_6 (by decide) (fun c_1 => ?_) (fun c_1 => ?_)
  · skip
    have hx9 := xfin (x := x) (hi := 1) 1 (by decide) (by decide) c_1
    have hx8 := hx9.1
    refine lv_aload_n hx hb dX6_restore_12 rfl (lv_at hl 0 rfl) ?_
    refine r_getr (C := RX6) (T := TX6) hx hb hts hown hK hW (xF_mi5).1 (xF_mi5).2 inlX6 rfl (by decide) 3 (by decide) (show xro (xkey 11 5 0) 3 = some (xkey 11 0 0) from by decide +kernel) xw_20 rfl dX6_restore_13 ?_
    refine lv_iload_n hx hb dX6_restore_16 rfl (lv_at hl 1 rfl) ?_
    refine r_zald hx hb hK (XG.in11 hW) (N := 2) (xF_mi0) x.toNatClampNeg (by omega) (by decide) hx9.2 (xr_mi0 x.toNatClampNeg) (x := sv x.toNatClampNeg) rfl dX6_restore_17 ?_
    refine lv_if_ne (tgt := 24) hx hb dX6_restore_18 (by decide) (fun c_2 => ?_) (fun c_2 => ?_)
    · skip
      refine lv_aload_n hx hb dX6_restore_24 rfl (lv_at hl 0 rfl) ?_
      refine r_getr (C := RX6) (T := TX6) hx hb hts hown hK hW (xF_mi5).1 (xF_mi5).2 inlX6 rfl (by decide) 4 (by decide) (show xro (xkey 11 5 0) 4 = some (xkey 11 1 0) from by decide +kernel) xw_24 rfl dX6_restore_25 ?_
      refine lv_aload_n hx hb dX6_restore_28 rfl (lv_at hl 0 rfl) ?_
      refine r_getr (C := RX6) (T := TX6) hx hb hts hown hK hW (xF_mi5).1 (xF_mi5).2 inlX6 rfl (by decide) 0 (by decide) (show xro (xkey 11 5 0) 0 = some (xkey 0 0 0) from by decide +kernel) xw_16 rfl dX6_restore_29 ?_
      refine x_callV hx hb hml hown hts hK hW hl.1 (c_X0_draft l X   (hS := hS) (hH := hH) (ho0 := rfl)) (xF_mi1).1 (xF_mi1).2.1 (by decide) rfl xw_94 xw_95 xw_96 xw_23 xw_97 hdV_yX0_draft ⟨Nat.le_of_ble_eq_true rfl, Nat.le_of_ble_eq_true rfl⟩ rfl (Nat.le_of_ble_eq_true rfl) ⟨Nat.le_refl _, Nat.le_refl _⟩ dX6_restore_32 (fun H locs hW => ?_)
      have hk_3 : Sok (s_become (S 0) (S (2 + (hs 1).toNatClampNeg))) := Sok_become (hS 0 (by decide)) (hS _ (by have := hH.2.1; omega))
      have hW : XG X (xGl (va_up S (2 + (hs 1).toNatClampNeg) (s_become (S 0) (S (2 + (hs 1).toNatClampNeg)))) (xMi sv hs pf sn nb) ρ) H locs := hW
      refine lv_aload_n hx hb dX6_restore_35 rfl (lv_at hl 0 rfl) ?_
      refine r_getr (C := RX6) (T := TX6) hx hb hts hown hK hW (xF_mi5).1 (xF_mi5).2 inlX6 rfl (by decide) 0 (by decide) (show xro (xkey 11 5 0) 0 = some (xkey 0 0 0) from by decide +kernel) xw_16 rfl dX6_restore_36 ?_
      refine lv_aload_n hx hb dX6_restore_39 rfl (lv_at hl 0 rfl) ?_
      refine r_getr (C := RX6) (T := TX6) hx hb hts hown hK hW (xF_mi5).1 (xF_mi5).2 inlX6 rfl (by decide) 2 (by decide) (show xro (xkey 11 5 0) 2 = some (xkey 11 5 107) from by decide +kernel) xw_18 rfl dX6_restore_40 ?_
      refine lv_iload_n hx hb dX6_restore_43 rfl (lv_at hl 1 rfl) ?_
      refine r_aald hx hb hK hW xF_mi5s.1 xF_mi5s.2 (by decide) 3 rfl x.toNatClampNeg (by omega) (by decide) hx9.2 (xr_slots x.toNatClampNeg (by omega)) dX6_restore_44 ?_
      have hW : XR X (xGl (va_up S (2 + (hs 1).toNatClampNeg) (s_become (S 0) (S (2 + (hs 1).toNatClampNeg)))) (xMi sv hs pf sn nb) ρ) 0 (xSt ((S 0) 0 0) ((S 0) 1 0) ((S 0) 2) ((S 0) 3) ((S 0) 4) ((S 0) 5) ((S 0) 6)) _ _ := XG.inS hW 0 (S 0) (by decide) ((va_up_ne _ _ (show (0 : Nat) ≠ 2 + (hs 1).toNatClampNeg by omega)).trans rfl)
      refine x_callV hx hb hml hown hts hK hW hl.1 (c_X4_become l X _ (r := 0) (r2 := 9 + x.toNatClampNeg) (n2 := (cN (S (9 + x.toNatClampNeg)))) (nh2 := (cH (S (9 + x.toNatClampNeg)))) (nw2 := (cW (S (9 + x.toNatClampNeg)))) (hr := (by decide)) (hr2 := (by omega)) (hne := (by omega)) (hn2 := (by rw [xGl_at (r := 9 + x.toNatClampNeg) (by omega), ((va_up_ne _ _ (show (9 + x.toNatClampNeg : Nat) ≠ 2 + (hs 1).toNatClampNeg by omega)).trans rfl)]; exact (hS (9 + x.toNatClampNeg) (by omega)).hn)) (hn2b := (hS (9 + x.toNatClampNeg) (by omega)).hn16) (hh2 := (by rw [xGl_at (r := 9 + x.toNatClampNeg) (by omega), ((va_up_ne _ _ (show (9 + x.toNatClampNeg : Nat) ≠ 2 + (hs 1).toNatClampNeg by omega)).trans rfl)]; exact (hS (9 + x.toNatClampNeg) (by omega)).hh)) (hh2b := (hS (9 + x.toNatClampNeg) (by omega)).hh8) (hw2 := (by rw [xGl_at (r := 9 + x.toNatClampNeg) (by omega), ((va_up_ne _ _ (show (9 + x.toNatClampNeg : Nat) ≠ 2 + (hs 1).toNatClampNeg by omega)).trans rfl)]; exact (hS (9 + x.toNatClampNeg) (by omega)).hw)) (hw2b := (hS (9 + x.toNatClampNeg) (by omega)).hw8) (hbo := (by rw [xGl_at (r := 9 + x.toNatClampNeg) (by omega), ((va_up_ne _ _ (show (9 + x.toNatClampNeg : Nat) ≠ 2 + (hs 1).toNatClampNeg by omega)).trans rfl)]; exact (hS (9 + x.toNatClampNeg) (by omega)).hbo)) (ho0 := rfl) (ho1 := rfl) (ho2 := rfl) (ho3 := rfl) (ho4 := rfl) (ho5 := rfl) (ho6 := rfl)) (xF_street 0 (by omega)).1 (xF_street 0 (by omega)).2.1 (by decide) rfl xw_719 xw_100 xw_101 xw_15 xw_102 hdV_yX4_become ⟨Nat.le_of_ble_eq_true rfl, Nat.le_of_ble_eq_true rfl⟩ rfl (Nat.le_of_ble_eq_true rfl) ⟨Nat.le_refl _, Nat.le_refl _⟩ dX6_restore_45 (fun H locs hW => ?_)
      have hW : XR X (xGl (va_up S (2 + (hs 1).toNatClampNeg) (s_become (S 0) (S (2 + (hs 1).toNatClampNeg)))) (xMi sv hs pf sn nb) ρ) 0 (s_become (S (9 + x.toNatClampNeg)) (S 0)) H locs := by rw [xGl_at (r := 9 + x.toNatClampNeg) (by omega), ((va_up_ne _ _ (show (9 + x.toNatClampNeg : Nat) ≠ 2 + (hs 1).toNatClampNeg by omega)).trans rfl)] at hW; exact hW
      have hW : XG X (xGl (va_up (va_up S (2 + (hs 1).toNatClampNeg) (s_become (S 0) (S (2 + (hs 1).toNatClampNeg)))) 0 (s_become (S (9 + x.toNatClampNeg)) (S 0))) (xMi sv hs pf sn nb) ρ) H locs := by have h := XG.outS (by decide) hW; exact h
      have hk_4 : Sok (s_become (S (9 + x.toNatClampNeg)) (S 0)) := (Sok_become (hS (9 + x.toNatClampNeg) (by omega)) (hS 0 (by decide)))
      refine lv_aload_n hx hb dX6_restore_48 rfl (lv_at hl 0 rfl) ?_
      refine r_getr (C := RX6) (T := TX6) hx hb hts hown hK hW (xF_mi5).1 (xF_mi5).2 inlX6 rfl (by decide) 4 (by decide) (show xro (xkey 11 5 0) 4 = some (xkey 11 1 0) from by decide +kernel) xw_24 rfl dX6_restore_49 ?_
      refine lv_aload_n hx hb dX6_restore_52 rfl (lv_at hl 0 rfl) ?_
      refine r_getr (C := RX6) (T := TX6) hx hb hts hown hK hW (xF_mi5).1 (xF_mi5).2 inlX6 rfl (by decide) 0 (by decide) (show xro (xkey 11 5 0) 0 = some (xkey 0 0 0) from by decide +kernel) xw_16 rfl dX6_restore_53 ?_
      refine r_get hx hb hts hown hK (XG.rdS hW 0 (s_become (S (9 + x.toNatClampNeg)) (S 0)) (by decide) va_up_at) (C := RX4) (T := TX4) (xF_street 0 (by omega)) inlX4 rfl (by decide) 7 (by decide) (xr_street 0 (by omega)).2.2.2.2.2.2.2 xw_631 rfl (x := (s_become (S (9 + x.toNatClampNeg)) (S 0)) 0 0 7) rfl dX6_restore_56 ?_
      have hW := XG.in11 hW
      refine x_callV hx hb hml hown hts hK hW hl.1 (c_X0_keepUnlessError l X _ (a := (s_become (S (9 + x.toNatClampNeg)) (S 0)) 0 0 7)  (ho0 := rfl) (hres := rfl)) (xF_mi1).1 (xF_mi1).2.1 (by decide) rfl xw_146 xw_147 xw_148 xw_23 xw_149 hdV_yX0_keepUnlessError ⟨Nat.le_of_ble_eq_true rfl, Nat.le_of_ble_eq_true rfl⟩ rfl (Nat.le_of_ble_eq_true rfl) ⟨Nat.le_refl _, Nat.le_refl _⟩ dX6_restore_59 (fun H locs hW => ?_)
      have hW : XG X (xGl (va_up (va_up S (2 + (hs 1).toNatClampNeg) (s_become (S 0) (S (2 + (hs 1).toNatClampNeg)))) 0 (s_become (S (9 + x.toNatClampNeg)) (S 0))) (xMi sv (Fkeep ((s_become (S (9 + x.toNatClampNeg)) (S 0)) 0 0 7) hs) pf sn nb) ρ) H locs := XG.out11 hW
      obtain rfl : (va_up (va_up S (2 + (hs 1).toNatClampNeg) (s_become (S 0) (S (2 + (hs 1).toNatClampNeg)))) 0 (s_become (S (9 + x.toNatClampNeg)) (S 0))) = S' := by (rw [← ho0]) <;> (simp [Sdraft, c_1, c_2])
      obtain rfl : (Fkeep ((s_become (S (9 + x.toNatClampNeg)) (S 0)) 0 0 7) hs) = hs' := by (rw [← ho1]) <;> (simp [Sdraft, c_1, c_2])
      obtain rfl : (s_become (S (9 + x.toNatClampNeg)) (S 0)) 0 0 7 = res := by (rw [← hres]) <;> (simp [Sdraft, c_1, c_2])
      rw [hQ0]
      exact x_iret hx hb hret hlocks rfl hW rfl dX6_restore_62
    · skip
      refine lv_bipush (v := (-5)) hx hb dX6_restore_21 (by decide) ?_
      obtain rfl : S = S' := by (rw [← ho0]) <;> (simp [Sdraft, c_1, c_2])
      obtain rfl : hs = hs' := by (rw [← ho1]) <;> (simp [Sdraft, c_1, c_2])
      obtain rfl : (-5) = res := by (rw [← hres]) <;> (simp [Sdraft, c_1, c_2])
      rw [hQ0]
      exact x_iret hx hb hret hlocks rfl hW rfl dX6_restore_23
  · skip
    refine lv_bipush (v := (-2)) hx hb dX6_restore_9 (by decide) ?_
    obtain rfl : S = S' := by (rw [← ho0]) <;> (simp [Sdraft, c_1])
    obtain rfl : hs = hs' := by (rw [← ho1]) <;> (simp [Sdraft, c_1])
    obtain rfl : (-2) = res := by (rw [← hres]) <;> (simp [Sdraft, c_1])
    rw [hQ0]
    exact x_iret hx hb hret hlocks rfl hW rfl dX6_restore_11
