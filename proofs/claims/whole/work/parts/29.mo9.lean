/-! ===== the model: undo, saving, the pad's signs ===== -/
def Mrow (b : Nat → Int32) (p : Nat) : Nat → Int32 := fun k => b (440 * p + k)
def Mup (pf pm : Nat) : Nat := (pf + (pm - 1)) % 6
def Mund {α : Type} (pm : Nat) (A B : α) : α := if nI pm = 0 then A else B
def MsB (s : Nat) (a b : Nat → Int32) : Nat → Int32 := xloop (fun k b => va_up b (440 * s + k) (a k)) 440 0 b
def Msv {α : Type} (x : Int32) (A B : α) : α := if Fin3 x 0 1 = 0 then A else B
def Mre {α : Type} (x : Int32) (d : Nat → Int32) (A B C : α) : α := if Fin3 x 0 1 = 0 then A else if d x.toNatClampNeg = 0 then B else C
theorem xatv {r : Nat → Int32} {k : Nat} (h : xat (vS r) (vL r) (vO r) (vY r) k = r k) : r k = xat (vS r) (vL r) (vO r) (vY r) k := h.symm
theorem xnile {a : Nat} {x : Int32} (k : Nat) (hx : x = nI k) (ha : a < 2 ^ 31) (h : nI a ≤ x) : a ≤ k := by
  rcases Nat.lt_or_ge k a with q | q
  · exact absurd h (by rw [hx]; exact Int32.not_le.mpr (nI_lt q ha))
  · exact q
def Mcnt : Nat → Int64 → Nat → Nat × Int64 × Int32
  | 0, r, i => (i, r, 1)
  | k + 1, r, i => if lg_cmp (r &&& 255) 0 = 0 then (i, r, 1) else if Fin3 (r &&& 255).toInt32 33 126 = 0 then (i, r, 0) else Mcnt k (xshr8 r) (i + 1)
def MpC (x : Int64) (i k : Nat) : Int32 := ((x >>> ((8 * (nI i - 1 - nI k)).toInt64 &&& 63)) &&& 255).toInt32
def MpS (x : Int64) (i pn : Nat) (p : Nat → Int32) : Nat → Int32 := xloop (fun k p => va_up p (pn + k) (MpC x i k)) i 0 p
def Mput {α : Type} (x : Int64) (pn : Nat) (A B : α) (C : Nat → α) : α := if (Mcnt 8 x 0).2.2 = 0 then A else if nI (Mcnt 8 x 0).1 = 0 then A else if ¬ lg_cmp (Mcnt 8 x 0).2.1 0 = 0 then A else if 80 < nI (pn + (Mcnt 8 x 0).1) then B else C (Mcnt 8 x 0).1
theorem hdV_yX7_undo : yX7_undo.cls = RX7 ∧ yX7_undo.cls ≠ "java/lang/invoke/MethodHandle" ∧ yX7_undo.cls ≠ "java/lang/invoke/VarHandle" ∧ (parseMethodDescriptor yX7_undo.desc).map (fun d => d.parameters.length) = some 0 := by decide +kernel
theorem hdV_yX7_save : yX7_save.cls = RX7 ∧ yX7_save.cls ≠ "java/lang/invoke/MethodHandle" ∧ yX7_save.cls ≠ "java/lang/invoke/VarHandle" ∧ (parseMethodDescriptor yX7_save.desc).map (fun d => d.parameters.length) = some 1 := by decide +kernel
theorem hdV_yX7_restore : yX7_restore.cls = RX7 ∧ yX7_restore.cls ≠ "java/lang/invoke/MethodHandle" ∧ yX7_restore.cls ≠ "java/lang/invoke/VarHandle" ∧ (parseMethodDescriptor yX7_restore.desc).map (fun d => d.parameters.length) = some 1 := by decide +kernel
theorem hdV_yX7_wipe : yX7_wipe.cls = RX7 ∧ yX7_wipe.cls ≠ "java/lang/invoke/MethodHandle" ∧ yX7_wipe.cls ≠ "java/lang/invoke/VarHandle" ∧ (parseMethodDescriptor yX7_wipe.desc).map (fun d => d.parameters.length) = some 0 := by decide +kernel
theorem hdV_yX7_put : yX7_put.cls = RX7 ∧ yX7_put.cls ≠ "java/lang/invoke/MethodHandle" ∧ yX7_put.cls ≠ "java/lang/invoke/VarHandle" ∧ (parseMethodDescriptor yX7_put.desc).map (fun d => d.parameters.length) = some 1 := by decide +kernel
set_option maxHeartbeats 4000000 in
set_option maxRecDepth 100000 in
theorem c_X7_undo (l : Launch) (X : xX) (G : xG) {f sg pb pc pd pe pg ph pp pq pt pu : Nat → Int32} {L O Y : Nat → Nat → Int32} {pf pm : Nat} (hpf : f 2 = nI pf) (hpf6 : pf < 6) (hpm : f 3 = nI pm) (hpm6 : pm ≤ 6) {f' : Nat → Int32} (ho0 : (Mund pm f (va_up f 3 (nI (pm - 1)))) = f') {sg' : Nat → Int32} (ho1 : (Mund pm sg (vS (Mrow pb (Mup pf pm)))) = sg') {L' : Nat → Nat → Int32} (ho2 : (Mund pm L (vL (Mrow pb (Mup pf pm)))) = L') {O' : Nat → Nat → Int32} (ho3 : (Mund pm O (vO (Mrow pb (Mup pf pm)))) = O') {Y' : Nat → Nat → Int32} (ho4 : (Mund pm Y (vY (Mrow pb (Mup pf pm)))) = Y') {res : Int32} (hres : (Mund pm (-5) (nI (pm - 1))) = res) : XC l yX7_undo cX7_undo 3 (some .int) 0 0 0 0 X xsh [.ref (xB X + xkey 12 0 0)] 603 603 (xval (xB X) (va_up G 12 (xMa f sg L O Y pb pc pd pe pg ph pp pq pt pu))) (xval (xB X) (va_up G 12 (xMa f' sg' L' O' Y' pb pc pd pe pg ph pp pq pt pu))) (some (.int res)) := by
  refine XC.of RX7 "undo" [(0, .ref (xB X + xkey 12 0 0))] (by decide) rfl rfl (Nat.le_of_ble_eq_true rfl) rfl ?_
  intro p e s m args below meth c ls hx hb hret hml hts hown hlocks hnm hK hW hl
  have hW : XR X G 12 (xMa f sg L O Y pb pc pd pe pg ph pp pq pt pu) s.heap [] := hW
  obtain ⟨Q0, hQ0⟩ : ∃ z, z = MQ below (xQ X xsh 603 (xval (xB X) (va_up G 12 (xMa f' sg' L' O' Y' pb pc pd pe pg ph pp pq pt pu))) (some (.int res))) args s 0 0 (fun q => xB X ≤ q) := ⟨_, rfl⟩
  rw [← hQ0]
  refine lv_aload_n hx hb dX7_undo_0 rfl (lv_at hl 0 rfl) ?_
  refine r_get hx hb hts hown hK hW (C := RX7) (T := TX7) (xF_mo0) inlX7 rfl (by decide) 3 (by decide) (by decide +kernel) xw_169 rfl (x := nI pm) hpm dX7_undo_1 ?_
  refine lv_if_ne (tgt := 10) hx hb dX7_undo_4 (by decide) (fun c_1 => ?_) (fun c_1 => ?_)
  · skip
    have hW : XR X G 12 (xMo f (xat sg L O Y) pb pc pd pe pg ph pp pq pt pu) _ _ := hW
    refine lv_aload_n hx hb dX7_undo_10 rfl (lv_at hl 0 rfl) ?_
    refine lv_dup hx hb dX7_undo_11 rfl ?_
    refine r_get hx hb hts hown hK hW (C := RX7) (T := TX7) (xF_mo0) inlX7 rfl (by decide) 3 (by decide) (by decide +kernel) xw_169 rfl (x := nI pm) hpm dX7_undo_12 ?_
    refine lv_iconst (v := 1) hx hb dX7_undo_15 (by decide) ?_
    refine lv_isub hx hb dX7_undo_16 ?_
    refine lv_eqi (y := nI (pm - 1)) (xnI_pred (xn1 c_1)) ?_
    refine r_put hx hb hts hown hK hW (C := RX7) (T := TX7) (xF_mo0) inlX7 tyX7 tyX7_ok nmX7 rfl (by decide) 3 (by decide) (by decide +kernel) xw_169 rfl rfl rfl rfl xMo0 dX7_undo_17 (fun H locs hW => ?_)
    refine lv_aload_n hx hb dX7_undo_20 rfl (lv_at hl 0 rfl) ?_
    refine r_get hx hb hts hown hK hW (C := RX7) (T := TX7) (xF_mo0) inlX7 rfl (by decide) 2 (by decide) (by decide +kernel) xw_170 rfl (x := nI pf) hpf dX7_undo_21 ?_
    refine lv_aload_n hx hb dX7_undo_24 rfl (lv_at hl 0 rfl) ?_
    refine r_get hx hb hts hown hK hW (C := RX7) (T := TX7) (xF_mo0) inlX7 rfl (by decide) 3 (by decide) (by decide +kernel) xw_169 rfl (x := nI (pm - 1)) rfl dX7_undo_25 ?_
    refine lv_iadd hx hb dX7_undo_28 ?_
    refine lv_eqi (y := nI (pf + (pm - 1))) (nI_add pf (pm - 1)) ?_
    obtain ⟨pl, hpl⟩ : ∃ z, z = (pf + (pm - 1)) % 6 := ⟨_, rfl⟩
    refine lv_bipush (v := 6) hx hb dX7_undo_29 (by decide) ?_
    refine lv_irem hx hb dX7_undo_31 (by decide) ?_
    refine lv_eqi (y := nI pl) (by rw [hpl]; exact xmod6 (by omega)) ?_
    refine lv_istore_n (lv' := [(1, .int (nI pl)), (0, .ref (xB X + xkey 12 0 0))]) hx hb dX7_undo_32 rfl hl (by decide) rfl (fun ls hl => ?_)
    refine lv_iconst (v := nI 0) hx hb dX7_undo_33 (by decide) ?_
    refine lv_istore_n (lv' := [(2, .int (nI 0)), (1, .int (nI pl)), (0, .ref (xB X + xkey 12 0 0))]) hx hb dX7_undo_34 rfl hl (by decide) rfl (fun ls hl => ?_)
    have loop_35 : ∀ (k_35 k : Nat) (aa : Nat → Int32), k + k_35 = 440 → xloop (fun k b => va_up b k (pb (440 * pl + k))) k_35 k aa = xloop (fun k b => va_up b k (pb (440 * pl + k))) 440 0 (xat sg L O Y) → ∀ (H : Heap) (locs : List Loc) (ls : Array Slot), XR X G 12 (xMo (va_up f 3 (nI (pm - 1))) aa pb pc pd pe pg ph pp pq pt pu) H locs → lv_has ls 3 [(0, .ref (xB X + xkey 12 0 0)), (1, .int (nI pl)), (2, .int (nI k))] → W p l e { frames := 0, cells := 0, slots := 0, locals := 0 } s m args below meth c H locs 0 0 Q0 (F0 m 35 ls []) := by
      intro k_35
      induction k_35 with
      | zero =>
        intro k aa hik_35  hsp_35 H locs ls hW hl
        refine lv_iload_n hx hb dX7_undo_35 rfl (lv_at hl 2 rfl) ?_
        refine lv_sipush (v := nI 440) hx hb dX7_undo_36 (by decide) ?_
        refine lv_icmp_ge (tgt := 66) hx hb dX7_undo_39 (by decide) (fun c_2 => ?_) (fun c_2 => absurd (xge_refl (by omega)) c_2)
        have hW : XR X G 12 (xMa (va_up f 3 (nI (pm - 1))) (vS (Mrow pb pl)) (vL (Mrow pb pl)) (vO (Mrow pb pl)) (vY (Mrow pb pl)) pb pc pd pe pg ph pp pq pt pu) _ _ := XR.toA hW (fun k hk => by have e : aa = Mcp (Mrow pb pl) (xat sg L O Y) := hsp_35; rw [e, Mcp_at hk]; exact congrFun (xat_v (Mrow pb pl)).symm k)
        refine lv_aload_n hx hb dX7_undo_66 rfl (lv_at hl 0 rfl) ?_
        refine r_get hx hb hts hown hK hW (C := RX7) (T := TX7) (xF_mo0) inlX7 rfl (by decide) 3 (by decide) (by decide +kernel) xw_169 rfl (x := nI (pm - 1)) rfl dX7_undo_67 ?_
        obtain rfl : (va_up f 3 (nI (pm - 1))) = f' := by (rw [← ho0]) <;> (first | (simp [Mund, c_1, c_2]; done) | (unfold Mund; rw [if_neg c_1]; unfold Mup; rw [← hpl]))
        obtain rfl : (vS (Mrow pb pl)) = sg' := by (rw [← ho1]) <;> (first | (simp [Mund, c_1, c_2]; done) | (unfold Mund; rw [if_neg c_1]; unfold Mup; rw [← hpl]))
        obtain rfl : (vL (Mrow pb pl)) = L' := by (rw [← ho2]) <;> (first | (simp [Mund, c_1, c_2]; done) | (unfold Mund; rw [if_neg c_1]; unfold Mup; rw [← hpl]))
        obtain rfl : (vO (Mrow pb pl)) = O' := by (rw [← ho3]) <;> (first | (simp [Mund, c_1, c_2]; done) | (unfold Mund; rw [if_neg c_1]; unfold Mup; rw [← hpl]))
        obtain rfl : (vY (Mrow pb pl)) = Y' := by (rw [← ho4]) <;> (first | (simp [Mund, c_1, c_2]; done) | (unfold Mund; rw [if_neg c_1]; unfold Mup; rw [← hpl]))
        obtain rfl : nI (pm - 1) = res := by (rw [← hres]) <;> (first | (simp [Mund, c_1, c_2]; done) | (unfold Mund; rw [if_neg c_1]; unfold Mup; rw [← hpl]))
        rw [hQ0]
        exact x_iret hx hb hret hlocks rfl hW rfl dX7_undo_70
      | succ k_35 ih_35 =>
        intro k aa hik_35  hsp_35 H locs ls hW hl
        refine lv_iload_n hx hb dX7_undo_35 rfl (lv_at hl 2 rfl) ?_
        refine lv_sipush (v := nI 440) hx hb dX7_undo_36 (by decide) ?_
        refine lv_icmp_ge (tgt := 66) hx hb dX7_undo_39 (by decide) (fun c_3 => absurd c_3 (nI_ge (by omega) (by omega))) (fun c_3 => ?_)
        refine lv_aload_n hx hb dX7_undo_42 rfl (lv_at hl 0 rfl) ?_
        refine r_getr (C := RX7) (T := TX7) hx hb hts hown hK hW (xF_mo0).1 (xF_mo0).2.1 inlX7 rfl (by decide) 0 (by decide) (show xro (xkey 12 0 0) 0 = some (xkey 12 1 0) from by decide +kernel) xw_79 rfl dX7_undo_43 ?_
        refine lv_iload_n hx hb dX7_undo_46 rfl (lv_at hl 2 rfl) ?_
        refine lv_aload_n hx hb dX7_undo_47 rfl (lv_at hl 0 rfl) ?_
        refine r_getr (C := RX7) (T := TX7) hx hb hts hown hK hW (xF_mo0).1 (xF_mo0).2.1 inlX7 rfl (by decide) 1 (by decide) (show xro (xkey 12 0 0) 1 = some (xkey 12 2 0) from by decide +kernel) xw_80 rfl dX7_undo_48 ?_
        refine lv_sipush (v := nI 440) hx hb dX7_undo_51 (by decide) ?_
        refine lv_iload_n hx hb dX7_undo_54 rfl (lv_at hl 1 rfl) ?_
        refine lv_imul hx hb dX7_undo_55 ?_
        refine lv_eqi (y := nI (440 * pl)) (xnI_mul 440 pl) ?_
        refine lv_iload_n hx hb dX7_undo_56 rfl (lv_at hl 2 rfl) ?_
        refine lv_iadd hx hb dX7_undo_57 ?_
        refine lv_eqi (y := nI (440 * pl + k)) (nI_add (440 * pl) k) ?_
        refine r_iald hx hb hK hW (N := 2640) (xF_mo2) (440 * pl + k) (by omega) (by decide) rfl (xr_model 2 (by decide) (by decide) (440 * pl + k)) (x := pb (440 * pl + k)) rfl dX7_undo_58 ?_
        refine r_iast hx hb hK hW (N := 440) (xF_mo1) k (by omega) (by decide) rfl (xr_model 1 (by decide) (by decide) k) xMo1 dX7_undo_59 (fun H locs hW => ?_)
        refine lv_iinc (v := nI (k + 1)) (lv' := [(2, .int (nI (k + 1))), (0, .ref (xB X + xkey 12 0 0)), (1, .int (nI pl))]) hx hb dX7_undo_60 hl (k := 2) rfl (nI_1 k) (by decide) rfl (fun ls hl => ?_)
        refine lv_goto (tgt := 35) hx hb dX7_undo_63 (by decide) ?_
        refine ih_35 (k + 1) (va_up aa k (pb (440 * pl + k))) (by omega)  ?_ H locs ls hW (lv_sub hl [1, 2, 0] rfl)
        rw [← hsp_35]; rfl
    exact loop_35 440 0 (xat sg L O Y) (by omega)  rfl _ _ _ hW (lv_sub hl [2, 1, 0] rfl)
  · skip
    refine lv_bipush (v := (-5)) hx hb dX7_undo_7 (by decide) ?_
    obtain rfl : f = f' := by (rw [← ho0]) <;> (first | (simp [Mund, c_1]; done) | (unfold Mund; rw [if_neg c_1]; unfold Mup; rw [← hpl]))
    obtain rfl : sg = sg' := by (rw [← ho1]) <;> (first | (simp [Mund, c_1]; done) | (unfold Mund; rw [if_neg c_1]; unfold Mup; rw [← hpl]))
    obtain rfl : L = L' := by (rw [← ho2]) <;> (first | (simp [Mund, c_1]; done) | (unfold Mund; rw [if_neg c_1]; unfold Mup; rw [← hpl]))
    obtain rfl : O = O' := by (rw [← ho3]) <;> (first | (simp [Mund, c_1]; done) | (unfold Mund; rw [if_neg c_1]; unfold Mup; rw [← hpl]))
    obtain rfl : Y = Y' := by (rw [← ho4]) <;> (first | (simp [Mund, c_1]; done) | (unfold Mund; rw [if_neg c_1]; unfold Mup; rw [← hpl]))
    obtain rfl : (-5) = res := by (rw [← hres]) <;> (first | (simp [Mund, c_1]; done) | (unfold Mund; rw [if_neg c_1]; unfold Mup; rw [← hpl]))
    rw [hQ0]
    exact x_iret hx hb hret hlocks rfl hW rfl dX7_undo_9
set_option maxHeartbeats 4000000 in
set_option maxRecDepth 100000 in
theorem c_X7_save (l : Launch) (X : xX) (G : xG) {f sg pb pc pd pe pg ph pp pq pt pu : Nat → Int32} {L O Y : Nat → Nat → Int32} {x : Int32}  {pc' : Nat → Int32} (ho0 : (Msv x pc (MsB x.toNatClampNeg (xat sg L O Y) pc)) = pc') {pd' : Nat → Int32} (ho1 : (Msv x pd (va_up pd x.toNatClampNeg 1)) = pd') {res : Int32} (hres : (Msv x (-2) (sg 6)) = res) : XC l yX7_save cX7_save 3 (some .int) 1 22 0 0 X xsh [.ref (xB X + xkey 12 0 0), .int x] 603 603 (xval (xB X) (va_up G 12 (xMa f sg L O Y pb pc pd pe pg ph pp pq pt pu))) (xval (xB X) (va_up G 12 (xMa f sg L O Y pb pc' pd' pe pg ph pp pq pt pu))) (some (.int res)) := by
  refine XC.of RX7 "save" [(0, .ref (xB X + xkey 12 0 0)), (1, .int x)] (by decide) rfl rfl (Nat.le_of_ble_eq_true rfl) rfl ?_
  intro p e s m args below meth c ls hx hb hret hml hts hown hlocks hnm hK hW hl
  have hW : XR X G 12 (xMa f sg L O Y pb pc pd pe pg ph pp pq pt pu) s.heap [] := hW
  obtain ⟨Q0, hQ0⟩ : ∃ z, z = MQ below (xQ X xsh 603 (xval (xB X) (va_up G 12 (xMa f sg L O Y pb pc' pd' pe pg ph pp pq pt pu))) (some (.int res))) args s 0 0 (fun q => xB X ≤ q) := ⟨_, rfl⟩
  rw [← hQ0]
  refine lv_iload_n hx hb dX7_save_0 rfl (lv_at hl 1 rfl) ?_
  refine lv_iconst (v := 0) hx hb dX7_save_1 (by decide) ?_
  refine lv_iconst (v := 1) hx hb dX7_save_2 (by decide) ?_
  refine x_callS hx hb hml hown hts hK hW hl.1 (c_X7_in l X _ (v := x) (lo := 0) (hi := 1) (hres := rfl)) xw_159 xw_160 xw_5 xw_161 hdS_yX7_in ⟨Nat.le_of_ble_eq_true rfl, Nat.le_of_ble_eq_true rfl⟩ rfl (Nat.le_of_ble_eq_true rfl) ⟨Nat.le_refl _, Nat.le_refl _⟩ dX7_save_3 (fun H locs hW => ?_)
  refine lv_if_ne (tgt := 12) hx hb dX7_save_6 (by decide) (fun c_1 => ?_) (fun c_1 => ?_)
  · skip
    have hx9 := xfin 1 rfl (by decide) c_1
    have hW : XR X G 12 (xMo f (xat sg L O Y) pb pc pd pe pg ph pp pq pt pu) _ _ := hW
    refine lv_iconst (v := nI 0) hx hb dX7_save_12 (by decide) ?_
    refine lv_istore_n (lv' := [(2, .int (nI 0)), (0, .ref (xB X + xkey 12 0 0)), (1, .int x)]) hx hb dX7_save_13 rfl hl (by decide) rfl (fun ls hl => ?_)
    have loop_14 : ∀ (k_14 k : Nat) (ba : Nat → Int32), k + k_14 = 440 → xloop (fun k b => va_up b (440 * x.toNatClampNeg + k) (xat sg L O Y k)) k_14 k ba = xloop (fun k b => va_up b (440 * x.toNatClampNeg + k) (xat sg L O Y k)) 440 0 pc → ∀ (H : Heap) (locs : List Loc) (ls : Array Slot), XR X G 12 (xMo f (xat sg L O Y) pb ba pd pe pg ph pp pq pt pu) H locs → lv_has ls 3 [(0, .ref (xB X + xkey 12 0 0)), (1, .int x), (2, .int (nI k))] → W p l e { frames := 1, cells := 0, slots := 0, locals := 22 } s m args below meth c H locs 0 0 Q0 (F0 m 14 ls []) := by
      intro k_14
      induction k_14 with
      | zero =>
        intro k ba hik_14  hsp_14 H locs ls hW hl
        refine lv_iload_n hx hb dX7_save_14 rfl (lv_at hl 2 rfl) ?_
        refine lv_sipush (v := nI 440) hx hb dX7_save_15 (by decide) ?_
        refine lv_icmp_ge (tgt := 45) hx hb dX7_save_18 (by decide) (fun c_2 => ?_) (fun c_2 => absurd (xge_refl (by omega)) c_2)
        have hW : XR X G 12 (xMa f sg L O Y pb ba pd pe pg ph pp pq pt pu) _ _ := hW
        refine lv_aload_n hx hb dX7_save_45 rfl (lv_at hl 0 rfl) ?_
        refine r_getr (C := RX7) (T := TX7) hx hb hts hown hK hW (xF_mo0).1 (xF_mo0).2.1 inlX7 rfl (by decide) 5 (by decide) (show xro (xkey 12 0 0) 5 = some (xkey 12 4 0) from by decide +kernel) xw_82 rfl dX7_save_46 ?_
        refine lv_iload_n hx hb dX7_save_49 rfl (lv_at hl 1 rfl) ?_
        refine lv_iconst (v := 1) hx hb dX7_save_50 (by decide) ?_
        refine r_zast hx hb hK hW (N := 2) (xF_mo4) x.toNatClampNeg (by omega) (by decide) hx9.2 (xr_model 4 (by decide) (by decide) x.toNatClampNeg) rfl xMa7 dX7_save_51 (fun H locs hW => ?_)
        refine lv_aload_n hx hb dX7_save_52 rfl (lv_at hl 0 rfl) ?_
        refine r_getr (C := RX7) (T := TX7) hx hb hts hown hK hW (xF_mo0).1 (xF_mo0).2.1 inlX7 rfl (by decide) 0 (by decide) (show xro (xkey 12 0 0) 0 = some (xkey 12 1 0) from by decide +kernel) xw_79 rfl dX7_save_53 ?_
        refine lv_bipush (v := 6) hx hb dX7_save_56 (by decide) ?_
        refine r_iald hx hb hK hW (N := 440) (xF_mo1) 6 (by decide) (by decide) (by decide) (xr_model 1 (by decide) (by decide) 6) (x := sg 6) (xat_s (sg := sg) (L := L) (O := O) (Y := Y) (k := 6) (by omega)) dX7_save_58 ?_
        obtain rfl : ba = pc' := by (rw [← ho0]) <;> (first | (simp [Msv, c_1, c_2]; done) | (unfold Msv; rw [if_neg c_1]; exact hsp_14))
        obtain rfl : (va_up pd x.toNatClampNeg 1) = pd' := by (rw [← ho1]) <;> (first | (simp [Msv, c_1, c_2]; done) | (unfold Msv; rw [if_neg c_1]; exact hsp_14))
        obtain rfl : sg 6 = res := by (rw [← hres]) <;> (first | (simp [Msv, c_1, c_2]; done) | (unfold Msv; rw [if_neg c_1]; exact hsp_14))
        rw [hQ0]
        exact x_iret hx hb hret hlocks rfl hW rfl dX7_save_59
      | succ k_14 ih_14 =>
        intro k ba hik_14  hsp_14 H locs ls hW hl
        refine lv_iload_n hx hb dX7_save_14 rfl (lv_at hl 2 rfl) ?_
        refine lv_sipush (v := nI 440) hx hb dX7_save_15 (by decide) ?_
        refine lv_icmp_ge (tgt := 45) hx hb dX7_save_18 (by decide) (fun c_3 => absurd c_3 (nI_ge (by omega) (by omega))) (fun c_3 => ?_)
        refine lv_aload_n hx hb dX7_save_21 rfl (lv_at hl 0 rfl) ?_
        refine r_getr (C := RX7) (T := TX7) hx hb hts hown hK hW (xF_mo0).1 (xF_mo0).2.1 inlX7 rfl (by decide) 4 (by decide) (show xro (xkey 12 0 0) 4 = some (xkey 12 3 0) from by decide +kernel) xw_81 rfl dX7_save_22 ?_
        refine lv_sipush (v := nI 440) hx hb dX7_save_25 (by decide) ?_
        refine lv_iload_n hx hb dX7_save_28 rfl (lv_at hl 1 rfl) ?_
        refine lv_eqi (y := nI x.toNatClampNeg) hx9.2 ?_
        refine lv_imul hx hb dX7_save_29 ?_
        refine lv_eqi (y := nI (440 * x.toNatClampNeg)) (xnI_mul 440 x.toNatClampNeg) ?_
        refine lv_iload_n hx hb dX7_save_30 rfl (lv_at hl 2 rfl) ?_
        refine lv_iadd hx hb dX7_save_31 ?_
        refine lv_eqi (y := nI (440 * x.toNatClampNeg + k)) (nI_add (440 * x.toNatClampNeg) k) ?_
        refine lv_aload_n hx hb dX7_save_32 rfl (lv_at hl 0 rfl) ?_
        refine r_getr (C := RX7) (T := TX7) hx hb hts hown hK hW (xF_mo0).1 (xF_mo0).2.1 inlX7 rfl (by decide) 0 (by decide) (show xro (xkey 12 0 0) 0 = some (xkey 12 1 0) from by decide +kernel) xw_79 rfl dX7_save_33 ?_
        refine lv_iload_n hx hb dX7_save_36 rfl (lv_at hl 2 rfl) ?_
        refine r_iald hx hb hK hW (N := 440) (xF_mo1) k (by omega) (by decide) rfl (xr_model 1 (by decide) (by decide) k) (x := (xat sg L O Y) k) rfl dX7_save_37 ?_
        refine r_iast hx hb hK hW (N := 880) (xF_mo3) (440 * x.toNatClampNeg + k) (by omega) (by decide) rfl (xr_model 3 (by decide) (by decide) (440 * x.toNatClampNeg + k)) xMo3 dX7_save_38 (fun H locs hW => ?_)
        refine lv_iinc (v := nI (k + 1)) (lv' := [(2, .int (nI (k + 1))), (0, .ref (xB X + xkey 12 0 0)), (1, .int x)]) hx hb dX7_save_39 hl (k := 2) rfl (nI_1 k) (by decide) rfl (fun ls hl => ?_)
        refine lv_goto (tgt := 14) hx hb dX7_save_42 (by decide) ?_
        refine ih_14 (k + 1) (va_up ba (440 * x.toNatClampNeg + k) ((xat sg L O Y) k)) (by omega)  ?_ H locs ls hW (lv_sub hl [1, 2, 0] rfl)
        rw [← hsp_14]; rfl
    exact loop_14 440 0 pc (by omega)  rfl _ _ _ hW (lv_sub hl [1, 2, 0] rfl)
  · skip
    refine lv_bipush (v := (-2)) hx hb dX7_save_9 (by decide) ?_
    obtain rfl : pc = pc' := by (rw [← ho0]) <;> (first | (simp [Msv, c_1]; done) | (unfold Msv; rw [if_neg c_1]; exact hsp_14))
    obtain rfl : pd = pd' := by (rw [← ho1]) <;> (first | (simp [Msv, c_1]; done) | (unfold Msv; rw [if_neg c_1]; exact hsp_14))
    obtain rfl : (-2) = res := by (rw [← hres]) <;> (first | (simp [Msv, c_1]; done) | (unfold Msv; rw [if_neg c_1]; exact hsp_14))
    rw [hQ0]
    exact x_iret hx hb hret hlocks rfl hW rfl dX7_save_11
set_option maxHeartbeats 4000000 in
set_option maxRecDepth 100000 in
theorem c_X7_restore (l : Launch) (X : xX) (G : xG) {f sg pb pc pd pe pg ph pp pq pt pu : Nat → Int32} {L O Y : Nat → Nat → Int32} {pf pm : Nat} {x : Int32} (hpf : f 2 = nI pf) (hpf6 : pf < 6) (hpm : f 3 = nI pm) (hpm6 : pm ≤ 6) {f' : Nat → Int32} (ho0 : (Mre x pd f f (MkF pf pm f)) = f') {pb' : Nat → Int32} (ho1 : (Mre x pd pb pb (MkB pf pm (xat sg L O Y) pb)) = pb') {sg' : Nat → Int32} (ho2 : (Mre x pd sg sg (vS (Mrow pc x.toNatClampNeg))) = sg') {L' : Nat → Nat → Int32} (ho3 : (Mre x pd L L (vL (Mrow pc x.toNatClampNeg))) = L') {O' : Nat → Nat → Int32} (ho4 : (Mre x pd O O (vO (Mrow pc x.toNatClampNeg))) = O') {Y' : Nat → Nat → Int32} (ho5 : (Mre x pd Y Y (vY (Mrow pc x.toNatClampNeg))) = Y') {res : Int32} (hres : (Mre x pd (-2) (-5) (vS (Mrow pc x.toNatClampNeg) 6)) = res) : XC l yX7_restore cX7_restore 3 (some .int) 1 22 0 0 X xsh [.ref (xB X + xkey 12 0 0), .int x] 603 603 (xval (xB X) (va_up G 12 (xMa f sg L O Y pb pc pd pe pg ph pp pq pt pu))) (xval (xB X) (va_up G 12 (xMa f' sg' L' O' Y' pb' pc pd pe pg ph pp pq pt pu))) (some (.int res)) := by
  refine XC.of RX7 "restore" [(0, .ref (xB X + xkey 12 0 0)), (1, .int x)] (by decide) rfl rfl (Nat.le_of_ble_eq_true rfl) rfl ?_
  intro p e s m args below meth c ls hx hb hret hml hts hown hlocks hnm hK hW hl
  have hW : XR X G 12 (xMa f sg L O Y pb pc pd pe pg ph pp pq pt pu) s.heap [] := hW
  obtain ⟨Q0, hQ0⟩ : ∃ z, z = MQ below (xQ X xsh 603 (xval (xB X) (va_up G 12 (xMa f' sg' L' O' Y' pb' pc pd pe pg ph pp pq pt pu))) (some (.int res))) args s 0 0 (fun q => xB X ≤ q) := ⟨_, rfl⟩
  rw [← hQ0]
  refine lv_iload_n hx hb dX7_restore_0 rfl (lv_at hl 1 rfl) ?_
  refine lv_iconst (v := 0) hx hb dX7_restore_1 (by decide) ?_
  refine lv_iconst (v := 1) hx hb dX7_restore_2 (by decide) ?_
  refine x_callS hx hb hml hown hts hK hW hl.1 (c_X7_in l X _ (v := x) (lo := 0) (hi := 1) (hres := rfl)) xw_159 xw_160 xw_5 xw_161 hdS_yX7_in ⟨Nat.le_of_ble_eq_true rfl, Nat.le_of_ble_eq_true rfl⟩ rfl (Nat.le_of_ble_eq_true rfl) ⟨Nat.le_refl _, Nat.le_refl _⟩ dX7_restore_3 (fun H locs hW => ?_)
  refine lv_if_ne (tgt := 12) hx hb dX7_restore_6 (by decide) (fun c_1 => ?_) (fun c_1 => ?_)
  · skip
    have hx9 := xfin 1 rfl (by decide) c_1
    refine lv_aload_n hx hb dX7_restore_12 rfl (lv_at hl 0 rfl) ?_
    refine r_getr (C := RX7) (T := TX7) hx hb hts hown hK hW (xF_mo0).1 (xF_mo0).2.1 inlX7 rfl (by decide) 5 (by decide) (show xro (xkey 12 0 0) 5 = some (xkey 12 4 0) from by decide +kernel) xw_82 rfl dX7_restore_13 ?_
    refine lv_iload_n hx hb dX7_restore_16 rfl (lv_at hl 1 rfl) ?_
    refine r_zald hx hb hK hW (N := 2) (xF_mo4) x.toNatClampNeg (by omega) (by decide) hx9.2 (xr_model 4 (by decide) (by decide) x.toNatClampNeg) (x := pd x.toNatClampNeg) rfl dX7_restore_17 ?_
    refine lv_if_ne (tgt := 24) hx hb dX7_restore_18 (by decide) (fun c_2 => ?_) (fun c_2 => ?_)
    · skip
      refine lv_aload_n hx hb dX7_restore_24 rfl (lv_at hl 0 rfl) ?_
      refine x_callV hx hb hml hown hts hK hW hl.1 (c_X7_keep l X G (pf := pf) (pm := pm) (hpf := (by assumption)) (hpf6 := (by omega)) (hpm := (by assumption)) (hpm6 := (by assumption)) (ho0 := rfl) (ho1 := rfl)) (xF_mo0).1 (xF_mo0).2.1 (by decide) rfl xw_165 xw_166 xw_167 xw_5 xw_168 hdV_yX7_keep ⟨Nat.le_of_ble_eq_true rfl, Nat.le_of_ble_eq_true rfl⟩ rfl (Nat.le_of_ble_eq_true rfl) ⟨Nat.le_refl _, Nat.le_refl _⟩ dX7_restore_25 (fun H locs hW => ?_)
      have hW : XR X G 12 (xMa (MkF pf pm f) sg L O Y (MkB pf pm (xat sg L O Y) pb) pc pd pe pg ph pp pq pt pu) H locs := hW
      have hW : XR X G 12 (xMo (MkF pf pm f) (xat sg L O Y) (MkB pf pm (xat sg L O Y) pb) pc pd pe pg ph pp pq pt pu) _ _ := hW
      refine lv_iconst (v := nI 0) hx hb dX7_restore_28 (by decide) ?_
      refine lv_istore_n (lv' := [(2, .int (nI 0)), (0, .ref (xB X + xkey 12 0 0)), (1, .int x)]) hx hb dX7_restore_29 rfl hl (by decide) rfl (fun ls hl => ?_)
      have loop_30 : ∀ (k_30 k : Nat) (aa : Nat → Int32), k + k_30 = 440 → xloop (fun k b => va_up b k (pc (440 * x.toNatClampNeg + k))) k_30 k aa = xloop (fun k b => va_up b k (pc (440 * x.toNatClampNeg + k))) 440 0 (xat sg L O Y) → ∀ (H : Heap) (locs : List Loc) (ls : Array Slot), XR X G 12 (xMo (MkF pf pm f) aa (MkB pf pm (xat sg L O Y) pb) pc pd pe pg ph pp pq pt pu) H locs → lv_has ls 3 [(0, .ref (xB X + xkey 12 0 0)), (1, .int x), (2, .int (nI k))] → W p l e { frames := 1, cells := 0, slots := 0, locals := 22 } s m args below meth c H locs 0 0 Q0 (F0 m 30 ls []) := by
        intro k_30
        induction k_30 with
        | zero =>
          intro k aa hik_30  hsp_30 H locs ls hW hl
          refine lv_iload_n hx hb dX7_restore_30 rfl (lv_at hl 2 rfl) ?_
          refine lv_sipush (v := nI 440) hx hb dX7_restore_31 (by decide) ?_
          refine lv_icmp_ge (tgt := 61) hx hb dX7_restore_34 (by decide) (fun c_3 => ?_) (fun c_3 => absurd (xge_refl (by omega)) c_3)
          have hW : XR X G 12 (xMa (MkF pf pm f) (vS (Mrow pc x.toNatClampNeg)) (vL (Mrow pc x.toNatClampNeg)) (vO (Mrow pc x.toNatClampNeg)) (vY (Mrow pc x.toNatClampNeg)) (MkB pf pm (xat sg L O Y) pb) pc pd pe pg ph pp pq pt pu) _ _ := XR.toA hW (fun k hk => by have e : aa = Mcp (Mrow pc x.toNatClampNeg) (xat sg L O Y) := hsp_30; rw [e, Mcp_at hk]; exact congrFun (xat_v (Mrow pc x.toNatClampNeg)).symm k)
          refine lv_aload_n hx hb dX7_restore_61 rfl (lv_at hl 0 rfl) ?_
          refine r_getr (C := RX7) (T := TX7) hx hb hts hown hK hW (xF_mo0).1 (xF_mo0).2.1 inlX7 rfl (by decide) 0 (by decide) (show xro (xkey 12 0 0) 0 = some (xkey 12 1 0) from by decide +kernel) xw_79 rfl dX7_restore_62 ?_
          refine lv_bipush (v := 6) hx hb dX7_restore_65 (by decide) ?_
          refine r_iald hx hb hK hW (N := 440) (xF_mo1) 6 (by decide) (by decide) (by decide) (xr_model 1 (by decide) (by decide) 6) (x := (vS (Mrow pc x.toNatClampNeg)) 6) (xat_s (sg := (vS (Mrow pc x.toNatClampNeg))) (L := (vL (Mrow pc x.toNatClampNeg))) (O := (vO (Mrow pc x.toNatClampNeg))) (Y := (vY (Mrow pc x.toNatClampNeg))) (k := 6) (by omega)) dX7_restore_67 ?_
          obtain rfl : (MkF pf pm f) = f' := by (rw [← ho0]) <;> (simp [Mre, c_1, c_2, c_3])
          obtain rfl : (MkB pf pm (xat sg L O Y) pb) = pb' := by (rw [← ho1]) <;> (simp [Mre, c_1, c_2, c_3])
          obtain rfl : (vS (Mrow pc x.toNatClampNeg)) = sg' := by (rw [← ho2]) <;> (simp [Mre, c_1, c_2, c_3])
          obtain rfl : (vL (Mrow pc x.toNatClampNeg)) = L' := by (rw [← ho3]) <;> (simp [Mre, c_1, c_2, c_3])
          obtain rfl : (vO (Mrow pc x.toNatClampNeg)) = O' := by (rw [← ho4]) <;> (simp [Mre, c_1, c_2, c_3])
          obtain rfl : (vY (Mrow pc x.toNatClampNeg)) = Y' := by (rw [← ho5]) <;> (simp [Mre, c_1, c_2, c_3])
          obtain rfl : (vS (Mrow pc x.toNatClampNeg)) 6 = res := by (rw [← hres]) <;> (simp [Mre, c_1, c_2, c_3])
          rw [hQ0]
          exact x_iret hx hb hret hlocks rfl hW rfl dX7_restore_68
        | succ k_30 ih_30 =>
          intro k aa hik_30  hsp_30 H locs ls hW hl
          refine lv_iload_n hx hb dX7_restore_30 rfl (lv_at hl 2 rfl) ?_
          refine lv_sipush (v := nI 440) hx hb dX7_restore_31 (by decide) ?_
          refine lv_icmp_ge (tgt := 61) hx hb dX7_restore_34 (by decide) (fun c_4 => absurd c_4 (nI_ge (by omega) (by omega))) (fun c_4 => ?_)
          refine lv_aload_n hx hb dX7_restore_37 rfl (lv_at hl 0 rfl) ?_
          refine r_getr (C := RX7) (T := TX7) hx hb hts hown hK hW (xF_mo0).1 (xF_mo0).2.1 inlX7 rfl (by decide) 0 (by decide) (show xro (xkey 12 0 0) 0 = some (xkey 12 1 0) from by decide +kernel) xw_79 rfl dX7_restore_38 ?_
          refine lv_iload_n hx hb dX7_restore_41 rfl (lv_at hl 2 rfl) ?_
          refine lv_aload_n hx hb dX7_restore_42 rfl (lv_at hl 0 rfl) ?_
          refine r_getr (C := RX7) (T := TX7) hx hb hts hown hK hW (xF_mo0).1 (xF_mo0).2.1 inlX7 rfl (by decide) 4 (by decide) (show xro (xkey 12 0 0) 4 = some (xkey 12 3 0) from by decide +kernel) xw_81 rfl dX7_restore_43 ?_
          refine lv_sipush (v := nI 440) hx hb dX7_restore_46 (by decide) ?_
          refine lv_iload_n hx hb dX7_restore_49 rfl (lv_at hl 1 rfl) ?_
          refine lv_eqi (y := nI x.toNatClampNeg) hx9.2 ?_
          refine lv_imul hx hb dX7_restore_50 ?_
          refine lv_eqi (y := nI (440 * x.toNatClampNeg)) (xnI_mul 440 x.toNatClampNeg) ?_
          refine lv_iload_n hx hb dX7_restore_51 rfl (lv_at hl 2 rfl) ?_
          refine lv_iadd hx hb dX7_restore_52 ?_
          refine lv_eqi (y := nI (440 * x.toNatClampNeg + k)) (nI_add (440 * x.toNatClampNeg) k) ?_
          refine r_iald hx hb hK hW (N := 880) (xF_mo3) (440 * x.toNatClampNeg + k) (by omega) (by decide) rfl (xr_model 3 (by decide) (by decide) (440 * x.toNatClampNeg + k)) (x := pc (440 * x.toNatClampNeg + k)) rfl dX7_restore_53 ?_
          refine r_iast hx hb hK hW (N := 440) (xF_mo1) k (by omega) (by decide) rfl (xr_model 1 (by decide) (by decide) k) xMo1 dX7_restore_54 (fun H locs hW => ?_)
          refine lv_iinc (v := nI (k + 1)) (lv' := [(2, .int (nI (k + 1))), (0, .ref (xB X + xkey 12 0 0)), (1, .int x)]) hx hb dX7_restore_55 hl (k := 2) rfl (nI_1 k) (by decide) rfl (fun ls hl => ?_)
          refine lv_goto (tgt := 30) hx hb dX7_restore_58 (by decide) ?_
          refine ih_30 (k + 1) (va_up aa k (pc (440 * x.toNatClampNeg + k))) (by omega)  ?_ H locs ls hW (lv_sub hl [1, 2, 0] rfl)
          rw [← hsp_30]; rfl
      exact loop_30 440 0 (xat sg L O Y) (by omega)  rfl _ _ _ hW (lv_sub hl [1, 2, 0] rfl)
    · skip
      refine lv_bipush (v := (-5)) hx hb dX7_restore_21 (by decide) ?_
      obtain rfl : f = f' := by (rw [← ho0]) <;> (simp [Mre, c_1, c_2])
      obtain rfl : pb = pb' := by (rw [← ho1]) <;> (simp [Mre, c_1, c_2])
      obtain rfl : sg = sg' := by (rw [← ho2]) <;> (simp [Mre, c_1, c_2])
      obtain rfl : L = L' := by (rw [← ho3]) <;> (simp [Mre, c_1, c_2])
      obtain rfl : O = O' := by (rw [← ho4]) <;> (simp [Mre, c_1, c_2])
      obtain rfl : Y = Y' := by (rw [← ho5]) <;> (simp [Mre, c_1, c_2])
      obtain rfl : (-5) = res := by (rw [← hres]) <;> (simp [Mre, c_1, c_2])
      rw [hQ0]
      exact x_iret hx hb hret hlocks rfl hW rfl dX7_restore_23
  · skip
    refine lv_bipush (v := (-2)) hx hb dX7_restore_9 (by decide) ?_
    obtain rfl : f = f' := by (rw [← ho0]) <;> (simp [Mre, c_1])
    obtain rfl : pb = pb' := by (rw [← ho1]) <;> (simp [Mre, c_1])
    obtain rfl : sg = sg' := by (rw [← ho2]) <;> (simp [Mre, c_1])
    obtain rfl : L = L' := by (rw [← ho3]) <;> (simp [Mre, c_1])
    obtain rfl : O = O' := by (rw [← ho4]) <;> (simp [Mre, c_1])
    obtain rfl : Y = Y' := by (rw [← ho5]) <;> (simp [Mre, c_1])
    obtain rfl : (-2) = res := by (rw [← hres]) <;> (simp [Mre, c_1])
    rw [hQ0]
    exact x_iret hx hb hret hlocks rfl hW rfl dX7_restore_11
set_option maxHeartbeats 4000000 in
set_option maxRecDepth 100000 in
theorem c_X7_wipe (l : Launch) (X : xX) (G : xG) {f sg pb pc pd pe pg ph pp pq pt pu : Nat → Int32} {L O Y : Nat → Nat → Int32} {pn : Nat} (hpn : f 10 = nI pn) (hpn8 : pn ≤ 80) {f' : Nat → Int32} (ho0 : (va_up f 10 0) = f') {res : Int32} (hres : (nI pn) = res) : XC l yX7_wipe cX7_wipe 2 (some .int) 0 0 0 0 X xsh [.ref (xB X + xkey 12 0 0)] 603 603 (xval (xB X) (va_up G 12 (xMa f sg L O Y pb pc pd pe pg ph pp pq pt pu))) (xval (xB X) (va_up G 12 (xMa f' sg L O Y pb pc pd pe pg ph pp pq pt pu))) (some (.int res)) := by
  refine XC.of RX7 "wipe" [(0, .ref (xB X + xkey 12 0 0))] (by decide) rfl rfl (Nat.le_of_ble_eq_true rfl) rfl ?_
  intro p e s m args below meth c ls hx hb hret hml hts hown hlocks hnm hK hW hl
  have hW : XR X G 12 (xMa f sg L O Y pb pc pd pe pg ph pp pq pt pu) s.heap [] := hW
  obtain ⟨Q0, hQ0⟩ : ∃ z, z = MQ below (xQ X xsh 603 (xval (xB X) (va_up G 12 (xMa f' sg L O Y pb pc pd pe pg ph pp pq pt pu))) (some (.int res))) args s 0 0 (fun q => xB X ≤ q) := ⟨_, rfl⟩
  rw [← hQ0]
  refine lv_aload_n hx hb dX7_wipe_0 rfl (lv_at hl 0 rfl) ?_
  refine r_get hx hb hts hown hK hW (C := RX7) (T := TX7) (xF_mo0) inlX7 rfl (by decide) 10 (by decide) (by decide +kernel) xw_674 rfl (x := nI pn) hpn dX7_wipe_1 ?_
  refine lv_istore_n (lv' := [(1, .int (nI pn)), (0, .ref (xB X + xkey 12 0 0))]) hx hb dX7_wipe_4 rfl hl (by decide) rfl (fun ls hl => ?_)
  refine lv_aload_n hx hb dX7_wipe_5 rfl (lv_at hl 1 rfl) ?_
  refine lv_iconst (v := 0) hx hb dX7_wipe_6 (by decide) ?_
  refine r_put hx hb hts hown hK hW (C := RX7) (T := TX7) (xF_mo0) inlX7 tyX7 tyX7_ok nmX7 rfl (by decide) 10 (by decide) (by decide +kernel) xw_674 rfl rfl rfl rfl xMa0 dX7_wipe_7 (fun H locs hW => ?_)
  refine lv_iload_n hx hb dX7_wipe_10 rfl (lv_at hl 0 rfl) ?_
  obtain rfl : (va_up f 10 0) = f' := by (rw [← ho0]) <;> (rfl)
  obtain rfl : nI pn = res := by (rw [← hres]) <;> (rfl)
  rw [hQ0]
  exact x_iret hx hb hret hlocks rfl hW rfl dX7_wipe_11
set_option maxHeartbeats 4000000 in
set_option maxRecDepth 100000 in
theorem c_X7_put (l : Launch) (X : xX) (G : xG) {f sg pb pc pd pe pg ph pp pq pt pu : Nat → Int32} {L O Y : Nat → Nat → Int32} {pn : Nat} {x : Int64} (hpn : f 10 = nI pn) (hpn8 : pn ≤ 80) {f' : Nat → Int32} (ho0 : (Mput x pn f f (fun i => va_up f 10 (nI (pn + i)))) = f') {pp' : Nat → Int32} (ho1 : (Mput x pn pp pp (fun i => MpS x i pn pp)) = pp') {res : Int32} (hres : (Mput x pn (-2) (-4) (fun i => nI (pn + i))) = res) : XC l yX7_put cX7_put 7 (some .int) 1 22 0 0 X xsh [.ref (xB X + xkey 12 0 0), .long x] 603 603 (xval (xB X) (va_up G 12 (xMa f sg L O Y pb pc pd pe pg ph pp pq pt pu))) (xval (xB X) (va_up G 12 (xMa f' sg L O Y pb pc pd pe pg ph pp' pq pt pu))) (some (.int res)) := by
  refine XC.of RX7 "put" [(0, .ref (xB X + xkey 12 0 0)), (1, .long x)] (by decide) rfl rfl (Nat.le_of_ble_eq_true rfl) rfl ?_
  intro p e s m args below meth c ls hx hb hret hml hts hown hlocks hnm hK hW hl
  have hW : XR X G 12 (xMa f sg L O Y pb pc pd pe pg ph pp pq pt pu) s.heap [] := hW
  obtain ⟨Q0, hQ0⟩ : ∃ z, z = MQ below (xQ X xsh 603 (xval (xB X) (va_up G 12 (xMa f' sg L O Y pb pc pd pe pg ph pp' pq pt pu))) (some (.int res))) args s 0 0 (fun q => xB X ≤ q) := ⟨_, rfl⟩
  rw [← hQ0]
  refine lv_iconst (v := nI 0) hx hb dX7_put_0 (by decide) ?_
  refine lv_istore_n (lv' := [(3, .int (nI 0)), (0, .ref (xB X + xkey 12 0 0)), (1, .long x)]) hx hb dX7_put_1 rfl hl (by decide) rfl (fun ls hl => ?_)
  refine lv_lload_n hx hb dX7_put_2 rfl (lv_at hl 2 rfl) ?_
  refine lv_lstore (lv' := [(4, .long x), (3, .int (nI 0)), (0, .ref (xB X + xkey 12 0 0)), (1, .long x)]) hx hb dX7_put_3 hl (by decide) rfl (fun ls hl => ?_)
  have loop_5 : ∀ (k_5 i : Nat) (ra : Int64), i + k_5 = 8 → Mcnt k_5 ra i = Mcnt 8 x 0 → ∀ (H : Heap) (locs : List Loc) (ls : Array Slot), XR X G 12 (xMa f sg L O Y pb pc pd pe pg ph pp pq pt pu) H locs → lv_has ls 7 [(0, .ref (xB X + xkey 12 0 0)), (1, .long x), (3, .int (nI i)), (4, .long ra)] → W p l e { frames := 1, cells := 0, slots := 0, locals := 22 } s m args below meth c H locs 0 0 Q0 (F0 m 5 ls []) := by
    intro k_5
    induction k_5 with
    | zero =>
      intro i ra hik_5  hsp_5 H locs ls hW hl
      refine lv_iload_n hx hb dX7_put_5 rfl (lv_at hl 2 rfl) ?_
      refine lv_bipush (v := nI 8) hx hb dX7_put_6 (by decide) ?_
      refine lv_icmp_ge (tgt := 55) hx hb dX7_put_8 (by decide) (fun c_1 => ?_) (fun c_1 => absurd (xge_refl (by omega)) c_1)
      refine lv_iload_n hx hb dX7_put_55 rfl (lv_at hl 2 rfl) ?_
      refine lv_if_eq (tgt := 66) hx hb dX7_put_56 (by decide) (fun c_2 => ?_) (fun c_2 => ?_)
      · skip
        refine lv_bipush (v := (-2)) hx hb dX7_put_66 (by decide) ?_
        obtain rfl : f = f' := by (rw [← ho0]) <;> ((have e9 : Mcnt 8 x 0 = (i, ra, 1) := by first | exact hsp_5.symm | (rw [← hsp_5]; simp only [Mcnt, c_1, c_2, if_true, if_false])); (unfold Mput; rw [e9]; dsimp only); simp [c_1, c_2])
        obtain rfl : pp = pp' := by (rw [← ho1]) <;> ((have e9 : Mcnt 8 x 0 = (i, ra, 1) := by first | exact hsp_5.symm | (rw [← hsp_5]; simp only [Mcnt, c_1, c_2, if_true, if_false])); (unfold Mput; rw [e9]; dsimp only); simp [c_1, c_2])
        obtain rfl : (-2) = res := by (rw [← hres]) <;> ((have e9 : Mcnt 8 x 0 = (i, ra, 1) := by first | exact hsp_5.symm | (rw [← hsp_5]; simp only [Mcnt, c_1, c_2, if_true, if_false])); (unfold Mput; rw [e9]; dsimp only); simp [c_1, c_2])
        rw [hQ0]
        exact x_iret hx hb hret hlocks rfl hW rfl dX7_put_68
      · skip
        refine lv_lload hx hb dX7_put_59 (lv_at hl 3 rfl) ?_
        refine lv_lconst (v := 0) hx hb dX7_put_61 (by decide) ?_
        refine W.lcmp hx hb dX7_put_62 ?_
        refine lv_if_eq (tgt := 69) hx hb dX7_put_63 (by decide) (fun c_3 => ?_) (fun c_3 => ?_)
        · skip
          refine lv_aload_n hx hb dX7_put_69 rfl (lv_at hl 0 rfl) ?_
          refine r_get hx hb hts hown hK hW (C := RX7) (T := TX7) (xF_mo0) inlX7 rfl (by decide) 10 (by decide) (by decide +kernel) xw_674 rfl (x := nI pn) hpn dX7_put_70 ?_
          refine lv_iload_n hx hb dX7_put_73 rfl (lv_at hl 2 rfl) ?_
          refine lv_iadd hx hb dX7_put_74 ?_
          refine lv_eqi (y := nI (pn + i)) (nI_add pn i) ?_
          refine lv_bipush (v := 80) hx hb dX7_put_75 (by decide) ?_
          refine lv_icmp_le (tgt := 83) hx hb dX7_put_77 (by decide) (fun c_4 => ?_) (fun c_4 => ?_)
          · skip
            have hle9 : pn + i ≤ 80 := xnile 80 rfl (by omega) c_4
            refine lv_iconst (v := nI 0) hx hb dX7_put_83 (by decide) ?_
            refine lv_istore (lv' := [(6, .int (nI 0)), (0, .ref (xB X + xkey 12 0 0)), (1, .long x), (3, .int (nI i)), (4, .long ra)]) hx hb dX7_put_84 hl (by decide) rfl (fun ls hl => ?_)
            have loop_86 : ∀ (k_86 k : Nat) (qa : Nat → Int32), k + k_86 = i → xloop (fun k p => va_up p (pn + k) (MpC x i k)) k_86 k qa = xloop (fun k p => va_up p (pn + k) (MpC x i k)) i 0 pp → ∀ (H : Heap) (locs : List Loc) (ls : Array Slot), XR X G 12 (xMa f sg L O Y pb pc pd pe pg ph qa pq pt pu) H locs → lv_has ls 7 [(0, .ref (xB X + xkey 12 0 0)), (1, .long x), (3, .int (nI i)), (4, .long ra), (6, .int (nI k))] → W p l e { frames := 1, cells := 0, slots := 0, locals := 22 } s m args below meth c H locs 0 0 Q0 (F0 m 86 ls []) := by
              intro k_86
              induction k_86 with
              | zero =>
                intro k qa hik_86  hsp_86 H locs ls hW hl
                refine lv_iload hx hb dX7_put_86 (lv_at hl 4 rfl) ?_
                refine lv_iload_n hx hb dX7_put_88 rfl (lv_at hl 2 rfl) ?_
                refine lv_icmp_ge (tgt := 126) hx hb dX7_put_89 (by decide) (fun c_5 => ?_) (fun c_5 => absurd (xge_refl (by omega)) c_5)
                refine lv_aload_n hx hb dX7_put_126 rfl (lv_at hl 0 rfl) ?_
                refine lv_dup hx hb dX7_put_127 rfl ?_
                refine r_get hx hb hts hown hK hW (C := RX7) (T := TX7) (xF_mo0) inlX7 rfl (by decide) 10 (by decide) (by decide +kernel) xw_674 rfl (x := nI pn) hpn dX7_put_128 ?_
                refine lv_iload_n hx hb dX7_put_131 rfl (lv_at hl 2 rfl) ?_
                refine lv_iadd hx hb dX7_put_132 ?_
                refine lv_eqi (y := nI (pn + i)) (nI_add pn i) ?_
                refine r_put hx hb hts hown hK hW (C := RX7) (T := TX7) (xF_mo0) inlX7 tyX7 tyX7_ok nmX7 rfl (by decide) 10 (by decide) (by decide +kernel) xw_674 rfl rfl rfl rfl xMa0 dX7_put_133 (fun H locs hW => ?_)
                refine lv_aload_n hx hb dX7_put_136 rfl (lv_at hl 0 rfl) ?_
                refine r_get hx hb hts hown hK hW (C := RX7) (T := TX7) (xF_mo0) inlX7 rfl (by decide) 10 (by decide) (by decide +kernel) xw_674 rfl (x := nI (pn + i)) rfl dX7_put_137 ?_
                obtain rfl : (va_up f 10 (nI (pn + i))) = f' := by (rw [← ho0]) <;> ((have e9 : Mcnt 8 x 0 = (i, ra, 1) := by first | exact hsp_5.symm | (rw [← hsp_5]; simp only [Mcnt, c_1, c_2, c_3, c_4, c_5, if_true, if_false])); (unfold Mput; rw [e9]; dsimp only); first | (rw [if_neg (by decide), if_neg c_2, if_neg (fun h => h c_3), if_neg (Int32.not_lt.mpr c_4)]; done) | (rw [if_neg (by decide), if_neg c_2, if_neg (fun h => h c_3), if_neg (Int32.not_lt.mpr c_4)]; exact hsp_86))
                obtain rfl : qa = pp' := by (rw [← ho1]) <;> ((have e9 : Mcnt 8 x 0 = (i, ra, 1) := by first | exact hsp_5.symm | (rw [← hsp_5]; simp only [Mcnt, c_1, c_2, c_3, c_4, c_5, if_true, if_false])); (unfold Mput; rw [e9]; dsimp only); first | (rw [if_neg (by decide), if_neg c_2, if_neg (fun h => h c_3), if_neg (Int32.not_lt.mpr c_4)]; done) | (rw [if_neg (by decide), if_neg c_2, if_neg (fun h => h c_3), if_neg (Int32.not_lt.mpr c_4)]; exact hsp_86))
                obtain rfl : nI (pn + i) = res := by (rw [← hres]) <;> ((have e9 : Mcnt 8 x 0 = (i, ra, 1) := by first | exact hsp_5.symm | (rw [← hsp_5]; simp only [Mcnt, c_1, c_2, c_3, c_4, c_5, if_true, if_false])); (unfold Mput; rw [e9]; dsimp only); first | (rw [if_neg (by decide), if_neg c_2, if_neg (fun h => h c_3), if_neg (Int32.not_lt.mpr c_4)]; done) | (rw [if_neg (by decide), if_neg c_2, if_neg (fun h => h c_3), if_neg (Int32.not_lt.mpr c_4)]; exact hsp_86))
                rw [hQ0]
                exact x_iret hx hb hret hlocks rfl hW rfl dX7_put_140
              | succ k_86 ih_86 =>
                intro k qa hik_86  hsp_86 H locs ls hW hl
                refine lv_iload hx hb dX7_put_86 (lv_at hl 4 rfl) ?_
                refine lv_iload_n hx hb dX7_put_88 rfl (lv_at hl 2 rfl) ?_
                refine lv_icmp_ge (tgt := 126) hx hb dX7_put_89 (by decide) (fun c_6 => absurd c_6 (nI_ge (by omega) (by omega))) (fun c_6 => ?_)
                refine lv_aload_n hx hb dX7_put_92 rfl (lv_at hl 0 rfl) ?_
                refine r_getr (C := RX7) (T := TX7) hx hb hts hown hK hW (xF_mo0).1 (xF_mo0).2.1 inlX7 rfl (by decide) 9 (by decide) (show xro (xkey 12 0 0) 9 = some (xkey 12 8 0) from by decide +kernel) xw_86 rfl dX7_put_93 ?_
                refine lv_aload_n hx hb dX7_put_96 rfl (lv_at hl 0 rfl) ?_
                refine r_get hx hb hts hown hK hW (C := RX7) (T := TX7) (xF_mo0) inlX7 rfl (by decide) 10 (by decide) (by decide +kernel) xw_674 rfl (x := nI pn) hpn dX7_put_97 ?_
                refine lv_iload hx hb dX7_put_100 (lv_at hl 4 rfl) ?_
                refine lv_iadd hx hb dX7_put_102 ?_
                refine lv_eqi (y := nI (pn + k)) (nI_add pn k) ?_
                refine lv_lload_n hx hb dX7_put_103 rfl (lv_at hl 1 rfl) ?_
                refine lv_bipush (v := 8) hx hb dX7_put_104 (by decide) ?_
                refine lv_iload_n hx hb dX7_put_106 rfl (lv_at hl 2 rfl) ?_
                refine lv_iconst (v := 1) hx hb dX7_put_107 (by decide) ?_
                refine lv_isub hx hb dX7_put_108 ?_
                refine lv_iload hx hb dX7_put_109 (lv_at hl 4 rfl) ?_
                refine lv_isub hx hb dX7_put_111 ?_
                refine lv_imul hx hb dX7_put_112 ?_
                refine lv_lshr hx hb dX7_put_113 rfl ?_
                refine lv_ldc2 hx hb hown (hts _ xw_779) dX7_put_114 ?_
                refine lv_land hx hb dX7_put_117 ?_
                refine lv_l2i hx hb dX7_put_118 rfl ?_
                refine r_iast hx hb hK hW (N := 80) (xF_mo8) (pn + k) (by omega) (by decide) rfl (xr_model 8 (by decide) (by decide) (pn + k)) xMa11 dX7_put_119 (fun H locs hW => ?_)
                refine lv_iinc (v := nI (k + 1)) (lv' := [(6, .int (nI (k + 1))), (0, .ref (xB X + xkey 12 0 0)), (1, .long x), (3, .int (nI i)), (4, .long ra)]) hx hb dX7_put_120 hl (k := 4) rfl (nI_1 k) (by decide) rfl (fun ls hl => ?_)
                refine lv_goto (tgt := 86) hx hb dX7_put_123 (by decide) ?_
                refine ih_86 (k + 1) (va_up qa (pn + k) (((x >>> ((8 * (((nI i) - 1) - (nI k))).toInt64 &&& 63)) &&& 255).toInt32)) (by omega)  ?_ H locs ls hW (lv_sub hl [1, 2, 3, 4, 0] rfl)
                rw [← hsp_86]; rfl
            exact loop_86 i 0 pp (by omega)  rfl _ _ _ hW (lv_sub hl [1, 2, 3, 4, 0] rfl)
          · skip
            refine lv_bipush (v := (-4)) hx hb dX7_put_80 (by decide) ?_
            obtain rfl : f = f' := by (rw [← ho0]) <;> ((have e9 : Mcnt 8 x 0 = (i, ra, 1) := by first | exact hsp_5.symm | (rw [← hsp_5]; simp only [Mcnt, c_1, c_2, c_3, c_4, if_true, if_false])); (unfold Mput; rw [e9]; dsimp only); simp [c_1, c_2, c_3, c_4, Int32.not_le.mp c_4])
            obtain rfl : pp = pp' := by (rw [← ho1]) <;> ((have e9 : Mcnt 8 x 0 = (i, ra, 1) := by first | exact hsp_5.symm | (rw [← hsp_5]; simp only [Mcnt, c_1, c_2, c_3, c_4, if_true, if_false])); (unfold Mput; rw [e9]; dsimp only); simp [c_1, c_2, c_3, c_4, Int32.not_le.mp c_4])
            obtain rfl : (-4) = res := by (rw [← hres]) <;> ((have e9 : Mcnt 8 x 0 = (i, ra, 1) := by first | exact hsp_5.symm | (rw [← hsp_5]; simp only [Mcnt, c_1, c_2, c_3, c_4, if_true, if_false])); (unfold Mput; rw [e9]; dsimp only); simp [c_1, c_2, c_3, c_4, Int32.not_le.mp c_4])
            rw [hQ0]
            exact x_iret hx hb hret hlocks rfl hW rfl dX7_put_82
        · skip
          refine lv_bipush (v := (-2)) hx hb dX7_put_66 (by decide) ?_
          obtain rfl : f = f' := by (rw [← ho0]) <;> ((have e9 : Mcnt 8 x 0 = (i, ra, 1) := by first | exact hsp_5.symm | (rw [← hsp_5]; simp only [Mcnt, c_1, c_2, c_3, if_true, if_false])); (unfold Mput; rw [e9]; dsimp only); simp [c_1, c_2, c_3])
          obtain rfl : pp = pp' := by (rw [← ho1]) <;> ((have e9 : Mcnt 8 x 0 = (i, ra, 1) := by first | exact hsp_5.symm | (rw [← hsp_5]; simp only [Mcnt, c_1, c_2, c_3, if_true, if_false])); (unfold Mput; rw [e9]; dsimp only); simp [c_1, c_2, c_3])
          obtain rfl : (-2) = res := by (rw [← hres]) <;> ((have e9 : Mcnt 8 x 0 = (i, ra, 1) := by first | exact hsp_5.symm | (rw [← hsp_5]; simp only [Mcnt, c_1, c_2, c_3, if_true, if_false])); (unfold Mput; rw [e9]; dsimp only); simp [c_1, c_2, c_3])
          rw [hQ0]
          exact x_iret hx hb hret hlocks rfl hW rfl dX7_put_68
    | succ k_5 ih_5 =>
      intro i ra hik_5  hsp_5 H locs ls hW hl
      refine lv_iload_n hx hb dX7_put_5 rfl (lv_at hl 2 rfl) ?_
      refine lv_bipush (v := nI 8) hx hb dX7_put_6 (by decide) ?_
      refine lv_icmp_ge (tgt := 55) hx hb dX7_put_8 (by decide) (fun c_7 => absurd c_7 (nI_ge (by omega) (by omega))) (fun c_7 => ?_)
      refine lv_lload hx hb dX7_put_11 (lv_at hl 3 rfl) ?_
      refine lv_ldc2 hx hb hown (hts _ xw_779) dX7_put_13 ?_
      refine lv_land hx hb dX7_put_16 ?_
      refine lv_lconst (v := 0) hx hb dX7_put_17 (by decide) ?_
      refine W.lcmp hx hb dX7_put_18 ?_
      refine lv_if_eq (tgt := 55) hx hb dX7_put_19 (by decide) (fun c_8 => ?_) (fun c_8 => ?_)
      · skip
        refine lv_iload_n hx hb dX7_put_55 rfl (lv_at hl 2 rfl) ?_
        refine lv_if_eq (tgt := 66) hx hb dX7_put_56 (by decide) (fun c_9 => ?_) (fun c_9 => ?_)
        · skip
          refine lv_bipush (v := (-2)) hx hb dX7_put_66 (by decide) ?_
          obtain rfl : f = f' := by (rw [← ho0]) <;> ((have e9 : Mcnt 8 x 0 = (i, ra, 1) := by first | exact hsp_5.symm | (rw [← hsp_5]; simp only [Mcnt, c_7, c_8, c_9, if_true, if_false])); (unfold Mput; rw [e9]; dsimp only); simp [c_7, c_8, c_9])
          obtain rfl : pp = pp' := by (rw [← ho1]) <;> ((have e9 : Mcnt 8 x 0 = (i, ra, 1) := by first | exact hsp_5.symm | (rw [← hsp_5]; simp only [Mcnt, c_7, c_8, c_9, if_true, if_false])); (unfold Mput; rw [e9]; dsimp only); simp [c_7, c_8, c_9])
          obtain rfl : (-2) = res := by (rw [← hres]) <;> ((have e9 : Mcnt 8 x 0 = (i, ra, 1) := by first | exact hsp_5.symm | (rw [← hsp_5]; simp only [Mcnt, c_7, c_8, c_9, if_true, if_false])); (unfold Mput; rw [e9]; dsimp only); simp [c_7, c_8, c_9])
          rw [hQ0]
          exact x_iret hx hb hret hlocks rfl hW rfl dX7_put_68
        · skip
          refine lv_lload hx hb dX7_put_59 (lv_at hl 3 rfl) ?_
          refine lv_lconst (v := 0) hx hb dX7_put_61 (by decide) ?_
          refine W.lcmp hx hb dX7_put_62 ?_
          refine lv_if_eq (tgt := 69) hx hb dX7_put_63 (by decide) (fun c_10 => ?_) (fun c_10 => ?_)
          · skip
            refine lv_aload_n hx hb dX7_put_69 rfl (lv_at hl 0 rfl) ?_
            refine r_get hx hb hts hown hK hW (C := RX7) (T := TX7) (xF_mo0) inlX7 rfl (by decide) 10 (by decide) (by decide +kernel) xw_674 rfl (x := nI pn) hpn dX7_put_70 ?_
            refine lv_iload_n hx hb dX7_put_73 rfl (lv_at hl 2 rfl) ?_
            refine lv_iadd hx hb dX7_put_74 ?_
            refine lv_eqi (y := nI (pn + i)) (nI_add pn i) ?_
            refine lv_bipush (v := 80) hx hb dX7_put_75 (by decide) ?_
            refine lv_icmp_le (tgt := 83) hx hb dX7_put_77 (by decide) (fun c_11 => ?_) (fun c_11 => ?_)
            · skip
              have hle9 : pn + i ≤ 80 := xnile 80 rfl (by omega) c_11
              refine lv_iconst (v := nI 0) hx hb dX7_put_83 (by decide) ?_
              refine lv_istore (lv' := [(6, .int (nI 0)), (0, .ref (xB X + xkey 12 0 0)), (1, .long x), (3, .int (nI i)), (4, .long ra)]) hx hb dX7_put_84 hl (by decide) rfl (fun ls hl => ?_)
              have loop_86 : ∀ (k_86 k : Nat) (qa : Nat → Int32), k + k_86 = i → xloop (fun k p => va_up p (pn + k) (MpC x i k)) k_86 k qa = xloop (fun k p => va_up p (pn + k) (MpC x i k)) i 0 pp → ∀ (H : Heap) (locs : List Loc) (ls : Array Slot), XR X G 12 (xMa f sg L O Y pb pc pd pe pg ph qa pq pt pu) H locs → lv_has ls 7 [(0, .ref (xB X + xkey 12 0 0)), (1, .long x), (3, .int (nI i)), (4, .long ra), (6, .int (nI k))] → W p l e { frames := 1, cells := 0, slots := 0, locals := 22 } s m args below meth c H locs 0 0 Q0 (F0 m 86 ls []) := by
                intro k_86
                induction k_86 with
                | zero =>
                  intro k qa hik_86  hsp_86 H locs ls hW hl
                  refine lv_iload hx hb dX7_put_86 (lv_at hl 4 rfl) ?_
                  refine lv_iload_n hx hb dX7_put_88 rfl (lv_at hl 2 rfl) ?_
                  refine lv_icmp_ge (tgt := 126) hx hb dX7_put_89 (by decide) (fun c_12 => ?_) (fun c_12 => absurd (xge_refl (by omega)) c_12)
                  refine lv_aload_n hx hb dX7_put_126 rfl (lv_at hl 0 rfl) ?_
                  refine lv_dup hx hb dX7_put_127 rfl ?_
                  refine r_get hx hb hts hown hK hW (C := RX7) (T := TX7) (xF_mo0) inlX7 rfl (by decide) 10 (by decide) (by decide +kernel) xw_674 rfl (x := nI pn) hpn dX7_put_128 ?_
                  refine lv_iload_n hx hb dX7_put_131 rfl (lv_at hl 2 rfl) ?_
                  refine lv_iadd hx hb dX7_put_132 ?_
                  refine lv_eqi (y := nI (pn + i)) (nI_add pn i) ?_
                  refine r_put hx hb hts hown hK hW (C := RX7) (T := TX7) (xF_mo0) inlX7 tyX7 tyX7_ok nmX7 rfl (by decide) 10 (by decide) (by decide +kernel) xw_674 rfl rfl rfl rfl xMa0 dX7_put_133 (fun H locs hW => ?_)
                  refine lv_aload_n hx hb dX7_put_136 rfl (lv_at hl 0 rfl) ?_
                  refine r_get hx hb hts hown hK hW (C := RX7) (T := TX7) (xF_mo0) inlX7 rfl (by decide) 10 (by decide) (by decide +kernel) xw_674 rfl (x := nI (pn + i)) rfl dX7_put_137 ?_
                  obtain rfl : (va_up f 10 (nI (pn + i))) = f' := by (rw [← ho0]) <;> ((have e9 : Mcnt 8 x 0 = (i, ra, 1) := by first | exact hsp_5.symm | (rw [← hsp_5]; simp only [Mcnt, c_7, c_8, c_9, c_10, c_11, c_12, if_true, if_false])); (unfold Mput; rw [e9]; dsimp only); first | (rw [if_neg (by decide), if_neg c_9, if_neg (fun h => h c_10), if_neg (Int32.not_lt.mpr c_11)]; done) | (rw [if_neg (by decide), if_neg c_9, if_neg (fun h => h c_10), if_neg (Int32.not_lt.mpr c_11)]; exact hsp_86))
                  obtain rfl : qa = pp' := by (rw [← ho1]) <;> ((have e9 : Mcnt 8 x 0 = (i, ra, 1) := by first | exact hsp_5.symm | (rw [← hsp_5]; simp only [Mcnt, c_7, c_8, c_9, c_10, c_11, c_12, if_true, if_false])); (unfold Mput; rw [e9]; dsimp only); first | (rw [if_neg (by decide), if_neg c_9, if_neg (fun h => h c_10), if_neg (Int32.not_lt.mpr c_11)]; done) | (rw [if_neg (by decide), if_neg c_9, if_neg (fun h => h c_10), if_neg (Int32.not_lt.mpr c_11)]; exact hsp_86))
                  obtain rfl : nI (pn + i) = res := by (rw [← hres]) <;> ((have e9 : Mcnt 8 x 0 = (i, ra, 1) := by first | exact hsp_5.symm | (rw [← hsp_5]; simp only [Mcnt, c_7, c_8, c_9, c_10, c_11, c_12, if_true, if_false])); (unfold Mput; rw [e9]; dsimp only); first | (rw [if_neg (by decide), if_neg c_9, if_neg (fun h => h c_10), if_neg (Int32.not_lt.mpr c_11)]; done) | (rw [if_neg (by decide), if_neg c_9, if_neg (fun h => h c_10), if_neg (Int32.not_lt.mpr c_11)]; exact hsp_86))
                  rw [hQ0]
                  exact x_iret hx hb hret hlocks rfl hW rfl dX7_put_140
                | succ k_86 ih_86 =>
                  intro k qa hik_86  hsp_86 H locs ls hW hl
                  refine lv_iload hx hb dX7_put_86 (lv_at hl 4 rfl) ?_
                  refine lv_iload_n hx hb dX7_put_88 rfl (lv_at hl 2 rfl) ?_
                  refine lv_icmp_ge (tgt := 126) hx hb dX7_put_89 (by decide) (fun c_13 => absurd c_13 (nI_ge (by omega) (by omega))) (fun c_13 => ?_)
                  refine lv_aload_n hx hb dX7_put_92 rfl (lv_at hl 0 rfl) ?_
                  refine r_getr (C := RX7) (T := TX7) hx hb hts hown hK hW (xF_mo0).1 (xF_mo0).2.1 inlX7 rfl (by decide) 9 (by decide) (show xro (xkey 12 0 0) 9 = some (xkey 12 8 0) from by decide +kernel) xw_86 rfl dX7_put_93 ?_
                  refine lv_aload_n hx hb dX7_put_96 rfl (lv_at hl 0 rfl) ?_
                  refine r_get hx hb hts hown hK hW (C := RX7) (T := TX7) (xF_mo0) inlX7 rfl (by decide) 10 (by decide) (by decide +kernel) xw_674 rfl (x := nI pn) hpn dX7_put_97 ?_
                  refine lv_iload hx hb dX7_put_100 (lv_at hl 4 rfl) ?_
                  refine lv_iadd hx hb dX7_put_102 ?_
                  refine lv_eqi (y := nI (pn + k)) (nI_add pn k) ?_
                  refine lv_lload_n hx hb dX7_put_103 rfl (lv_at hl 1 rfl) ?_
                  refine lv_bipush (v := 8) hx hb dX7_put_104 (by decide) ?_
                  refine lv_iload_n hx hb dX7_put_106 rfl (lv_at hl 2 rfl) ?_
                  refine lv_iconst (v := 1) hx hb dX7_put_107 (by decide) ?_
                  refine lv_isub hx hb dX7_put_108 ?_
                  refine lv_iload hx hb dX7_put_109 (lv_at hl 4 rfl) ?_
                  refine lv_isub hx hb dX7_put_111 ?_
                  refine lv_imul hx hb dX7_put_112 ?_
                  refine lv_lshr hx hb dX7_put_113 rfl ?_
                  refine lv_ldc2 hx hb hown (hts _ xw_779) dX7_put_114 ?_
                  refine lv_land hx hb dX7_put_117 ?_
                  refine lv_l2i hx hb dX7_put_118 rfl ?_
                  refine r_iast hx hb hK hW (N := 80) (xF_mo8) (pn + k) (by omega) (by decide) rfl (xr_model 8 (by decide) (by decide) (pn + k)) xMa11 dX7_put_119 (fun H locs hW => ?_)
                  refine lv_iinc (v := nI (k + 1)) (lv' := [(6, .int (nI (k + 1))), (0, .ref (xB X + xkey 12 0 0)), (1, .long x), (3, .int (nI i)), (4, .long ra)]) hx hb dX7_put_120 hl (k := 4) rfl (nI_1 k) (by decide) rfl (fun ls hl => ?_)
                  refine lv_goto (tgt := 86) hx hb dX7_put_123 (by decide) ?_
                  refine ih_86 (k + 1) (va_up qa (pn + k) (((x >>> ((8 * (((nI i) - 1) - (nI k))).toInt64 &&& 63)) &&& 255).toInt32)) (by omega)  ?_ H locs ls hW (lv_sub hl [1, 2, 3, 4, 0] rfl)
                  rw [← hsp_86]; rfl
              exact loop_86 i 0 pp (by omega)  rfl _ _ _ hW (lv_sub hl [1, 2, 3, 4, 0] rfl)
            · skip
              refine lv_bipush (v := (-4)) hx hb dX7_put_80 (by decide) ?_
              obtain rfl : f = f' := by (rw [← ho0]) <;> ((have e9 : Mcnt 8 x 0 = (i, ra, 1) := by first | exact hsp_5.symm | (rw [← hsp_5]; simp only [Mcnt, c_7, c_8, c_9, c_10, c_11, if_true, if_false])); (unfold Mput; rw [e9]; dsimp only); simp [c_7, c_8, c_9, c_10, c_11, Int32.not_le.mp c_11])
              obtain rfl : pp = pp' := by (rw [← ho1]) <;> ((have e9 : Mcnt 8 x 0 = (i, ra, 1) := by first | exact hsp_5.symm | (rw [← hsp_5]; simp only [Mcnt, c_7, c_8, c_9, c_10, c_11, if_true, if_false])); (unfold Mput; rw [e9]; dsimp only); simp [c_7, c_8, c_9, c_10, c_11, Int32.not_le.mp c_11])
              obtain rfl : (-4) = res := by (rw [← hres]) <;> ((have e9 : Mcnt 8 x 0 = (i, ra, 1) := by first | exact hsp_5.symm | (rw [← hsp_5]; simp only [Mcnt, c_7, c_8, c_9, c_10, c_11, if_true, if_false])); (unfold Mput; rw [e9]; dsimp only); simp [c_7, c_8, c_9, c_10, c_11, Int32.not_le.mp c_11])
              rw [hQ0]
              exact x_iret hx hb hret hlocks rfl hW rfl dX7_put_82
          · skip
            refine lv_bipush (v := (-2)) hx hb dX7_put_66 (by decide) ?_
            obtain rfl : f = f' := by (rw [← ho0]) <;> ((have e9 : Mcnt 8 x 0 = (i, ra, 1) := by first | exact hsp_5.symm | (rw [← hsp_5]; simp only [Mcnt, c_7, c_8, c_9, c_10, if_true, if_false])); (unfold Mput; rw [e9]; dsimp only); simp [c_7, c_8, c_9, c_10])
            obtain rfl : pp = pp' := by (rw [← ho1]) <;> ((have e9 : Mcnt 8 x 0 = (i, ra, 1) := by first | exact hsp_5.symm | (rw [← hsp_5]; simp only [Mcnt, c_7, c_8, c_9, c_10, if_true, if_false])); (unfold Mput; rw [e9]; dsimp only); simp [c_7, c_8, c_9, c_10])
            obtain rfl : (-2) = res := by (rw [← hres]) <;> ((have e9 : Mcnt 8 x 0 = (i, ra, 1) := by first | exact hsp_5.symm | (rw [← hsp_5]; simp only [Mcnt, c_7, c_8, c_9, c_10, if_true, if_false])); (unfold Mput; rw [e9]; dsimp only); simp [c_7, c_8, c_9, c_10])
            rw [hQ0]
            exact x_iret hx hb hret hlocks rfl hW rfl dX7_put_68
      · skip
        refine lv_lload hx hb dX7_put_22 (lv_at hl 3 rfl) ?_
        refine lv_ldc2 hx hb hown (hts _ xw_779) dX7_put_24 ?_
        refine lv_land hx hb dX7_put_27 ?_
        refine lv_l2i hx hb dX7_put_28 rfl ?_
        refine lv_bipush (v := 33) hx hb dX7_put_29 (by decide) ?_
        refine lv_bipush (v := 126) hx hb dX7_put_31 (by decide) ?_
        refine x_callS hx hb hml hown hts hK hW hl.1 (c_X7_in l X _ (v := (ra &&& 255).toInt32) (lo := 33) (hi := 126) (hres := rfl)) xw_159 xw_160 xw_5 xw_161 hdS_yX7_in ⟨Nat.le_of_ble_eq_true rfl, Nat.le_of_ble_eq_true rfl⟩ rfl (Nat.le_of_ble_eq_true rfl) ⟨Nat.le_refl _, Nat.le_refl _⟩ dX7_put_33 (fun H locs hW => ?_)
        refine lv_if_ne (tgt := 42) hx hb dX7_put_36 (by decide) (fun c_14 => ?_) (fun c_14 => ?_)
        · skip
          refine lv_iinc (v := nI (i + 1)) (lv' := [(3, .int (nI (i + 1))), (0, .ref (xB X + xkey 12 0 0)), (1, .long x), (4, .long ra)]) hx hb dX7_put_42 hl (k := 2) rfl (nI_1 i) (by decide) rfl (fun ls hl => ?_)
          refine lv_lload hx hb dX7_put_45 (lv_at hl 3 rfl) ?_
          refine lv_bipush (v := nI 8) hx hb dX7_put_47 (by decide) ?_
          refine lv_lushr hx hb dX7_put_49 rfl ?_
          refine lv_lstore (lv' := [(4, .long ((ra.toUInt64 >>> ((nI 8).toInt64.toUInt64 &&& Int64.toUInt64 63)).toInt64)), (3, .int (nI (i + 1))), (0, .ref (xB X + xkey 12 0 0)), (1, .long x)]) hx hb dX7_put_50 hl (by decide) rfl (fun ls hl => ?_)
          refine lv_goto (tgt := 5) hx hb dX7_put_52 (by decide) ?_
          refine ih_5 (i + 1) ((ra.toUInt64 >>> ((nI 8).toInt64.toUInt64 &&& Int64.toUInt64 63)).toInt64) (by omega)  ?_ H locs ls hW (lv_sub hl [2, 3, 1, 0] rfl)
          rw [← hsp_5]; simp only [Mcnt, xshr8, c_7, c_8, c_14, if_true, if_false]
        · skip
          refine lv_bipush (v := (-2)) hx hb dX7_put_39 (by decide) ?_
          obtain rfl : f = f' := by (rw [← ho0]) <;> ((have e9 : Mcnt 8 x 0 = (i, ra, 0) := by first | exact hsp_5.symm | (rw [← hsp_5]; simp only [Mcnt, c_7, c_8, c_14, if_true, if_false])); (unfold Mput; rw [e9]; dsimp only); simp [c_7, c_8, c_14])
          obtain rfl : pp = pp' := by (rw [← ho1]) <;> ((have e9 : Mcnt 8 x 0 = (i, ra, 0) := by first | exact hsp_5.symm | (rw [← hsp_5]; simp only [Mcnt, c_7, c_8, c_14, if_true, if_false])); (unfold Mput; rw [e9]; dsimp only); simp [c_7, c_8, c_14])
          obtain rfl : (-2) = res := by (rw [← hres]) <;> ((have e9 : Mcnt 8 x 0 = (i, ra, 0) := by first | exact hsp_5.symm | (rw [← hsp_5]; simp only [Mcnt, c_7, c_8, c_14, if_true, if_false])); (unfold Mput; rw [e9]; dsimp only); simp [c_7, c_8, c_14])
          rw [hQ0]
          exact x_iret hx hb hret hlocks rfl hW rfl dX7_put_41
  exact loop_5 8 0 x (by omega)  rfl _ _ _ hW (lv_sub hl [2, 3, 1, 0] rfl)
