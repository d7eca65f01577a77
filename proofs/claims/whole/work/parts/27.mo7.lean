/-! ===== the model: goals, mending, coughs, ticks, what is told ===== -/
def Mof {α : Type} (s x : Int32) (A B : α) : α := if Fin3 x 0 (s - 1) = 0 then A else B
def MtellL (ℓ : Nat → Int32) (x : Int32) : Int32 := if x = 5 then (if 0 < ℓ 5 then ℓ 5 else -6) else if x = 6 then (if 0 < ℓ 5 then ℓ 6 else -6) else if Fin3 x 0 10 = 0 then -2 else ℓ x.toNatClampNeg
def MtellW (n : Nat) (L : Nat → Nat → Int32) (r : Nat → Int32) (x : Int32) : Int32 := if x = 0 then r 0 else if x = 1 then r 1 else if x = 2 then r 2 else if x = 3 then (if 0 < r 3 then r 8 else -6) else if x = 4 then r 3 else if x = 5 then r 4 else if x = 6 then r 5 else if x = 7 then (if Mstr r = 0 then 0 else if Mlit n (r 0) L = 0 then 0 else 1) else if x = 8 then r 6 else -2
def MtellH (n : Nat) (L O : Nat → Nat → Int32) (a : Nat) (x : Int32) : Int32 := if x = 0 then O a 0 else if x = 1 then (if Mdis L O a n = 0 then 0 else 1) else if x = 2 then O a 1 else -2
def Mhearers (n : Nat) (sg : Nat → Int32) (a : Nat) (L : Nat → Nat → Int32) : Int32 := if L a 3 = 2 then 0 else xloop (fun i s => if Mhears sg L i a = 0 then s ||| 0 else s ||| xbit i) n 0 0
def Mthat (n : Nat) (d : Int32) (L : Nat → Nat → Int32) : Int32 := xloop (fun i s => if L i 2 = d then s + 1 else s + 0) n 0 0
def Msum (n w : Nat) (T : Nat → Nat → Int32) : Int32 := xloop (fun i s => s + T i w) n 0 0
def Minstr (nw : Nat) (Y : Nat → Nat → Int32) : Int32 := xloop (fun i s => if Mstr (Y i) = 0 then s + 0 else s + 1) nw 0 0
theorem xin03 {x : Int32} (c : ¬ Fin3 x 0 3 = 0) : (x.toNatClampNeg < 3 + 1 ∧ x = nI x.toNatClampNeg) := xfin 3 rfl (by decide) c
def Mcount (n nh nw pm : Nat) (x pad : Int32) (sg : Nat → Int32) (L O Y : Nat → Nat → Int32) : Int32 :=
  if Fin3 x 0 3 = 0 then (if Fin3 x 11 16 = 0 then
    (if x = 4 then Minstr nw Y else if x = 5 then Mthat n 2 L else if x = 6 then Mthat n 1 L else if x = 7 then Msum n 7 L else if x = 8 then Msum nw 5 Y else if x = 9 then Msum nh 1 O else if x = 10 then Msum n 8 L else if x = 17 then pad else if x = 18 then nI pm else -2)
    else sg (x - 11).toNatClampNeg) else sg (6 + x.toNatClampNeg)
def Mcounted (n nh nw : Nat) (x : Int32) (L O Y : Nat → Nat → Int32) : Int32 := if x = 0 then Msum nw 5 Y else if x = 1 then Msum n 7 L else if x = 2 then Msum nh 1 O else Msum n 8 L
theorem hdV_yX7_goal : yX7_goal.cls = RX7 ∧ yX7_goal.cls ≠ "java/lang/invoke/MethodHandle" ∧ yX7_goal.cls ≠ "java/lang/invoke/VarHandle" ∧ (parseMethodDescriptor yX7_goal.desc).map (fun d => d.parameters.length) = some 3 := by decide +kernel
theorem hdV_yX7_mendTo : yX7_mendTo.cls = RX7 ∧ yX7_mendTo.cls ≠ "java/lang/invoke/MethodHandle" ∧ yX7_mendTo.cls ≠ "java/lang/invoke/VarHandle" ∧ (parseMethodDescriptor yX7_mendTo.desc).map (fun d => d.parameters.length) = some 2 := by decide +kernel
theorem hdV_yX7_tryMend : yX7_tryMend.cls = RX7 ∧ yX7_tryMend.cls ≠ "java/lang/invoke/MethodHandle" ∧ yX7_tryMend.cls ≠ "java/lang/invoke/VarHandle" ∧ (parseMethodDescriptor yX7_tryMend.desc).map (fun d => d.parameters.length) = some 3 := by decide +kernel
theorem hdV_yX7_mend : yX7_mend.cls = RX7 ∧ yX7_mend.cls ≠ "java/lang/invoke/MethodHandle" ∧ yX7_mend.cls ≠ "java/lang/invoke/VarHandle" ∧ (parseMethodDescriptor yX7_mend.desc).map (fun d => d.parameters.length) = some 2 := by decide +kernel
theorem hdV_yX7_tryCough : yX7_tryCough.cls = RX7 ∧ yX7_tryCough.cls ≠ "java/lang/invoke/MethodHandle" ∧ yX7_tryCough.cls ≠ "java/lang/invoke/VarHandle" ∧ (parseMethodDescriptor yX7_tryCough.desc).map (fun d => d.parameters.length) = some 2 := by decide +kernel
theorem hdV_yX7_cough : yX7_cough.cls = RX7 ∧ yX7_cough.cls ≠ "java/lang/invoke/MethodHandle" ∧ yX7_cough.cls ≠ "java/lang/invoke/VarHandle" ∧ (parseMethodDescriptor yX7_cough.desc).map (fun d => d.parameters.length) = some 1 := by decide +kernel
theorem hdV_yX7_tryTicks : yX7_tryTicks.cls = RX7 ∧ yX7_tryTicks.cls ≠ "java/lang/invoke/MethodHandle" ∧ yX7_tryTicks.cls ≠ "java/lang/invoke/VarHandle" ∧ (parseMethodDescriptor yX7_tryTicks.desc).map (fun d => d.parameters.length) = some 2 := by decide +kernel
theorem hdV_yX7_ticks : yX7_ticks.cls = RX7 ∧ yX7_ticks.cls ≠ "java/lang/invoke/MethodHandle" ∧ yX7_ticks.cls ≠ "java/lang/invoke/VarHandle" ∧ (parseMethodDescriptor yX7_ticks.desc).map (fun d => d.parameters.length) = some 1 := by decide +kernel
theorem hdV_yX7_ofLamp : yX7_ofLamp.cls = RX7 ∧ yX7_ofLamp.cls ≠ "java/lang/invoke/MethodHandle" ∧ yX7_ofLamp.cls ≠ "java/lang/invoke/VarHandle" ∧ (parseMethodDescriptor yX7_ofLamp.desc).map (fun d => d.parameters.length) = some 2 := by decide +kernel
theorem hdV_yX7_ofWalker : yX7_ofWalker.cls = RX7 ∧ yX7_ofWalker.cls ≠ "java/lang/invoke/MethodHandle" ∧ yX7_ofWalker.cls ≠ "java/lang/invoke/VarHandle" ∧ (parseMethodDescriptor yX7_ofWalker.desc).map (fun d => d.parameters.length) = some 2 := by decide +kernel
theorem hdV_yX7_ofHouse : yX7_ofHouse.cls = RX7 ∧ yX7_ofHouse.cls ≠ "java/lang/invoke/MethodHandle" ∧ yX7_ofHouse.cls ≠ "java/lang/invoke/VarHandle" ∧ (parseMethodDescriptor yX7_ofHouse.desc).map (fun d => d.parameters.length) = some 2 := by decide +kernel
theorem hdV_yX7_lightAt : yX7_lightAt.cls = RX7 ∧ yX7_lightAt.cls ≠ "java/lang/invoke/MethodHandle" ∧ yX7_lightAt.cls ≠ "java/lang/invoke/VarHandle" ∧ (parseMethodDescriptor yX7_lightAt.desc).map (fun d => d.parameters.length) = some 1 := by decide +kernel
theorem hdV_yX7_hearers : yX7_hearers.cls = RX7 ∧ yX7_hearers.cls ≠ "java/lang/invoke/MethodHandle" ∧ yX7_hearers.cls ≠ "java/lang/invoke/VarHandle" ∧ (parseMethodDescriptor yX7_hearers.desc).map (fun d => d.parameters.length) = some 1 := by decide +kernel
theorem hdV_yX7_lampsThat : yX7_lampsThat.cls = RX7 ∧ yX7_lampsThat.cls ≠ "java/lang/invoke/MethodHandle" ∧ yX7_lampsThat.cls ≠ "java/lang/invoke/VarHandle" ∧ (parseMethodDescriptor yX7_lampsThat.desc).map (fun d => d.parameters.length) = some 1 := by decide +kernel
theorem hdV_yX7_sumL : yX7_sumL.cls = RX7 ∧ yX7_sumL.cls ≠ "java/lang/invoke/MethodHandle" ∧ yX7_sumL.cls ≠ "java/lang/invoke/VarHandle" ∧ (parseMethodDescriptor yX7_sumL.desc).map (fun d => d.parameters.length) = some 1 := by decide +kernel
theorem hdV_yX7_darkTicks : yX7_darkTicks.cls = RX7 ∧ yX7_darkTicks.cls ≠ "java/lang/invoke/MethodHandle" ∧ yX7_darkTicks.cls ≠ "java/lang/invoke/VarHandle" ∧ (parseMethodDescriptor yX7_darkTicks.desc).map (fun d => d.parameters.length) = some 0 := by decide +kernel
theorem hdV_yX7_disturbedTicks : yX7_disturbedTicks.cls = RX7 ∧ yX7_disturbedTicks.cls ≠ "java/lang/invoke/MethodHandle" ∧ yX7_disturbedTicks.cls ≠ "java/lang/invoke/VarHandle" ∧ (parseMethodDescriptor yX7_disturbedTicks.desc).map (fun d => d.parameters.length) = some 0 := by decide +kernel
theorem hdV_yX7_walkersInStreet : yX7_walkersInStreet.cls = RX7 ∧ yX7_walkersInStreet.cls ≠ "java/lang/invoke/MethodHandle" ∧ yX7_walkersInStreet.cls ≠ "java/lang/invoke/VarHandle" ∧ (parseMethodDescriptor yX7_walkersInStreet.desc).map (fun d => d.parameters.length) = some 0 := by decide +kernel
theorem hdV_yX7_count : yX7_count.cls = RX7 ∧ yX7_count.cls ≠ "java/lang/invoke/MethodHandle" ∧ yX7_count.cls ≠ "java/lang/invoke/VarHandle" ∧ (parseMethodDescriptor yX7_count.desc).map (fun d => d.parameters.length) = some 1 := by decide +kernel
theorem hdV_yX7_counted : yX7_counted.cls = RX7 ∧ yX7_counted.cls ≠ "java/lang/invoke/MethodHandle" ∧ yX7_counted.cls ≠ "java/lang/invoke/VarHandle" ∧ (parseMethodDescriptor yX7_counted.desc).map (fun d => d.parameters.length) = some 1 := by decide +kernel
set_option maxHeartbeats 4000000 in
set_option maxRecDepth 100000 in
theorem c_X7_goal (l : Launch) (X : xX) (G : xG) {f sg pb pc pd pe pg ph pp pq pt pu : Nat → Int32} {L O Y : Nat → Nat → Int32} {nw pf pm : Nat} {x a b : Int32} (hw : sg 9 = nI nw) (hw8 : nw ≤ 8) (hY : ∀ j, j < 8 → MW (Y j)) (hpf : f 2 = nI pf) (hpf6 : pf < 6) (hpm : f 3 = nI pm) (hpm6 : pm ≤ 6) {f' : Nat → Int32} (ho0 : (Mgl (sg 9) x a b (Y x.toNatClampNeg 3).toNatClampNeg (Y x.toNatClampNeg) f f f f (MkF pf pm f)) = f') {pb' : Nat → Int32} (ho1 : (Mgl (sg 9) x a b (Y x.toNatClampNeg 3).toNatClampNeg (Y x.toNatClampNeg) pb pb pb pb (MkB pf pm (xat sg L O Y) pb)) = pb') {Y' : Nat → Nat → Int32} (ho2 : (Mgl (sg 9) x a b (Y x.toNatClampNeg 3).toNatClampNeg (Y x.toNatClampNeg) Y Y Y Y (va_up Y x.toNatClampNeg (Maddg a b (Y x.toNatClampNeg 3).toNatClampNeg (Y x.toNatClampNeg)))) = Y') {res : Int32} (hres : (Mgl (sg 9) x a b (Y x.toNatClampNeg 3).toNatClampNeg (Y x.toNatClampNeg) (-1) (-2) (-4) (-5) (nI ((Y x.toNatClampNeg 3).toNatClampNeg + 1))) = res) : XC l yX7_goal cX7_goal 4 (some .int) 3 67 0 0 X xsh [.ref (xB X + xkey 12 0 0), .int x, .int a, .int b] 603 603 (xval (xB X) (va_up G 12 (xMa f sg L O Y pb pc pd pe pg ph pp pq pt pu))) (xval (xB X) (va_up G 12 (xMa f' sg L O Y' pb' pc pd pe pg ph pp pq pt pu))) (some (.int res)) := by
  refine XC.of RX7 "goal" [(0, .ref (xB X + xkey 12 0 0)), (1, .int x), (2, .int a), (3, .int b)] (by decide) rfl rfl (Nat.le_of_ble_eq_true rfl) rfl ?_
  intro p e s m args below meth c ls hx hb hret hml hts hown hlocks hnm hK hW hl
  have hW : XR X G 12 (xMa f sg L O Y pb pc pd pe pg ph pp pq pt pu) s.heap [] := hW
  obtain ⟨Q0, hQ0⟩ : ∃ z, z = MQ below (xQ X xsh 603 (xval (xB X) (va_up G 12 (xMa f' sg L O Y' pb' pc pd pe pg ph pp pq pt pu))) (some (.int res))) args s 0 0 (fun q => xB X ≤ q) := ⟨_, rfl⟩
  rw [← hQ0]
  refine lv_aload_n hx hb dX7_goal_0 rfl (lv_at hl 0 rfl) ?_
  refine lv_iload_n hx hb dX7_goal_1 rfl (lv_at hl 1 rfl) ?_
  refine lv_iload_n hx hb dX7_goal_2 rfl (lv_at hl 2 rfl) ?_
  refine lv_iload_n hx hb dX7_goal_3 rfl (lv_at hl 3 rfl) ?_
  refine lv_iconst (v := 1) hx hb dX7_goal_4 (by decide) ?_
  refine x_callV hx hb hml hown hts hK hW hl.1 (c_X7_tryGoal l X G (nw := nw) (pf := pf) (pm := pm) (x := x) (a := a) (b := b) (k := 1) (hw := (by assumption)) (hw8 := (by assumption)) (hY := (by assumption)) (hpf := (by assumption)) (hpf6 := (by omega)) (hpm := (by assumption)) (hpm6 := (by assumption)) (ho0 := rfl) (ho1 := rfl) (ho2 := rfl) (hres := rfl)) (xF_mo0).1 (xF_mo0).2.1 (by decide) rfl xw_270 xw_271 xw_272 xw_5 xw_273 hdV_yX7_tryGoal ⟨Nat.le_of_ble_eq_true rfl, Nat.le_of_ble_eq_true rfl⟩ rfl (Nat.le_of_ble_eq_true rfl) ⟨Nat.le_refl _, Nat.le_refl _⟩ dX7_goal_5 (fun H locs hW => ?_)
  have hW : XR X G 12 (xMa (Mgl (sg 9) x a b (Y x.toNatClampNeg 3).toNatClampNeg (Y x.toNatClampNeg) f f f f (if 1 = 0 then f else MkF pf pm f)) sg L O (Mgl (sg 9) x a b (Y x.toNatClampNeg 3).toNatClampNeg (Y x.toNatClampNeg) Y Y Y Y (va_up Y x.toNatClampNeg (Maddg a b (Y x.toNatClampNeg 3).toNatClampNeg (Y x.toNatClampNeg)))) (Mgl (sg 9) x a b (Y x.toNatClampNeg 3).toNatClampNeg (Y x.toNatClampNeg) pb pb pb pb (if 1 = 0 then pb else MkB pf pm (xat sg L O Y) pb)) pc pd pe pg ph pp pq pt pu) H locs := hW
  obtain rfl : (Mgl (sg 9) x a b (Y x.toNatClampNeg 3).toNatClampNeg (Y x.toNatClampNeg) f f f f (if 1 = 0 then f else MkF pf pm f)) = f' := by (rw [← ho0]) <;> (rfl)
  obtain rfl : (Mgl (sg 9) x a b (Y x.toNatClampNeg 3).toNatClampNeg (Y x.toNatClampNeg) pb pb pb pb (if 1 = 0 then pb else MkB pf pm (xat sg L O Y) pb)) = pb' := by (rw [← ho1]) <;> (rfl)
  obtain rfl : (Mgl (sg 9) x a b (Y x.toNatClampNeg 3).toNatClampNeg (Y x.toNatClampNeg) Y Y Y Y (va_up Y x.toNatClampNeg (Maddg a b (Y x.toNatClampNeg 3).toNatClampNeg (Y x.toNatClampNeg)))) = Y' := by (rw [← ho2]) <;> (rfl)
  obtain rfl : Mgl (sg 9) x a b (Y x.toNatClampNeg 3).toNatClampNeg (Y x.toNatClampNeg) (-1) (-2) (-4) (-5) (nI ((Y x.toNatClampNeg 3).toNatClampNeg + 1)) = res := by (rw [← hres]) <;> (rfl)
  rw [hQ0]
  exact x_iret hx hb hret hlocks rfl hW rfl dX7_goal_8
set_option maxHeartbeats 4000000 in
set_option maxRecDepth 100000 in
theorem c_X7_mendTo (l : Launch) (X : xX) (G : xG) {f sg pb pc pd pe pg ph pp pq pt pu : Nat → Int32} {L O Y : Nat → Nat → Int32} {i : Nat} {h : Int32} {ℓ : Nat → Int32} (hi : i < 16) {ℓ' : Nat → Int32} (ho0 : (Mmend h ℓ) = ℓ') : XC l yX7_mendTo cX7_mendTo 3 none 2 44 0 0 X xsh [.ref (xB X + xkey 12 0 0), .int (nI i), .int h] 603 603 (xval (xB X) (va_up G 12 (xMa f sg (va_up L i ℓ) O Y pb pc pd pe pg ph pp pq pt pu))) (xval (xB X) (va_up G 12 (xMa f sg (va_up L i ℓ') O Y pb pc pd pe pg ph pp pq pt pu))) none := by
  refine XC.of RX7 "mendTo" [(0, .ref (xB X + xkey 12 0 0)), (1, .int (nI i)), (2, .int h)] (by decide) rfl rfl (Nat.le_of_ble_eq_true rfl) rfl ?_
  intro p e s m args below meth c ls hx hb hret hml hts hown hlocks hnm hK hW hl
  have hW : XR X G 12 (xMa f sg (va_up L i ℓ) O Y pb pc pd pe pg ph pp pq pt pu) s.heap [] := hW
  obtain ⟨Q0, hQ0⟩ : ∃ z, z = MQ below (xQ X xsh 603 (xval (xB X) (va_up G 12 (xMa f sg (va_up L i ℓ') O Y pb pc pd pe pg ph pp pq pt pu))) none) args s 0 0 (fun q => xB X ≤ q) := ⟨_, rfl⟩
  rw [← hQ0]
  refine lv_aload_n hx hb dX7_mendTo_0 rfl (lv_at hl 0 rfl) ?_
  refine lv_iload_n hx hb dX7_mendTo_1 rfl (lv_at hl 1 rfl) ?_
  refine lv_iconst (v := 3) hx hb dX7_mendTo_2 (by decide) ?_
  refine lv_iload_n hx hb dX7_mendTo_3 rfl (lv_at hl 2 rfl) ?_
  refine x_callV hx hb hml hown hts hK hW hl.1 (c_X7_layL l X G (i := i) (w := 3) (v := h) (hi := hi) (hw := (by decide)) ) (xF_mo0).1 (xF_mo0).2.1 (by decide) rfl xw_202 xw_203 xw_204 xw_5 xw_205 hdV_yX7_layL ⟨Nat.le_of_ble_eq_true rfl, Nat.le_of_ble_eq_true rfl⟩ rfl (Nat.le_of_ble_eq_true rfl) ⟨Nat.le_refl _, Nat.le_refl _⟩ dX7_mendTo_4 (fun H locs hW => ?_)
  have hW : XR X G 12 (xMa f sg (va_up L i (va_up ℓ 3 h)) O Y pb pc pd pe pg ph pp pq pt pu) H locs := hW
  refine lv_iload_n hx hb dX7_mendTo_7 rfl (lv_at hl 2 rfl) ?_
  refine lv_iconst (v := 2) hx hb dX7_mendTo_8 (by decide) ?_
  refine lv_icmp_ne (tgt := 31) hx hb dX7_mendTo_9 (by decide) (fun c_1 => ?_) (fun c_1 => ?_)
  · skip
    obtain rfl : (va_up ℓ 3 h) = ℓ' := by (rw [← ho0]) <;> (simp [Mmend, c_1])
    rw [hQ0]
    exact x_vret hx hb hret hlocks hW rfl dX7_mendTo_31
  · skip
    refine lv_aload_n hx hb dX7_mendTo_12 rfl (lv_at hl 0 rfl) ?_
    refine lv_iload_n hx hb dX7_mendTo_13 rfl (lv_at hl 1 rfl) ?_
    refine lv_iconst (v := 2) hx hb dX7_mendTo_14 (by decide) ?_
    refine lv_iconst (v := 0) hx hb dX7_mendTo_15 (by decide) ?_
    refine x_callV hx hb hml hown hts hK hW hl.1 (c_X7_layL l X G (i := i) (w := 2) (v := 0) (hi := hi) (hw := (by decide)) ) (xF_mo0).1 (xF_mo0).2.1 (by decide) rfl xw_202 xw_203 xw_204 xw_5 xw_205 hdV_yX7_layL ⟨Nat.le_of_ble_eq_true rfl, Nat.le_of_ble_eq_true rfl⟩ rfl (Nat.le_of_ble_eq_true rfl) ⟨Nat.le_refl _, Nat.le_refl _⟩ dX7_mendTo_16 (fun H locs hW => ?_)
    have hW : XR X G 12 (xMa f sg (va_up L i (va_up (va_up ℓ 3 h) 2 0)) O Y pb pc pd pe pg ph pp pq pt pu) H locs := hW
    refine lv_aload_n hx hb dX7_mendTo_19 rfl (lv_at hl 0 rfl) ?_
    refine lv_iload_n hx hb dX7_mendTo_20 rfl (lv_at hl 1 rfl) ?_
    refine lv_iconst (v := 4) hx hb dX7_mendTo_21 (by decide) ?_
    refine lv_iconst (v := 0) hx hb dX7_mendTo_22 (by decide) ?_
    refine x_callV hx hb hml hown hts hK hW hl.1 (c_X7_layL l X G (i := i) (w := 4) (v := 0) (hi := hi) (hw := (by decide)) ) (xF_mo0).1 (xF_mo0).2.1 (by decide) rfl xw_202 xw_203 xw_204 xw_5 xw_205 hdV_yX7_layL ⟨Nat.le_of_ble_eq_true rfl, Nat.le_of_ble_eq_true rfl⟩ rfl (Nat.le_of_ble_eq_true rfl) ⟨Nat.le_refl _, Nat.le_refl _⟩ dX7_mendTo_23 (fun H locs hW => ?_)
    have hW : XR X G 12 (xMa f sg (va_up L i (va_up (va_up (va_up ℓ 3 h) 2 0) 4 0)) O Y pb pc pd pe pg ph pp pq pt pu) H locs := hW
    refine lv_aload_n hx hb dX7_mendTo_26 rfl (lv_at hl 0 rfl) ?_
    refine lv_iload_n hx hb dX7_mendTo_27 rfl (lv_at hl 1 rfl) ?_
    refine x_callV hx hb hml hown hts hK hW hl.1 (c_X7_stopWaiting l X G (i := i) (hi := hi) ) (xF_mo0).1 (xF_mo0).2.1 (by decide) rfl xw_319 xw_320 xw_321 xw_5 xw_322 hdV_yX7_stopWaiting ⟨Nat.le_of_ble_eq_true rfl, Nat.le_of_ble_eq_true rfl⟩ rfl (Nat.le_of_ble_eq_true rfl) ⟨Nat.le_refl _, Nat.le_refl _⟩ dX7_mendTo_28 (fun H locs hW => ?_)
    have hW : XR X G 12 (xMa f sg (va_up L i (va_up (va_up (va_up (va_up (va_up ℓ 3 h) 2 0) 4 0) 5 0) 6 0)) O Y pb pc pd pe pg ph pp pq pt pu) H locs := hW
    obtain rfl : (va_up (va_up (va_up (va_up (va_up ℓ 3 h) 2 0) 4 0) 5 0) 6 0) = ℓ' := by (rw [← ho0]) <;> (simp [Mmend, c_1])
    rw [hQ0]
    exact x_vret hx hb hret hlocks hW rfl dX7_mendTo_31
set_option maxHeartbeats 4000000 in
set_option maxRecDepth 100000 in
theorem c_X7_tryMend (l : Launch) (X : xX) (G : xG) {f sg pb pc pd pe pg ph pp pq pt pu : Nat → Int32} {L O Y : Nat → Nat → Int32} {n pf pm : Nat} {x h k : Int32} (hn : sg 7 = nI n) (hn16 : n ≤ 16) (hpf : f 2 = nI pf) (hpf6 : pf < 6) (hpm : f 3 = nI pm) (hpm6 : pm ≤ 6) {f' : Nat → Int32} (ho0 : (Mmd (sg 7) x h f f (if k = 0 then f else MkF pf pm f)) = f') {pb' : Nat → Int32} (ho1 : (Mmd (sg 7) x h pb pb (if k = 0 then pb else MkB pf pm (xat sg L O Y) pb)) = pb') {L' : Nat → Nat → Int32} (ho2 : (Mmd (sg 7) x h L L (va_up L x.toNatClampNeg (Mmend h (L x.toNatClampNeg)))) = L') {res : Int32} (hres : (Mmd (sg 7) x h (-1) (-2) (L x.toNatClampNeg 3)) = res) : XC l yX7_tryMend cX7_tryMend 5 (some .int) 3 66 0 0 X xsh [.ref (xB X + xkey 12 0 0), .int x, .int h, .int k] 603 603 (xval (xB X) (va_up G 12 (xMa f sg L O Y pb pc pd pe pg ph pp pq pt pu))) (xval (xB X) (va_up G 12 (xMa f' sg L' O Y pb' pc pd pe pg ph pp pq pt pu))) (some (.int res)) := by
  refine XC.of RX7 "tryMend" [(0, .ref (xB X + xkey 12 0 0)), (1, .int x), (2, .int h), (3, .int k)] (by decide) rfl rfl (Nat.le_of_ble_eq_true rfl) rfl ?_
  intro p e s m args below meth c ls hx hb hret hml hts hown hlocks hnm hK hW hl
  have hW : XR X G 12 (xMa f sg L O Y pb pc pd pe pg ph pp pq pt pu) s.heap [] := hW
  obtain ⟨Q0, hQ0⟩ : ∃ z, z = MQ below (xQ X xsh 603 (xval (xB X) (va_up G 12 (xMa f' sg L' O Y pb' pc pd pe pg ph pp pq pt pu))) (some (.int res))) args s 0 0 (fun q => xB X ≤ q) := ⟨_, rfl⟩
  rw [← hQ0]
  refine lv_aload_n hx hb dX7_tryMend_0 rfl (lv_at hl 0 rfl) ?_
  refine lv_iload_n hx hb dX7_tryMend_1 rfl (lv_at hl 1 rfl) ?_
  refine x_callV hx hb hml hown hts hK hW hl.1 (c_X7_isLamp l X G (x := x)  (hres := rfl)) (xF_mo0).1 (xF_mo0).2.1 (by decide) rfl xw_311 xw_312 xw_313 xw_5 xw_314 hdV_yX7_isLamp ⟨Nat.le_of_ble_eq_true rfl, Nat.le_of_ble_eq_true rfl⟩ rfl (Nat.le_of_ble_eq_true rfl) ⟨Nat.le_refl _, Nat.le_refl _⟩ dX7_tryMend_2 (fun H locs hW => ?_)
  refine lv_if_ne (tgt := 10) hx hb dX7_tryMend_5 (by decide) (fun c_1 => ?_) (fun c_1 => ?_)
  · skip
    have hx9 := xin hn (by omega) c_1
    have hx8 : x.toNatClampNeg < n := hx9.1
    refine lv_iload_n hx hb dX7_tryMend_10 rfl (lv_at hl 2 rfl) ?_
    refine lv_iconst (v := 0) hx hb dX7_tryMend_11 (by decide) ?_
    refine lv_iconst (v := 2) hx hb dX7_tryMend_12 (by decide) ?_
    refine x_callS hx hb hml hown hts hK hW hl.1 (c_X7_in l X _ (v := h) (lo := 0) (hi := 2) (hres := rfl)) xw_159 xw_160 xw_5 xw_161 hdS_yX7_in ⟨Nat.le_of_ble_eq_true rfl, Nat.le_of_ble_eq_true rfl⟩ rfl (Nat.le_of_ble_eq_true rfl) ⟨Nat.le_refl _, Nat.le_refl _⟩ dX7_tryMend_13 (fun H locs hW => ?_)
    refine lv_if_ne (tgt := 22) hx hb dX7_tryMend_16 (by decide) (fun c_2 => ?_) (fun c_2 => ?_)
    · skip
      refine lv_aload_n hx hb dX7_tryMend_22 rfl (lv_at hl 0 rfl) ?_
      refine lv_iload_n hx hb dX7_tryMend_23 rfl (lv_at hl 3 rfl) ?_
      refine x_callV hx hb hml hown hts hK hW hl.1 (c_X7_keepIf l X G (pf := pf) (pm := pm) (k := k) (hpf := (by assumption)) (hpf6 := (by omega)) (hpm := (by assumption)) (hpm6 := (by assumption)) (ho0 := rfl) (ho1 := rfl)) (xF_mo0).1 (xF_mo0).2.1 (by decide) rfl xw_242 xw_243 xw_244 xw_5 xw_245 hdV_yX7_keepIf ⟨Nat.le_of_ble_eq_true rfl, Nat.le_of_ble_eq_true rfl⟩ rfl (Nat.le_of_ble_eq_true rfl) ⟨Nat.le_refl _, Nat.le_refl _⟩ dX7_tryMend_24 (fun H locs hW => ?_)
      have hW : XR X G 12 (xMa (if k = 0 then f else MkF pf pm f) sg L O Y (if k = 0 then pb else MkB pf pm (xat sg L O Y) pb) pc pd pe pg ph pp pq pt pu) H locs := hW
      refine lv_aload_n hx hb dX7_tryMend_27 rfl (lv_at hl 0 rfl) ?_
      refine lv_iload_n hx hb dX7_tryMend_28 rfl (lv_at hl 1 rfl) ?_
      refine lv_eqi (y := nI x.toNatClampNeg) hx9.2 ?_
      refine lv_iconst (v := 3) hx hb dX7_tryMend_29 (by decide) ?_
      refine x_callV hx hb hml hown hts hK hW hl.1 (c_X7_ofL l X G (i := x.toNatClampNeg) (w := 3) (hi := (by omega)) (hw := (by decide)) (hres := rfl)) (xF_mo0).1 (xF_mo0).2.1 (by decide) rfl xw_198 xw_199 xw_200 xw_5 xw_201 hdV_yX7_ofL ⟨Nat.le_of_ble_eq_true rfl, Nat.le_of_ble_eq_true rfl⟩ rfl (Nat.le_of_ble_eq_true rfl) ⟨Nat.le_refl _, Nat.le_refl _⟩ dX7_tryMend_30 (fun H locs hW => ?_)
      refine lv_istore (lv' := [(4, .int (L x.toNatClampNeg 3)), (0, .ref (xB X + xkey 12 0 0)), (1, .int x), (2, .int h), (3, .int k)]) hx hb dX7_tryMend_33 hl (by decide) rfl (fun ls hl => ?_)
      refine lv_aload_n hx hb dX7_tryMend_35 rfl (lv_at hl 1 rfl) ?_
      refine lv_iload_n hx hb dX7_tryMend_36 rfl (lv_at hl 2 rfl) ?_
      refine lv_eqi (y := nI x.toNatClampNeg) hx9.2 ?_
      refine lv_iload_n hx hb dX7_tryMend_37 rfl (lv_at hl 3 rfl) ?_
      have hW := XR.mfoc2 hW x.toNatClampNeg
      refine x_callV hx hb hml hown hts hK hW hl.1 (c_X7_mendTo l X G (i := x.toNatClampNeg) (h := h) (hi := (by omega)) (ho0 := rfl)) (xF_mo0).1 (xF_mo0).2.1 (by decide) rfl xw_315 xw_316 xw_317 xw_5 xw_318 hdV_yX7_mendTo ⟨Nat.le_of_ble_eq_true rfl, Nat.le_of_ble_eq_true rfl⟩ rfl (Nat.le_of_ble_eq_true rfl) ⟨Nat.le_refl _, Nat.le_refl _⟩ dX7_tryMend_38 (fun H locs hW => ?_)
      have hW : XR X G 12 (xMa (if k = 0 then f else MkF pf pm f) sg (va_up L x.toNatClampNeg (Mmend h (L x.toNatClampNeg))) O Y (if k = 0 then pb else MkB pf pm (xat sg L O Y) pb) pc pd pe pg ph pp pq pt pu) H locs := hW
      refine lv_iload hx hb dX7_tryMend_41 (lv_at hl 0 rfl) ?_
      obtain rfl : (if k = 0 then f else MkF pf pm f) = f' := by (rw [← ho0]) <;> (simp [Mmd, c_1, c_2])
      obtain rfl : (if k = 0 then pb else MkB pf pm (xat sg L O Y) pb) = pb' := by (rw [← ho1]) <;> (simp [Mmd, c_1, c_2])
      obtain rfl : (va_up L x.toNatClampNeg (Mmend h (L x.toNatClampNeg))) = L' := by (rw [← ho2]) <;> (simp [Mmd, c_1, c_2])
      obtain rfl : L x.toNatClampNeg 3 = res := by (rw [← hres]) <;> (simp [Mmd, c_1, c_2])
      rw [hQ0]
      exact x_iret hx hb hret hlocks rfl hW rfl dX7_tryMend_43
    · skip
      refine lv_bipush (v := (-2)) hx hb dX7_tryMend_19 (by decide) ?_
      obtain rfl : f = f' := by (rw [← ho0]) <;> (simp [Mmd, c_1, c_2])
      obtain rfl : pb = pb' := by (rw [← ho1]) <;> (simp [Mmd, c_1, c_2])
      obtain rfl : L = L' := by (rw [← ho2]) <;> (simp [Mmd, c_1, c_2])
      obtain rfl : (-2) = res := by (rw [← hres]) <;> (simp [Mmd, c_1, c_2])
      rw [hQ0]
      exact x_iret hx hb hret hlocks rfl hW rfl dX7_tryMend_21
  · skip
    refine lv_iconst (v := (-1)) hx hb dX7_tryMend_8 (by decide) ?_
    obtain rfl : f = f' := by (rw [← ho0]) <;> (simp [Mmd, c_1])
    obtain rfl : pb = pb' := by (rw [← ho1]) <;> (simp [Mmd, c_1])
    obtain rfl : L = L' := by (rw [← ho2]) <;> (simp [Mmd, c_1])
    obtain rfl : (-1) = res := by (rw [← hres]) <;> (simp [Mmd, c_1])
    rw [hQ0]
    exact x_iret hx hb hret hlocks rfl hW rfl dX7_tryMend_9
set_option maxHeartbeats 4000000 in
set_option maxRecDepth 100000 in
theorem c_X7_mend (l : Launch) (X : xX) (G : xG) {f sg pb pc pd pe pg ph pp pq pt pu : Nat → Int32} {L O Y : Nat → Nat → Int32} {n pf pm : Nat} {x h : Int32} (hn : sg 7 = nI n) (hn16 : n ≤ 16) (hpf : f 2 = nI pf) (hpf6 : pf < 6) (hpm : f 3 = nI pm) (hpm6 : pm ≤ 6) {f' : Nat → Int32} (ho0 : (Mmd (sg 7) x h f f (MkF pf pm f)) = f') {pb' : Nat → Int32} (ho1 : (Mmd (sg 7) x h pb pb (MkB pf pm (xat sg L O Y) pb)) = pb') {L' : Nat → Nat → Int32} (ho2 : (Mmd (sg 7) x h L L (va_up L x.toNatClampNeg (Mmend h (L x.toNatClampNeg)))) = L') {res : Int32} (hres : (Mmd (sg 7) x h (-1) (-2) (L x.toNatClampNeg 3)) = res) : XC l yX7_mend cX7_mend 3 (some .int) 4 90 0 0 X xsh [.ref (xB X + xkey 12 0 0), .int x, .int h] 603 603 (xval (xB X) (va_up G 12 (xMa f sg L O Y pb pc pd pe pg ph pp pq pt pu))) (xval (xB X) (va_up G 12 (xMa f' sg L' O Y pb' pc pd pe pg ph pp pq pt pu))) (some (.int res)) := by
  refine XC.of RX7 "mend" [(0, .ref (xB X + xkey 12 0 0)), (1, .int x), (2, .int h)] (by decide) rfl rfl (Nat.le_of_ble_eq_true rfl) rfl ?_
  intro p e s m args below meth c ls hx hb hret hml hts hown hlocks hnm hK hW hl
  have hW : XR X G 12 (xMa f sg L O Y pb pc pd pe pg ph pp pq pt pu) s.heap [] := hW
  obtain ⟨Q0, hQ0⟩ : ∃ z, z = MQ below (xQ X xsh 603 (xval (xB X) (va_up G 12 (xMa f' sg L' O Y pb' pc pd pe pg ph pp pq pt pu))) (some (.int res))) args s 0 0 (fun q => xB X ≤ q) := ⟨_, rfl⟩
  rw [← hQ0]
  refine lv_aload_n hx hb dX7_mend_0 rfl (lv_at hl 0 rfl) ?_
  refine lv_iload_n hx hb dX7_mend_1 rfl (lv_at hl 1 rfl) ?_
  refine lv_iload_n hx hb dX7_mend_2 rfl (lv_at hl 2 rfl) ?_
  refine lv_iconst (v := 1) hx hb dX7_mend_3 (by decide) ?_
  refine x_callV hx hb hml hown hts hK hW hl.1 (c_X7_tryMend l X G (n := n) (pf := pf) (pm := pm) (x := x) (h := h) (k := 1) (hn := (by assumption)) (hn16 := (by assumption)) (hpf := (by assumption)) (hpf6 := (by omega)) (hpm := (by assumption)) (hpm6 := (by assumption)) (ho0 := rfl) (ho1 := rfl) (ho2 := rfl) (hres := rfl)) (xF_mo0).1 (xF_mo0).2.1 (by decide) rfl xw_307 xw_308 xw_309 xw_5 xw_310 hdV_yX7_tryMend ⟨Nat.le_of_ble_eq_true rfl, Nat.le_of_ble_eq_true rfl⟩ rfl (Nat.le_of_ble_eq_true rfl) ⟨Nat.le_refl _, Nat.le_refl _⟩ dX7_mend_4 (fun H locs hW => ?_)
  have hW : XR X G 12 (xMa (Mmd (sg 7) x h f f (if 1 = 0 then f else MkF pf pm f)) sg (Mmd (sg 7) x h L L (va_up L x.toNatClampNeg (Mmend h (L x.toNatClampNeg)))) O Y (Mmd (sg 7) x h pb pb (if 1 = 0 then pb else MkB pf pm (xat sg L O Y) pb)) pc pd pe pg ph pp pq pt pu) H locs := hW
  obtain rfl : (Mmd (sg 7) x h f f (if 1 = 0 then f else MkF pf pm f)) = f' := by (rw [← ho0]) <;> (rfl)
  obtain rfl : (Mmd (sg 7) x h pb pb (if 1 = 0 then pb else MkB pf pm (xat sg L O Y) pb)) = pb' := by (rw [← ho1]) <;> (rfl)
  obtain rfl : (Mmd (sg 7) x h L L (va_up L x.toNatClampNeg (Mmend h (L x.toNatClampNeg)))) = L' := by (rw [← ho2]) <;> (rfl)
  obtain rfl : Mmd (sg 7) x h (-1) (-2) (L x.toNatClampNeg 3) = res := by (rw [← hres]) <;> (rfl)
  rw [hQ0]
  exact x_iret hx hb hret hlocks rfl hW rfl dX7_mend_7
set_option maxHeartbeats 4000000 in
set_option maxRecDepth 100000 in
theorem c_X7_tryCough (l : Launch) (X : xX) (G : xG) {f sg pb pc pd pe pg ph pp pq pt pu : Nat → Int32} {L O Y : Nat → Nat → Int32} {n pf pm : Nat} {x k : Int32} (hn : sg 7 = nI n) (hn16 : n ≤ 16) (hpf : f 2 = nI pf) (hpf6 : pf < 6) (hpm : f 3 = nI pm) (hpm6 : pm ≤ 6) {f' : Nat → Int32} (ho0 : (Mcg (sg 7) x L f f (if k = 0 then f else MkF pf pm f)) = f') {pb' : Nat → Int32} (ho1 : (Mcg (sg 7) x L pb pb (if k = 0 then pb else MkB pf pm (xat sg L O Y) pb)) = pb') {L' : Nat → Nat → Int32} (ho2 : (Mcg (sg 7) x L L L ((Mspread n sg x.toNatClampNeg 0 (Mcl1 n L)).1)) = L') {res : Int32} (hres : (Mcg (sg 7) x L (-1) (-5) ((Mspread n sg x.toNatClampNeg 0 (Mcl1 n L)).2)) = res) : XC l yX7_tryCough cX7_tryCough 4 (some .int) 3 68 0 0 X xsh [.ref (xB X + xkey 12 0 0), .int x, .int k] 603 603 (xval (xB X) (va_up G 12 (xMa f sg L O Y pb pc pd pe pg ph pp pq pt pu))) (xval (xB X) (va_up G 12 (xMa f' sg L' O Y pb' pc pd pe pg ph pp pq pt pu))) (some (.int res)) := by
  refine XC.of RX7 "tryCough" [(0, .ref (xB X + xkey 12 0 0)), (1, .int x), (2, .int k)] (by decide) rfl rfl (Nat.le_of_ble_eq_true rfl) rfl ?_
  intro p e s m args below meth c ls hx hb hret hml hts hown hlocks hnm hK hW hl
  have hW : XR X G 12 (xMa f sg L O Y pb pc pd pe pg ph pp pq pt pu) s.heap [] := hW
  obtain ⟨Q0, hQ0⟩ : ∃ z, z = MQ below (xQ X xsh 603 (xval (xB X) (va_up G 12 (xMa f' sg L' O Y pb' pc pd pe pg ph pp pq pt pu))) (some (.int res))) args s 0 0 (fun q => xB X ≤ q) := ⟨_, rfl⟩
  rw [← hQ0]
  refine lv_aload_n hx hb dX7_tryCough_0 rfl (lv_at hl 0 rfl) ?_
  refine lv_iload_n hx hb dX7_tryCough_1 rfl (lv_at hl 1 rfl) ?_
  refine x_callV hx hb hml hown hts hK hW hl.1 (c_X7_isLamp l X G (x := x)  (hres := rfl)) (xF_mo0).1 (xF_mo0).2.1 (by decide) rfl xw_311 xw_312 xw_313 xw_5 xw_314 hdV_yX7_isLamp ⟨Nat.le_of_ble_eq_true rfl, Nat.le_of_ble_eq_true rfl⟩ rfl (Nat.le_of_ble_eq_true rfl) ⟨Nat.le_refl _, Nat.le_refl _⟩ dX7_tryCough_2 (fun H locs hW => ?_)
  refine lv_if_ne (tgt := 10) hx hb dX7_tryCough_5 (by decide) (fun c_1 => ?_) (fun c_1 => ?_)
  · skip
    have hx9 := xin hn (by omega) c_1
    have hx8 : x.toNatClampNeg < n := hx9.1
    refine lv_aload_n hx hb dX7_tryCough_10 rfl (lv_at hl 0 rfl) ?_
    refine lv_iload_n hx hb dX7_tryCough_11 rfl (lv_at hl 1 rfl) ?_
    refine lv_eqi (y := nI x.toNatClampNeg) hx9.2 ?_
    refine lv_iconst (v := 3) hx hb dX7_tryCough_12 (by decide) ?_
    refine x_callV hx hb hml hown hts hK hW hl.1 (c_X7_ofL l X G (i := x.toNatClampNeg) (w := 3) (hi := (by omega)) (hw := (by decide)) (hres := rfl)) (xF_mo0).1 (xF_mo0).2.1 (by decide) rfl xw_198 xw_199 xw_200 xw_5 xw_201 hdV_yX7_ofL ⟨Nat.le_of_ble_eq_true rfl, Nat.le_of_ble_eq_true rfl⟩ rfl (Nat.le_of_ble_eq_true rfl) ⟨Nat.le_refl _, Nat.le_refl _⟩ dX7_tryCough_13 (fun H locs hW => ?_)
    refine lv_iconst (v := 2) hx hb dX7_tryCough_16 (by decide) ?_
    refine lv_icmp_ne (tgt := 23) hx hb dX7_tryCough_17 (by decide) (fun c_2 => ?_) (fun c_2 => ?_)
    · skip
      refine lv_aload_n hx hb dX7_tryCough_23 rfl (lv_at hl 0 rfl) ?_
      refine lv_iload_n hx hb dX7_tryCough_24 rfl (lv_at hl 2 rfl) ?_
      refine x_callV hx hb hml hown hts hK hW hl.1 (c_X7_keepIf l X G (pf := pf) (pm := pm) (k := k) (hpf := (by assumption)) (hpf6 := (by omega)) (hpm := (by assumption)) (hpm6 := (by assumption)) (ho0 := rfl) (ho1 := rfl)) (xF_mo0).1 (xF_mo0).2.1 (by decide) rfl xw_242 xw_243 xw_244 xw_5 xw_245 hdV_yX7_keepIf ⟨Nat.le_of_ble_eq_true rfl, Nat.le_of_ble_eq_true rfl⟩ rfl (Nat.le_of_ble_eq_true rfl) ⟨Nat.le_refl _, Nat.le_refl _⟩ dX7_tryCough_25 (fun H locs hW => ?_)
      have hW : XR X G 12 (xMa (if k = 0 then f else MkF pf pm f) sg L O Y (if k = 0 then pb else MkB pf pm (xat sg L O Y) pb) pc pd pe pg ph pp pq pt pu) H locs := hW
      refine lv_iconst (v := nI 0) hx hb dX7_tryCough_28 (by decide) ?_
      refine lv_istore_n (lv' := [(3, .int (nI 0)), (0, .ref (xB X + xkey 12 0 0)), (1, .int x), (2, .int k)]) hx hb dX7_tryCough_29 rfl hl (by decide) rfl (fun ls hl => ?_)
      have loop_30 : ∀ (k_30 i : Nat) (La : Nat → Nat → Int32), i + k_30 = n → xloop (fun i (M : Nat → Nat → Int32) => va_up M i (va_up (M i) 11 0)) k_30 i La = xloop (fun i (M : Nat → Nat → Int32) => va_up M i (va_up (M i) 11 0)) n 0 L → ∀ (H : Heap) (locs : List Loc) (ls : Array Slot), XR X G 12 (xMa (if k = 0 then f else MkF pf pm f) sg La O Y (if k = 0 then pb else MkB pf pm (xat sg L O Y) pb) pc pd pe pg ph pp pq pt pu) H locs → lv_has ls 4 [(0, .ref (xB X + xkey 12 0 0)), (1, .int x), (2, .int k), (3, .int (nI i))] → W p l e { frames := 3, cells := 0, slots := 0, locals := 68 } s m args below meth c H locs 0 0 Q0 (F0 m 30 ls []) := by
        intro k_30
        induction k_30 with
        | zero =>
          intro i La hik_30  hsp_30 H locs ls hW hl
          refine lv_iload_n hx hb dX7_tryCough_30 rfl (lv_at hl 3 rfl) ?_
          refine lv_aload_n hx hb dX7_tryCough_31 rfl (lv_at hl 0 rfl) ?_
          refine r_getr (C := RX7) (T := TX7) hx hb hts hown hK hW (xF_mo0).1 (xF_mo0).2.1 inlX7 rfl (by decide) 0 (by decide) (show xro (xkey 12 0 0) 0 = some (xkey 12 1 0) from by decide +kernel) xw_79 rfl dX7_tryCough_32 ?_
          refine lv_bipush (v := 7) hx hb dX7_tryCough_35 (by decide) ?_
          refine r_iald hx hb hK hW (N := 440) (xF_mo1) 7 (by decide) (by decide) (by decide) (xr_model 1 (by decide) (by decide) 7) (x := nI n) ((xat_s (sg := sg) (L := La) (O := O) (Y := Y) (k := 7) (by omega)).trans hn) dX7_tryCough_37 ?_
          refine lv_icmp_ge (tgt := 55) hx hb dX7_tryCough_38 (by decide) (fun c_3 => ?_) (fun c_3 => absurd (xge_refl (by omega)) c_3)
          refine lv_aload_n hx hb dX7_tryCough_55 rfl (lv_at hl 0 rfl) ?_
          refine lv_iload_n hx hb dX7_tryCough_56 rfl (lv_at hl 1 rfl) ?_
          refine lv_eqi (y := nI x.toNatClampNeg) hx9.2 ?_
          refine lv_iconst (v := 0) hx hb dX7_tryCough_57 (by decide) ?_
          refine x_callV hx hb hml hown hts hK hW hl.1 (c_X7_coughs l X G (n := n) (a := x.toNatClampNeg) (k := 0) (hn := (by assumption)) (hn16 := (by assumption)) (ha := (by omega)) (ho0 := rfl) (hres := rfl)) (xF_mo0).1 (xF_mo0).2.1 (by decide) rfl xw_373 xw_374 xw_375 xw_5 xw_376 hdV_yX7_coughs ⟨Nat.le_of_ble_eq_true rfl, Nat.le_of_ble_eq_true rfl⟩ rfl (Nat.le_of_ble_eq_true rfl) ⟨Nat.le_refl _, Nat.le_refl _⟩ dX7_tryCough_58 (fun H locs hW => ?_)
          have hW : XR X G 12 (xMa (if k = 0 then f else MkF pf pm f) sg ((Mspread n sg x.toNatClampNeg 0 La).1) O Y (if k = 0 then pb else MkB pf pm (xat sg L O Y) pb) pc pd pe pg ph pp pq pt pu) H locs := hW
          obtain rfl : (if k = 0 then f else MkF pf pm f) = f' := by (rw [← ho0]) <;> (first | (simp [Mcg, c_1, c_2, c_3]; done) | (have e1 : La = Mcl1 n L := hsp_30; rw [e1]; simp [Mcg, c_1, c_2]))
          obtain rfl : (if k = 0 then pb else MkB pf pm (xat sg L O Y) pb) = pb' := by (rw [← ho1]) <;> (first | (simp [Mcg, c_1, c_2, c_3]; done) | (have e1 : La = Mcl1 n L := hsp_30; rw [e1]; simp [Mcg, c_1, c_2]))
          obtain rfl : ((Mspread n sg x.toNatClampNeg 0 La).1) = L' := by (rw [← ho2]) <;> (first | (simp [Mcg, c_1, c_2, c_3]; done) | (have e1 : La = Mcl1 n L := hsp_30; rw [e1]; simp [Mcg, c_1, c_2]))
          obtain rfl : (Mspread n sg x.toNatClampNeg 0 La).2 = res := by (rw [← hres]) <;> (first | (simp [Mcg, c_1, c_2, c_3]; done) | (have e1 : La = Mcl1 n L := hsp_30; rw [e1]; simp [Mcg, c_1, c_2]))
          rw [hQ0]
          exact x_iret hx hb hret hlocks rfl hW rfl dX7_tryCough_61
        | succ k_30 ih_30 =>
          intro i La hik_30  hsp_30 H locs ls hW hl
          refine lv_iload_n hx hb dX7_tryCough_30 rfl (lv_at hl 3 rfl) ?_
          refine lv_aload_n hx hb dX7_tryCough_31 rfl (lv_at hl 0 rfl) ?_
          refine r_getr (C := RX7) (T := TX7) hx hb hts hown hK hW (xF_mo0).1 (xF_mo0).2.1 inlX7 rfl (by decide) 0 (by decide) (show xro (xkey 12 0 0) 0 = some (xkey 12 1 0) from by decide +kernel) xw_79 rfl dX7_tryCough_32 ?_
          refine lv_bipush (v := 7) hx hb dX7_tryCough_35 (by decide) ?_
          refine r_iald hx hb hK hW (N := 440) (xF_mo1) 7 (by decide) (by decide) (by decide) (xr_model 1 (by decide) (by decide) 7) (x := nI n) ((xat_s (sg := sg) (L := La) (O := O) (Y := Y) (k := 7) (by omega)).trans hn) dX7_tryCough_37 ?_
          refine lv_icmp_ge (tgt := 55) hx hb dX7_tryCough_38 (by decide) (fun c_4 => absurd c_4 (nI_ge (by omega) (by omega))) (fun c_4 => ?_)
          refine lv_aload_n hx hb dX7_tryCough_41 rfl (lv_at hl 0 rfl) ?_
          refine lv_iload_n hx hb dX7_tryCough_42 rfl (lv_at hl 3 rfl) ?_
          refine lv_bipush (v := 11) hx hb dX7_tryCough_43 (by decide) ?_
          refine lv_iconst (v := 0) hx hb dX7_tryCough_45 (by decide) ?_
          have hW := XR.mfoc2 hW i
          refine x_callV hx hb hml hown hts hK hW hl.1 (c_X7_layL l X G (i := i) (w := 11) (v := 0) (hi := (by omega)) (hw := (by decide)) ) (xF_mo0).1 (xF_mo0).2.1 (by decide) rfl xw_202 xw_203 xw_204 xw_5 xw_205 hdV_yX7_layL ⟨Nat.le_of_ble_eq_true rfl, Nat.le_of_ble_eq_true rfl⟩ rfl (Nat.le_of_ble_eq_true rfl) ⟨Nat.le_refl _, Nat.le_refl _⟩ dX7_tryCough_46 (fun H locs hW => ?_)
          have hW : XR X G 12 (xMa (if k = 0 then f else MkF pf pm f) sg (va_up La i (va_up (La i) 11 0)) O Y (if k = 0 then pb else MkB pf pm (xat sg L O Y) pb) pc pd pe pg ph pp pq pt pu) H locs := hW
          refine lv_iinc (v := nI (i + 1)) (lv' := [(3, .int (nI (i + 1))), (0, .ref (xB X + xkey 12 0 0)), (1, .int x), (2, .int k)]) hx hb dX7_tryCough_49 hl (k := 3) rfl (nI_1 i) (by decide) rfl (fun ls hl => ?_)
          refine lv_goto (tgt := 30) hx hb dX7_tryCough_52 (by decide) ?_
          refine ih_30 (i + 1) (va_up La i (va_up (La i) 11 0)) (by omega)  ?_ H locs ls hW (lv_sub hl [1, 2, 3, 0] rfl)
          rw [← hsp_30]; rfl
      exact loop_30 n 0 L (by omega)  rfl _ _ _ hW (lv_sub hl [1, 2, 3, 0] rfl)
    · skip
      refine lv_bipush (v := (-5)) hx hb dX7_tryCough_20 (by decide) ?_
      obtain rfl : f = f' := by (rw [← ho0]) <;> (first | (simp [Mcg, c_1, c_2]; done) | (have e1 : La = Mcl1 n L := hsp_30; rw [e1]; simp [Mcg, c_1, c_2]))
      obtain rfl : pb = pb' := by (rw [← ho1]) <;> (first | (simp [Mcg, c_1, c_2]; done) | (have e1 : La = Mcl1 n L := hsp_30; rw [e1]; simp [Mcg, c_1, c_2]))
      obtain rfl : L = L' := by (rw [← ho2]) <;> (first | (simp [Mcg, c_1, c_2]; done) | (have e1 : La = Mcl1 n L := hsp_30; rw [e1]; simp [Mcg, c_1, c_2]))
      obtain rfl : (-5) = res := by (rw [← hres]) <;> (first | (simp [Mcg, c_1, c_2]; done) | (have e1 : La = Mcl1 n L := hsp_30; rw [e1]; simp [Mcg, c_1, c_2]))
      rw [hQ0]
      exact x_iret hx hb hret hlocks rfl hW rfl dX7_tryCough_22
  · skip
    refine lv_iconst (v := (-1)) hx hb dX7_tryCough_8 (by decide) ?_
    obtain rfl : f = f' := by (rw [← ho0]) <;> (first | (simp [Mcg, c_1]; done) | (have e1 : La = Mcl1 n L := hsp_30; rw [e1]; simp [Mcg, c_1, c_2]))
    obtain rfl : pb = pb' := by (rw [← ho1]) <;> (first | (simp [Mcg, c_1]; done) | (have e1 : La = Mcl1 n L := hsp_30; rw [e1]; simp [Mcg, c_1, c_2]))
    obtain rfl : L = L' := by (rw [← ho2]) <;> (first | (simp [Mcg, c_1]; done) | (have e1 : La = Mcl1 n L := hsp_30; rw [e1]; simp [Mcg, c_1, c_2]))
    obtain rfl : (-1) = res := by (rw [← hres]) <;> (first | (simp [Mcg, c_1]; done) | (have e1 : La = Mcl1 n L := hsp_30; rw [e1]; simp [Mcg, c_1, c_2]))
    rw [hQ0]
    exact x_iret hx hb hret hlocks rfl hW rfl dX7_tryCough_9
set_option maxHeartbeats 4000000 in
set_option maxRecDepth 100000 in
theorem c_X7_cough (l : Launch) (X : xX) (G : xG) {f sg pb pc pd pe pg ph pp pq pt pu : Nat → Int32} {L O Y : Nat → Nat → Int32} {n pf pm : Nat} {x : Int32} (hn : sg 7 = nI n) (hn16 : n ≤ 16) (hpf : f 2 = nI pf) (hpf6 : pf < 6) (hpm : f 3 = nI pm) (hpm6 : pm ≤ 6) {f' : Nat → Int32} (ho0 : (Mcg (sg 7) x L f f (MkF pf pm f)) = f') {pb' : Nat → Int32} (ho1 : (Mcg (sg 7) x L pb pb (MkB pf pm (xat sg L O Y) pb)) = pb') {L' : Nat → Nat → Int32} (ho2 : (Mcg (sg 7) x L L L ((Mspread n sg x.toNatClampNeg 0 (Mcl1 n L)).1)) = L') {res : Int32} (hres : (Mcg (sg 7) x L (-1) (-5) ((Mspread n sg x.toNatClampNeg 0 (Mcl1 n L)).2)) = res) : XC l yX7_cough cX7_cough 2 (some .int) 4 91 0 0 X xsh [.ref (xB X + xkey 12 0 0), .int x] 603 603 (xval (xB X) (va_up G 12 (xMa f sg L O Y pb pc pd pe pg ph pp pq pt pu))) (xval (xB X) (va_up G 12 (xMa f' sg L' O Y pb' pc pd pe pg ph pp pq pt pu))) (some (.int res)) := by
  refine XC.of RX7 "cough" [(0, .ref (xB X + xkey 12 0 0)), (1, .int x)] (by decide) rfl rfl (Nat.le_of_ble_eq_true rfl) rfl ?_
  intro p e s m args below meth c ls hx hb hret hml hts hown hlocks hnm hK hW hl
  have hW : XR X G 12 (xMa f sg L O Y pb pc pd pe pg ph pp pq pt pu) s.heap [] := hW
  obtain ⟨Q0, hQ0⟩ : ∃ z, z = MQ below (xQ X xsh 603 (xval (xB X) (va_up G 12 (xMa f' sg L' O Y pb' pc pd pe pg ph pp pq pt pu))) (some (.int res))) args s 0 0 (fun q => xB X ≤ q) := ⟨_, rfl⟩
  rw [← hQ0]
  refine lv_aload_n hx hb dX7_cough_0 rfl (lv_at hl 0 rfl) ?_
  refine lv_iload_n hx hb dX7_cough_1 rfl (lv_at hl 1 rfl) ?_
  refine lv_iconst (v := 1) hx hb dX7_cough_2 (by decide) ?_
  refine x_callV hx hb hml hown hts hK hW hl.1 (c_X7_tryCough l X G (n := n) (pf := pf) (pm := pm) (x := x) (k := 1) (hn := (by assumption)) (hn16 := (by assumption)) (hpf := (by assumption)) (hpf6 := (by omega)) (hpm := (by assumption)) (hpm6 := (by assumption)) (ho0 := rfl) (ho1 := rfl) (ho2 := rfl) (hres := rfl)) (xF_mo0).1 (xF_mo0).2.1 (by decide) rfl xw_369 xw_370 xw_371 xw_5 xw_372 hdV_yX7_tryCough ⟨Nat.le_of_ble_eq_true rfl, Nat.le_of_ble_eq_true rfl⟩ rfl (Nat.le_of_ble_eq_true rfl) ⟨Nat.le_refl _, Nat.le_refl _⟩ dX7_cough_3 (fun H locs hW => ?_)
  have hW : XR X G 12 (xMa (Mcg (sg 7) x L f f (if 1 = 0 then f else MkF pf pm f)) sg (Mcg (sg 7) x L L L ((Mspread n sg x.toNatClampNeg 0 (Mcl1 n L)).1)) O Y (Mcg (sg 7) x L pb pb (if 1 = 0 then pb else MkB pf pm (xat sg L O Y) pb)) pc pd pe pg ph pp pq pt pu) H locs := hW
  obtain rfl : (Mcg (sg 7) x L f f (if 1 = 0 then f else MkF pf pm f)) = f' := by (rw [← ho0]) <;> (rfl)
  obtain rfl : (Mcg (sg 7) x L pb pb (if 1 = 0 then pb else MkB pf pm (xat sg L O Y) pb)) = pb' := by (rw [← ho1]) <;> (rfl)
  obtain rfl : (Mcg (sg 7) x L L L ((Mspread n sg x.toNatClampNeg 0 (Mcl1 n L)).1)) = L' := by (rw [← ho2]) <;> (rfl)
  obtain rfl : Mcg (sg 7) x L (-1) (-5) ((Mspread n sg x.toNatClampNeg 0 (Mcl1 n L)).2) = res := by (rw [← hres]) <;> (rfl)
  rw [hQ0]
  exact x_iret hx hb hret hlocks rfl hW rfl dX7_cough_6
set_option maxHeartbeats 4000000 in
set_option maxRecDepth 100000 in
theorem c_X7_tryTicks (l : Launch) (X : xX) (G : xG) {f sg pb pc pd pe pg ph pp pq pt pu : Nat → Int32} {L O Y : Nat → Nat → Int32} {n nh nw pf pm : Nat} {x k : Int32} (hn : sg 7 = nI n) (hn16 : n ≤ 16) (hh : sg 8 = nI nh) (hh8 : nh ≤ 8) (hw : sg 9 = nI nw) (hw8 : nw ≤ 8) (hY : ∀ j, j < 8 → MW (Y j)) (hpf : f 2 = nI pf) (hpf6 : pf < 6) (hpm : f 3 = nI pm) (hpm6 : pm ≤ 6) {f' : Nat → Int32} (ho0 : (Mtk x f (if k = 0 then f else MkF pf pm f)) = f') {pb' : Nat → Int32} (ho1 : (Mtk x pb (if k = 0 then pb else MkB pf pm (xat sg L O Y) pb)) = pb') {sg' : Nat → Int32} (ho2 : (Mtk x sg ((Mticks n nh nw x.toNatClampNeg (sg, L, O, Y, pg, ph)).1)) = sg') {L' : Nat → Nat → Int32} (ho3 : (Mtk x L ((Mticks n nh nw x.toNatClampNeg (sg, L, O, Y, pg, ph)).2.1)) = L') {O' : Nat → Nat → Int32} (ho4 : (Mtk x O ((Mticks n nh nw x.toNatClampNeg (sg, L, O, Y, pg, ph)).2.2.1)) = O') {Y' : Nat → Nat → Int32} (ho5 : (Mtk x Y ((Mticks n nh nw x.toNatClampNeg (sg, L, O, Y, pg, ph)).2.2.2.1)) = Y') {pg' : Nat → Int32} (ho6 : (Mtk x pg ((Mticks n nh nw x.toNatClampNeg (sg, L, O, Y, pg, ph)).2.2.2.2.1)) = pg') {ph' : Nat → Int32} (ho7 : (Mtk x ph ((Mticks n nh nw x.toNatClampNeg (sg, L, O, Y, pg, ph)).2.2.2.2.2)) = ph') {res : Int32} (hres : (Mtk x (-2) ((Mticks n nh nw x.toNatClampNeg (sg, L, O, Y, pg, ph)).1 6)) = res) : XC l yX7_tryTicks cX7_tryTicks 4 (some .int) 5 112 0 0 X xsh [.ref (xB X + xkey 12 0 0), .int x, .int k] 603 603 (xval (xB X) (va_up G 12 (xMa f sg L O Y pb pc pd pe pg ph pp pq pt pu))) (xval (xB X) (va_up G 12 (xMa f' sg' L' O' Y' pb' pc pd pe pg' ph' pp pq pt pu))) (some (.int res)) := by
  refine XC.of RX7 "tryTicks" [(0, .ref (xB X + xkey 12 0 0)), (1, .int x), (2, .int k)] (by decide) rfl rfl (Nat.le_of_ble_eq_true rfl) rfl ?_
  intro p e s m args below meth c ls hx hb hret hml hts hown hlocks hnm hK hW hl
  have hW : XR X G 12 (xMa f sg L O Y pb pc pd pe pg ph pp pq pt pu) s.heap [] := hW
  obtain ⟨Q0, hQ0⟩ : ∃ z, z = MQ below (xQ X xsh 603 (xval (xB X) (va_up G 12 (xMa f' sg' L' O' Y' pb' pc pd pe pg' ph' pp pq pt pu))) (some (.int res))) args s 0 0 (fun q => xB X ≤ q) := ⟨_, rfl⟩
  rw [← hQ0]
  refine lv_iload_n hx hb dX7_tryTicks_0 rfl (lv_at hl 1 rfl) ?_
  refine lv_iconst (v := 1) hx hb dX7_tryTicks_1 (by decide) ?_
  refine lv_sipush (v := 200) hx hb dX7_tryTicks_2 (by decide) ?_
  refine x_callS hx hb hml hown hts hK hW hl.1 (c_X7_in l X _ (v := x) (lo := 1) (hi := 200) (hres := rfl)) xw_159 xw_160 xw_5 xw_161 hdS_yX7_in ⟨Nat.le_of_ble_eq_true rfl, Nat.le_of_ble_eq_true rfl⟩ rfl (Nat.le_of_ble_eq_true rfl) ⟨Nat.le_refl _, Nat.le_refl _⟩ dX7_tryTicks_5 (fun H locs hW => ?_)
  refine lv_if_ne (tgt := 14) hx hb dX7_tryTicks_8 (by decide) (fun c_1 => ?_) (fun c_1 => ?_)
  · skip
    refine lv_aload_n hx hb dX7_tryTicks_14 rfl (lv_at hl 0 rfl) ?_
    refine lv_iload_n hx hb dX7_tryTicks_15 rfl (lv_at hl 2 rfl) ?_
    refine x_callV hx hb hml hown hts hK hW hl.1 (c_X7_keepIf l X G (pf := pf) (pm := pm) (k := k) (hpf := (by assumption)) (hpf6 := (by omega)) (hpm := (by assumption)) (hpm6 := (by assumption)) (ho0 := rfl) (ho1 := rfl)) (xF_mo0).1 (xF_mo0).2.1 (by decide) rfl xw_242 xw_243 xw_244 xw_5 xw_245 hdV_yX7_keepIf ⟨Nat.le_of_ble_eq_true rfl, Nat.le_of_ble_eq_true rfl⟩ rfl (Nat.le_of_ble_eq_true rfl) ⟨Nat.le_refl _, Nat.le_refl _⟩ dX7_tryTicks_16 (fun H locs hW => ?_)
    have hW : XR X G 12 (xMa (if k = 0 then f else MkF pf pm f) sg L O Y (if k = 0 then pb else MkB pf pm (xat sg L O Y) pb) pc pd pe pg ph pp pq pt pu) H locs := hW
    have hx9 := xfin1 200 rfl (by decide) c_1
    refine lv_iconst (v := nI 0) hx hb dX7_tryTicks_19 (by decide) ?_
    refine lv_istore_n (lv' := [(3, .int (nI 0)), (0, .ref (xB X + xkey 12 0 0)), (1, .int x), (2, .int k)]) hx hb dX7_tryTicks_20 rfl hl (by decide) rfl (fun ls hl => ?_)
    have loop_21 : ∀ (k_21 i : Nat) (sa : Nat → Int32) (La : Nat → Nat → Int32) (Oa : Nat → Nat → Int32) (Ya : Nat → Nat → Int32) (ga : Nat → Int32) (ha : Nat → Int32), i + k_21 = x.toNatClampNeg → sa 7 = nI n → sa 8 = nI nh → sa 9 = nI nw → (∀ j, j < 8 → MW (Ya j)) → xloop (fun _ q => Mpass n nh nw q) k_21 i (sa, La, Oa, Ya, ga, ha) = xloop (fun _ q => Mpass n nh nw q) x.toNatClampNeg 0 (sg, L, O, Y, pg, ph) → ∀ (H : Heap) (locs : List Loc) (ls : Array Slot), XR X G 12 (xMa (if k = 0 then f else MkF pf pm f) sa La Oa Ya (if k = 0 then pb else MkB pf pm (xat sg L O Y) pb) pc pd pe ga ha pp pq pt pu) H locs → lv_has ls 4 [(0, .ref (xB X + xkey 12 0 0)), (1, .int x), (2, .int k), (3, .int (nI i))] → W p l e { frames := 5, cells := 0, slots := 0, locals := 112 } s m args below meth c H locs 0 0 Q0 (F0 m 21 ls []) := by
      intro k_21
      induction k_21 with
      | zero =>
        intro i sa La Oa Ya ga ha hik_21 hv0_21 hv1_21 hv2_21 hv3_21 hsp_21 H locs ls hW hl
        refine lv_iload_n hx hb dX7_tryTicks_21 rfl (lv_at hl 3 rfl) ?_
        refine lv_iload_n hx hb dX7_tryTicks_22 rfl (lv_at hl 1 rfl) ?_
        refine lv_eqi (y := nI x.toNatClampNeg) hx9.2 ?_
        refine lv_icmp_ge (tgt := 36) hx hb dX7_tryTicks_23 (by decide) (fun c_2 => ?_) (fun c_2 => absurd (xge_refl (by omega)) c_2)
        refine lv_aload_n hx hb dX7_tryTicks_36 rfl (lv_at hl 0 rfl) ?_
        refine r_getr (C := RX7) (T := TX7) hx hb hts hown hK hW (xF_mo0).1 (xF_mo0).2.1 inlX7 rfl (by decide) 0 (by decide) (show xro (xkey 12 0 0) 0 = some (xkey 12 1 0) from by decide +kernel) xw_79 rfl dX7_tryTicks_37 ?_
        refine lv_bipush (v := 6) hx hb dX7_tryTicks_40 (by decide) ?_
        refine r_iald hx hb hK hW (N := 440) (xF_mo1) 6 (by decide) (by decide) (by decide) (xr_model 1 (by decide) (by decide) 6) (x := sa 6) (xat_s (sg := sa) (L := La) (O := Oa) (Y := Ya) (k := 6) (by omega)) dX7_tryTicks_42 ?_
        obtain rfl : (if k = 0 then f else MkF pf pm f) = f' := by (rw [← ho0]) <;> (first | (simp [Mtk, c_1, c_2]; done) | (have e9 : (sa, La, Oa, Ya, ga, ha) = Mticks n nh nw x.toNatClampNeg (sg, L, O, Y, pg, ph) := hsp_21; simp [Mtk, c_1, ← e9]))
        obtain rfl : (if k = 0 then pb else MkB pf pm (xat sg L O Y) pb) = pb' := by (rw [← ho1]) <;> (first | (simp [Mtk, c_1, c_2]; done) | (have e9 : (sa, La, Oa, Ya, ga, ha) = Mticks n nh nw x.toNatClampNeg (sg, L, O, Y, pg, ph) := hsp_21; simp [Mtk, c_1, ← e9]))
        obtain rfl : sa = sg' := by (rw [← ho2]) <;> (first | (simp [Mtk, c_1, c_2]; done) | (have e9 : (sa, La, Oa, Ya, ga, ha) = Mticks n nh nw x.toNatClampNeg (sg, L, O, Y, pg, ph) := hsp_21; simp [Mtk, c_1, ← e9]))
        obtain rfl : La = L' := by (rw [← ho3]) <;> (first | (simp [Mtk, c_1, c_2]; done) | (have e9 : (sa, La, Oa, Ya, ga, ha) = Mticks n nh nw x.toNatClampNeg (sg, L, O, Y, pg, ph) := hsp_21; simp [Mtk, c_1, ← e9]))
        obtain rfl : Oa = O' := by (rw [← ho4]) <;> (first | (simp [Mtk, c_1, c_2]; done) | (have e9 : (sa, La, Oa, Ya, ga, ha) = Mticks n nh nw x.toNatClampNeg (sg, L, O, Y, pg, ph) := hsp_21; simp [Mtk, c_1, ← e9]))
        obtain rfl : Ya = Y' := by (rw [← ho5]) <;> (first | (simp [Mtk, c_1, c_2]; done) | (have e9 : (sa, La, Oa, Ya, ga, ha) = Mticks n nh nw x.toNatClampNeg (sg, L, O, Y, pg, ph) := hsp_21; simp [Mtk, c_1, ← e9]))
        obtain rfl : ga = pg' := by (rw [← ho6]) <;> (first | (simp [Mtk, c_1, c_2]; done) | (have e9 : (sa, La, Oa, Ya, ga, ha) = Mticks n nh nw x.toNatClampNeg (sg, L, O, Y, pg, ph) := hsp_21; simp [Mtk, c_1, ← e9]))
        obtain rfl : ha = ph' := by (rw [← ho7]) <;> (first | (simp [Mtk, c_1, c_2]; done) | (have e9 : (sa, La, Oa, Ya, ga, ha) = Mticks n nh nw x.toNatClampNeg (sg, L, O, Y, pg, ph) := hsp_21; simp [Mtk, c_1, ← e9]))
        obtain rfl : sa 6 = res := by (rw [← hres]) <;> (first | (simp [Mtk, c_1, c_2]; done) | (have e9 : (sa, La, Oa, Ya, ga, ha) = Mticks n nh nw x.toNatClampNeg (sg, L, O, Y, pg, ph) := hsp_21; simp [Mtk, c_1, ← e9]))
        rw [hQ0]
        exact x_iret hx hb hret hlocks rfl hW rfl dX7_tryTicks_43
      | succ k_21 ih_21 =>
        intro i sa La Oa Ya ga ha hik_21 hv0_21 hv1_21 hv2_21 hv3_21 hsp_21 H locs ls hW hl
        refine lv_iload_n hx hb dX7_tryTicks_21 rfl (lv_at hl 3 rfl) ?_
        refine lv_iload_n hx hb dX7_tryTicks_22 rfl (lv_at hl 1 rfl) ?_
        refine lv_eqi (y := nI x.toNatClampNeg) hx9.2 ?_
        refine lv_icmp_ge (tgt := 36) hx hb dX7_tryTicks_23 (by decide) (fun c_3 => absurd c_3 (nI_ge (by omega) (by omega))) (fun c_3 => ?_)
        refine lv_aload_n hx hb dX7_tryTicks_26 rfl (lv_at hl 0 rfl) ?_
        refine x_callV hx hb hml hown hts hK hW hl.1 (c_X7_pass l X G (n := n) (nh := nh) (nw := nw) (hn := (by assumption)) (hn16 := (by assumption)) (hh := (by assumption)) (hh8 := (by assumption)) (hw := (by assumption)) (hw8 := (by assumption)) (hY := (by assumption)) (ho0 := rfl) (ho1 := rfl) (ho2 := rfl) (ho3 := rfl) (ho4 := rfl) (ho5 := rfl)) (xF_mo0).1 (xF_mo0).2.1 (by decide) rfl xw_498 xw_499 xw_500 xw_5 xw_501 hdV_yX7_pass ⟨Nat.le_of_ble_eq_true rfl, Nat.le_of_ble_eq_true rfl⟩ rfl (Nat.le_of_ble_eq_true rfl) ⟨Nat.le_refl _, Nat.le_refl _⟩ dX7_tryTicks_27 (fun H locs hW => ?_)
        have hW : XR X G 12 (xMa (if k = 0 then f else MkF pf pm f) ((Mpass n nh nw (sa, La, Oa, Ya, ga, ha)).1) ((Mpass n nh nw (sa, La, Oa, Ya, ga, ha)).2.1) ((Mpass n nh nw (sa, La, Oa, Ya, ga, ha)).2.2.1) ((Mpass n nh nw (sa, La, Oa, Ya, ga, ha)).2.2.2.1) (if k = 0 then pb else MkB pf pm (xat sg L O Y) pb) pc pd pe ((Mpass n nh nw (sa, La, Oa, Ya, ga, ha)).2.2.2.2.1) ((Mpass n nh nw (sa, La, Oa, Ya, ga, ha)).2.2.2.2.2) pp pq pt pu) H locs := hW
        refine lv_iinc (v := nI (i + 1)) (lv' := [(3, .int (nI (i + 1))), (0, .ref (xB X + xkey 12 0 0)), (1, .int x), (2, .int k)]) hx hb dX7_tryTicks_30 hl (k := 3) rfl (nI_1 i) (by decide) rfl (fun ls hl => ?_)
        refine lv_goto (tgt := 21) hx hb dX7_tryTicks_33 (by decide) ?_
        refine ih_21 (i + 1) ((Mpass n nh nw (sa, La, Oa, Ya, ga, ha)).1) ((Mpass n nh nw (sa, La, Oa, Ya, ga, ha)).2.1) ((Mpass n nh nw (sa, La, Oa, Ya, ga, ha)).2.2.1) ((Mpass n nh nw (sa, La, Oa, Ya, ga, ha)).2.2.2.1) ((Mpass n nh nw (sa, La, Oa, Ya, ga, ha)).2.2.2.2.1) ((Mpass n nh nw (sa, La, Oa, Ya, ga, ha)).2.2.2.2.2) (by omega) hv0_21 hv1_21 hv2_21 (MW_pass (q := (sa, La, Oa, Ya, ga, ha)) hv3_21) ?_ H locs ls hW (lv_sub hl [1, 2, 3, 0] rfl)
        rw [← hsp_21]; rfl
    exact loop_21 x.toNatClampNeg 0 sg L O Y pg ph (by omega) hn hh hw hY rfl _ _ _ hW (lv_sub hl [1, 2, 3, 0] rfl)
  · skip
    refine lv_bipush (v := (-2)) hx hb dX7_tryTicks_11 (by decide) ?_
    obtain rfl : f = f' := by (rw [← ho0]) <;> (first | (simp [Mtk, c_1]; done) | (have e9 : (sa, La, Oa, Ya, ga, ha) = Mticks n nh nw x.toNatClampNeg (sg, L, O, Y, pg, ph) := hsp_21; simp [Mtk, c_1, ← e9]))
    obtain rfl : pb = pb' := by (rw [← ho1]) <;> (first | (simp [Mtk, c_1]; done) | (have e9 : (sa, La, Oa, Ya, ga, ha) = Mticks n nh nw x.toNatClampNeg (sg, L, O, Y, pg, ph) := hsp_21; simp [Mtk, c_1, ← e9]))
    obtain rfl : sg = sg' := by (rw [← ho2]) <;> (first | (simp [Mtk, c_1]; done) | (have e9 : (sa, La, Oa, Ya, ga, ha) = Mticks n nh nw x.toNatClampNeg (sg, L, O, Y, pg, ph) := hsp_21; simp [Mtk, c_1, ← e9]))
    obtain rfl : L = L' := by (rw [← ho3]) <;> (first | (simp [Mtk, c_1]; done) | (have e9 : (sa, La, Oa, Ya, ga, ha) = Mticks n nh nw x.toNatClampNeg (sg, L, O, Y, pg, ph) := hsp_21; simp [Mtk, c_1, ← e9]))
    obtain rfl : O = O' := by (rw [← ho4]) <;> (first | (simp [Mtk, c_1]; done) | (have e9 : (sa, La, Oa, Ya, ga, ha) = Mticks n nh nw x.toNatClampNeg (sg, L, O, Y, pg, ph) := hsp_21; simp [Mtk, c_1, ← e9]))
    obtain rfl : Y = Y' := by (rw [← ho5]) <;> (first | (simp [Mtk, c_1]; done) | (have e9 : (sa, La, Oa, Ya, ga, ha) = Mticks n nh nw x.toNatClampNeg (sg, L, O, Y, pg, ph) := hsp_21; simp [Mtk, c_1, ← e9]))
    obtain rfl : pg = pg' := by (rw [← ho6]) <;> (first | (simp [Mtk, c_1]; done) | (have e9 : (sa, La, Oa, Ya, ga, ha) = Mticks n nh nw x.toNatClampNeg (sg, L, O, Y, pg, ph) := hsp_21; simp [Mtk, c_1, ← e9]))
    obtain rfl : ph = ph' := by (rw [← ho7]) <;> (first | (simp [Mtk, c_1]; done) | (have e9 : (sa, La, Oa, Ya, ga, ha) = Mticks n nh nw x.toNatClampNeg (sg, L, O, Y, pg, ph) := hsp_21; simp [Mtk, c_1, ← e9]))
    obtain rfl : (-2) = res := by (rw [← hres]) <;> (first | (simp [Mtk, c_1]; done) | (have e9 : (sa, La, Oa, Ya, ga, ha) = Mticks n nh nw x.toNatClampNeg (sg, L, O, Y, pg, ph) := hsp_21; simp [Mtk, c_1, ← e9]))
    rw [hQ0]
    exact x_iret hx hb hret hlocks rfl hW rfl dX7_tryTicks_13
set_option maxHeartbeats 4000000 in
set_option maxRecDepth 100000 in
theorem c_X7_ticks (l : Launch) (X : xX) (G : xG) {f sg pb pc pd pe pg ph pp pq pt pu : Nat → Int32} {L O Y : Nat → Nat → Int32} {n nh nw pf pm : Nat} {x : Int32} (hn : sg 7 = nI n) (hn16 : n ≤ 16) (hh : sg 8 = nI nh) (hh8 : nh ≤ 8) (hw : sg 9 = nI nw) (hw8 : nw ≤ 8) (hY : ∀ j, j < 8 → MW (Y j)) (hpf : f 2 = nI pf) (hpf6 : pf < 6) (hpm : f 3 = nI pm) (hpm6 : pm ≤ 6) {f' : Nat → Int32} (ho0 : (Mtk x f (MkF pf pm f)) = f') {pb' : Nat → Int32} (ho1 : (Mtk x pb (MkB pf pm (xat sg L O Y) pb)) = pb') {sg' : Nat → Int32} (ho2 : (Mtk x sg ((Mticks n nh nw x.toNatClampNeg (sg, L, O, Y, pg, ph)).1)) = sg') {L' : Nat → Nat → Int32} (ho3 : (Mtk x L ((Mticks n nh nw x.toNatClampNeg (sg, L, O, Y, pg, ph)).2.1)) = L') {O' : Nat → Nat → Int32} (ho4 : (Mtk x O ((Mticks n nh nw x.toNatClampNeg (sg, L, O, Y, pg, ph)).2.2.1)) = O') {Y' : Nat → Nat → Int32} (ho5 : (Mtk x Y ((Mticks n nh nw x.toNatClampNeg (sg, L, O, Y, pg, ph)).2.2.2.1)) = Y') {pg' : Nat → Int32} (ho6 : (Mtk x pg ((Mticks n nh nw x.toNatClampNeg (sg, L, O, Y, pg, ph)).2.2.2.2.1)) = pg') {ph' : Nat → Int32} (ho7 : (Mtk x ph ((Mticks n nh nw x.toNatClampNeg (sg, L, O, Y, pg, ph)).2.2.2.2.2)) = ph') {res : Int32} (hres : (Mtk x (-2) ((Mticks n nh nw x.toNatClampNeg (sg, L, O, Y, pg, ph)).1 6)) = res) : XC l yX7_ticks cX7_ticks 2 (some .int) 6 135 0 0 X xsh [.ref (xB X + xkey 12 0 0), .int x] 603 603 (xval (xB X) (va_up G 12 (xMa f sg L O Y pb pc pd pe pg ph pp pq pt pu))) (xval (xB X) (va_up G 12 (xMa f' sg' L' O' Y' pb' pc pd pe pg' ph' pp pq pt pu))) (some (.int res)) := by
  refine XC.of RX7 "ticks" [(0, .ref (xB X + xkey 12 0 0)), (1, .int x)] (by decide) rfl rfl (Nat.le_of_ble_eq_true rfl) rfl ?_
  intro p e s m args below meth c ls hx hb hret hml hts hown hlocks hnm hK hW hl
  have hW : XR X G 12 (xMa f sg L O Y pb pc pd pe pg ph pp pq pt pu) s.heap [] := hW
  obtain ⟨Q0, hQ0⟩ : ∃ z, z = MQ below (xQ X xsh 603 (xval (xB X) (va_up G 12 (xMa f' sg' L' O' Y' pb' pc pd pe pg' ph' pp pq pt pu))) (some (.int res))) args s 0 0 (fun q => xB X ≤ q) := ⟨_, rfl⟩
  rw [← hQ0]
  refine lv_aload_n hx hb dX7_ticks_0 rfl (lv_at hl 0 rfl) ?_
  refine lv_iload_n hx hb dX7_ticks_1 rfl (lv_at hl 1 rfl) ?_
  refine lv_iconst (v := 1) hx hb dX7_ticks_2 (by decide) ?_
  refine x_callV hx hb hml hown hts hK hW hl.1 (c_X7_tryTicks l X G (n := n) (nh := nh) (nw := nw) (pf := pf) (pm := pm) (x := x) (k := 1) (hn := (by assumption)) (hn16 := (by assumption)) (hh := (by assumption)) (hh8 := (by assumption)) (hw := (by assumption)) (hw8 := (by assumption)) (hY := (by assumption)) (hpf := (by assumption)) (hpf6 := (by omega)) (hpm := (by assumption)) (hpm6 := (by assumption)) (ho0 := rfl) (ho1 := rfl) (ho2 := rfl) (ho3 := rfl) (ho4 := rfl) (ho5 := rfl) (ho6 := rfl) (ho7 := rfl) (hres := rfl)) (xF_mo0).1 (xF_mo0).2.1 (by decide) rfl xw_494 xw_495 xw_496 xw_5 xw_497 hdV_yX7_tryTicks ⟨Nat.le_of_ble_eq_true rfl, Nat.le_of_ble_eq_true rfl⟩ rfl (Nat.le_of_ble_eq_true rfl) ⟨Nat.le_refl _, Nat.le_refl _⟩ dX7_ticks_3 (fun H locs hW => ?_)
  have hW : XR X G 12 (xMa (Mtk x f (if 1 = 0 then f else MkF pf pm f)) (Mtk x sg ((Mticks n nh nw x.toNatClampNeg (sg, L, O, Y, pg, ph)).1)) (Mtk x L ((Mticks n nh nw x.toNatClampNeg (sg, L, O, Y, pg, ph)).2.1)) (Mtk x O ((Mticks n nh nw x.toNatClampNeg (sg, L, O, Y, pg, ph)).2.2.1)) (Mtk x Y ((Mticks n nh nw x.toNatClampNeg (sg, L, O, Y, pg, ph)).2.2.2.1)) (Mtk x pb (if 1 = 0 then pb else MkB pf pm (xat sg L O Y) pb)) pc pd pe (Mtk x pg ((Mticks n nh nw x.toNatClampNeg (sg, L, O, Y, pg, ph)).2.2.2.2.1)) (Mtk x ph ((Mticks n nh nw x.toNatClampNeg (sg, L, O, Y, pg, ph)).2.2.2.2.2)) pp pq pt pu) H locs := hW
  obtain rfl : (Mtk x f (if 1 = 0 then f else MkF pf pm f)) = f' := by (rw [← ho0]) <;> (rfl)
  obtain rfl : (Mtk x pb (if 1 = 0 then pb else MkB pf pm (xat sg L O Y) pb)) = pb' := by (rw [← ho1]) <;> (rfl)
  obtain rfl : (Mtk x sg ((Mticks n nh nw x.toNatClampNeg (sg, L, O, Y, pg, ph)).1)) = sg' := by (rw [← ho2]) <;> (rfl)
  obtain rfl : (Mtk x L ((Mticks n nh nw x.toNatClampNeg (sg, L, O, Y, pg, ph)).2.1)) = L' := by (rw [← ho3]) <;> (rfl)
  obtain rfl : (Mtk x O ((Mticks n nh nw x.toNatClampNeg (sg, L, O, Y, pg, ph)).2.2.1)) = O' := by (rw [← ho4]) <;> (rfl)
  obtain rfl : (Mtk x Y ((Mticks n nh nw x.toNatClampNeg (sg, L, O, Y, pg, ph)).2.2.2.1)) = Y' := by (rw [← ho5]) <;> (rfl)
  obtain rfl : (Mtk x pg ((Mticks n nh nw x.toNatClampNeg (sg, L, O, Y, pg, ph)).2.2.2.2.1)) = pg' := by (rw [← ho6]) <;> (rfl)
  obtain rfl : (Mtk x ph ((Mticks n nh nw x.toNatClampNeg (sg, L, O, Y, pg, ph)).2.2.2.2.2)) = ph' := by (rw [← ho7]) <;> (rfl)
  obtain rfl : Mtk x (-2) ((Mticks n nh nw x.toNatClampNeg (sg, L, O, Y, pg, ph)).1 6) = res := by (rw [← hres]) <;> (rfl)
  rw [hQ0]
  exact x_iret hx hb hret hlocks rfl hW rfl dX7_ticks_6
set_option maxHeartbeats 4000000 in
set_option maxRecDepth 100000 in
theorem c_X7_ofLamp (l : Launch) (X : xX) (G : xG) {f sg pb pc pd pe pg ph pp pq pt pu : Nat → Int32} {L O Y : Nat → Nat → Int32} {n : Nat} {x v : Int32} (hn : sg 7 = nI n) (hn16 : n ≤ 16) {res : Int32} (hres : (Mof (sg 7) x (-1) (MtellL (L x.toNatClampNeg) v)) = res) : XC l yX7_ofLamp cX7_ofLamp 3 (some .int) 2 43 0 0 X xsh [.ref (xB X + xkey 12 0 0), .int x, .int v] 603 603 (xval (xB X) (va_up G 12 (xMa f sg L O Y pb pc pd pe pg ph pp pq pt pu))) (xval (xB X) (va_up G 12 (xMa f sg L O Y pb pc pd pe pg ph pp pq pt pu))) (some (.int res)) := by
  refine XC.of RX7 "ofLamp" [(0, .ref (xB X + xkey 12 0 0)), (1, .int x), (2, .int v)] (by decide) rfl rfl (Nat.le_of_ble_eq_true rfl) rfl ?_
  intro p e s m args below meth c ls hx hb hret hml hts hown hlocks hnm hK hW hl
  have hW : XR X G 12 (xMa f sg L O Y pb pc pd pe pg ph pp pq pt pu) s.heap [] := hW
  obtain ⟨Q0, hQ0⟩ : ∃ z, z = MQ below (xQ X xsh 603 (xval (xB X) (va_up G 12 (xMa f sg L O Y pb pc pd pe pg ph pp pq pt pu))) (some (.int res))) args s 0 0 (fun q => xB X ≤ q) := ⟨_, rfl⟩
  rw [← hQ0]
  refine lv_aload_n hx hb dX7_ofLamp_0 rfl (lv_at hl 0 rfl) ?_
  refine lv_iload_n hx hb dX7_ofLamp_1 rfl (lv_at hl 1 rfl) ?_
  refine x_callV hx hb hml hown hts hK hW hl.1 (c_X7_isLamp l X G (x := x)  (hres := rfl)) (xF_mo0).1 (xF_mo0).2.1 (by decide) rfl xw_311 xw_312 xw_313 xw_5 xw_314 hdV_yX7_isLamp ⟨Nat.le_of_ble_eq_true rfl, Nat.le_of_ble_eq_true rfl⟩ rfl (Nat.le_of_ble_eq_true rfl) ⟨Nat.le_refl _, Nat.le_refl _⟩ dX7_ofLamp_2 (fun H locs hW => ?_)
  refine lv_if_ne (tgt := 10) hx hb dX7_ofLamp_5 (by decide) (fun c_1 => ?_) (fun c_1 => ?_)
  · skip
    have hx9 := xin hn (by omega) c_1
    have hx8 : x.toNatClampNeg < n := hx9.1
    refine lv_iload_n hx hb dX7_ofLamp_10 rfl (lv_at hl 2 rfl) ?_
    refine lv_iconst (v := 5) hx hb dX7_ofLamp_11 (by decide) ?_
    refine lv_icmp_eq (tgt := 21) hx hb dX7_ofLamp_12 (by decide) (fun c_2 => ?_) (fun c_2 => ?_)
    · skip
      refine lv_aload_n hx hb dX7_ofLamp_21 rfl (lv_at hl 0 rfl) ?_
      refine lv_iload_n hx hb dX7_ofLamp_22 rfl (lv_at hl 1 rfl) ?_
      refine lv_eqi (y := nI x.toNatClampNeg) hx9.2 ?_
      refine lv_iconst (v := 5) hx hb dX7_ofLamp_23 (by decide) ?_
      refine x_callV hx hb hml hown hts hK hW hl.1 (c_X7_ofL l X G (i := x.toNatClampNeg) (w := 5) (hi := (by omega)) (hw := (by decide)) (hres := rfl)) (xF_mo0).1 (xF_mo0).2.1 (by decide) rfl xw_198 xw_199 xw_200 xw_5 xw_201 hdV_yX7_ofL ⟨Nat.le_of_ble_eq_true rfl, Nat.le_of_ble_eq_true rfl⟩ rfl (Nat.le_of_ble_eq_true rfl) ⟨Nat.le_refl _, Nat.le_refl _⟩ dX7_ofLamp_24 (fun H locs hW => ?_)
      refine lv_if_le (tgt := 39) hx hb dX7_ofLamp_27 (by decide) (fun c_3 => ?_) (fun c_3 => ?_)
      · skip
        refine lv_bipush (v := (-6)) hx hb dX7_ofLamp_39 (by decide) ?_
        obtain rfl : (-6) = res := by (rw [← hres]) <;> (first | (simp [Mof, MtellL, c_1, c_2, c_3, Int32.not_lt.mpr c_3]; done) | (simp only [Mof, c_1, if_false, MtellL, c_1, c_2, c_3, Int32.not_lt.mpr c_3, if_true]; done))
        rw [hQ0]
        exact x_iret hx hb hret hlocks rfl hW rfl dX7_ofLamp_41
      · skip
        refine lv_aload_n hx hb dX7_ofLamp_30 rfl (lv_at hl 0 rfl) ?_
        refine lv_iload_n hx hb dX7_ofLamp_31 rfl (lv_at hl 1 rfl) ?_
        refine lv_eqi (y := nI x.toNatClampNeg) hx9.2 ?_
        refine lv_iload_n hx hb dX7_ofLamp_32 rfl (lv_at hl 2 rfl) ?_
        refine lv_eqi (y := nI 5) c_2 ?_
        refine x_callV hx hb hml hown hts hK hW hl.1 (c_X7_ofL l X G (i := x.toNatClampNeg) (w := 5) (hi := (by omega)) (hw := (by decide)) (hres := rfl)) (xF_mo0).1 (xF_mo0).2.1 (by decide) rfl xw_198 xw_199 xw_200 xw_5 xw_201 hdV_yX7_ofL ⟨Nat.le_of_ble_eq_true rfl, Nat.le_of_ble_eq_true rfl⟩ rfl (Nat.le_of_ble_eq_true rfl) ⟨Nat.le_refl _, Nat.le_refl _⟩ dX7_ofLamp_33 (fun H locs hW => ?_)
        refine lv_goto (tgt := 41) hx hb dX7_ofLamp_36 (by decide) ?_
        obtain rfl : L x.toNatClampNeg 5 = res := by (rw [← hres]) <;> (first | (simp [Mof, MtellL, c_1, c_2, c_3, Int32.not_le.mp c_3]; done) | (simp only [Mof, c_1, if_false, MtellL, c_1, c_2, c_3, Int32.not_le.mp c_3, if_true]; done))
        rw [hQ0]
        exact x_iret hx hb hret hlocks rfl hW rfl dX7_ofLamp_41
    · skip
      refine lv_iload_n hx hb dX7_ofLamp_15 rfl (lv_at hl 2 rfl) ?_
      refine lv_bipush (v := 6) hx hb dX7_ofLamp_16 (by decide) ?_
      refine lv_icmp_ne (tgt := 42) hx hb dX7_ofLamp_18 (by decide) (fun c_4 => ?_) (fun c_4 => ?_)
      · skip
        refine lv_iload_n hx hb dX7_ofLamp_42 rfl (lv_at hl 2 rfl) ?_
        refine lv_iconst (v := 0) hx hb dX7_ofLamp_43 (by decide) ?_
        refine lv_bipush (v := 10) hx hb dX7_ofLamp_44 (by decide) ?_
        refine x_callS hx hb hml hown hts hK hW hl.1 (c_X7_in l X _ (v := v) (lo := 0) (hi := 10) (hres := rfl)) xw_159 xw_160 xw_5 xw_161 hdS_yX7_in ⟨Nat.le_of_ble_eq_true rfl, Nat.le_of_ble_eq_true rfl⟩ rfl (Nat.le_of_ble_eq_true rfl) ⟨Nat.le_refl _, Nat.le_refl _⟩ dX7_ofLamp_46 (fun H locs hW => ?_)
        refine lv_if_eq (tgt := 61) hx hb dX7_ofLamp_49 (by decide) (fun c_5 => ?_) (fun c_5 => ?_)
        · skip
          refine lv_bipush (v := (-2)) hx hb dX7_ofLamp_61 (by decide) ?_
          obtain rfl : (-2) = res := by (rw [← hres]) <;> (first | (simp [Mof, MtellL, c_1, c_2, c_4, c_5]; done) | (simp only [Mof, c_1, if_false, MtellL, c_1, c_2, c_4, c_5, if_true]; done))
          rw [hQ0]
          exact x_iret hx hb hret hlocks rfl hW rfl dX7_ofLamp_63
        · skip
          have hv9 := xfin 10 rfl (by decide) c_5
          refine lv_aload_n hx hb dX7_ofLamp_52 rfl (lv_at hl 0 rfl) ?_
          refine lv_iload_n hx hb dX7_ofLamp_53 rfl (lv_at hl 1 rfl) ?_
          refine lv_eqi (y := nI x.toNatClampNeg) hx9.2 ?_
          refine lv_iload_n hx hb dX7_ofLamp_54 rfl (lv_at hl 2 rfl) ?_
          refine lv_eqi (y := nI v.toNatClampNeg) hv9.2 ?_
          refine x_callV hx hb hml hown hts hK hW hl.1 (c_X7_ofL l X G (i := x.toNatClampNeg) (w := v.toNatClampNeg) (hi := (by omega)) (hw := (by omega)) (hres := rfl)) (xF_mo0).1 (xF_mo0).2.1 (by decide) rfl xw_198 xw_199 xw_200 xw_5 xw_201 hdV_yX7_ofL ⟨Nat.le_of_ble_eq_true rfl, Nat.le_of_ble_eq_true rfl⟩ rfl (Nat.le_of_ble_eq_true rfl) ⟨Nat.le_refl _, Nat.le_refl _⟩ dX7_ofLamp_55 (fun H locs hW => ?_)
          refine lv_goto (tgt := 63) hx hb dX7_ofLamp_58 (by decide) ?_
          obtain rfl : L x.toNatClampNeg v.toNatClampNeg = res := by (rw [← hres]) <;> (first | (simp [Mof, MtellL, c_1, c_2, c_4, c_5]; done) | (simp only [Mof, c_1, if_false, MtellL, c_1, c_2, c_4, c_5, if_true]; done))
          rw [hQ0]
          exact x_iret hx hb hret hlocks rfl hW rfl dX7_ofLamp_63
      · skip
        refine lv_aload_n hx hb dX7_ofLamp_21 rfl (lv_at hl 0 rfl) ?_
        refine lv_iload_n hx hb dX7_ofLamp_22 rfl (lv_at hl 1 rfl) ?_
        refine lv_eqi (y := nI x.toNatClampNeg) hx9.2 ?_
        refine lv_iconst (v := 5) hx hb dX7_ofLamp_23 (by decide) ?_
        refine x_callV hx hb hml hown hts hK hW hl.1 (c_X7_ofL l X G (i := x.toNatClampNeg) (w := 5) (hi := (by omega)) (hw := (by decide)) (hres := rfl)) (xF_mo0).1 (xF_mo0).2.1 (by decide) rfl xw_198 xw_199 xw_200 xw_5 xw_201 hdV_yX7_ofL ⟨Nat.le_of_ble_eq_true rfl, Nat.le_of_ble_eq_true rfl⟩ rfl (Nat.le_of_ble_eq_true rfl) ⟨Nat.le_refl _, Nat.le_refl _⟩ dX7_ofLamp_24 (fun H locs hW => ?_)
        refine lv_if_le (tgt := 39) hx hb dX7_ofLamp_27 (by decide) (fun c_6 => ?_) (fun c_6 => ?_)
        · skip
          refine lv_bipush (v := (-6)) hx hb dX7_ofLamp_39 (by decide) ?_
          obtain rfl : (-6) = res := by (rw [← hres]) <;> (first | (simp [Mof, MtellL, c_1, c_2, c_4, c_6, Int32.not_lt.mpr c_6]; done) | (simp only [Mof, c_1, if_false, MtellL, c_1, c_2, c_4, c_6, Int32.not_lt.mpr c_6, if_true]; done))
          rw [hQ0]
          exact x_iret hx hb hret hlocks rfl hW rfl dX7_ofLamp_41
        · skip
          refine lv_aload_n hx hb dX7_ofLamp_30 rfl (lv_at hl 0 rfl) ?_
          refine lv_iload_n hx hb dX7_ofLamp_31 rfl (lv_at hl 1 rfl) ?_
          refine lv_eqi (y := nI x.toNatClampNeg) hx9.2 ?_
          refine lv_iload_n hx hb dX7_ofLamp_32 rfl (lv_at hl 2 rfl) ?_
          refine lv_eqi (y := nI 6) c_4 ?_
          refine x_callV hx hb hml hown hts hK hW hl.1 (c_X7_ofL l X G (i := x.toNatClampNeg) (w := 6) (hi := (by omega)) (hw := (by decide)) (hres := rfl)) (xF_mo0).1 (xF_mo0).2.1 (by decide) rfl xw_198 xw_199 xw_200 xw_5 xw_201 hdV_yX7_ofL ⟨Nat.le_of_ble_eq_true rfl, Nat.le_of_ble_eq_true rfl⟩ rfl (Nat.le_of_ble_eq_true rfl) ⟨Nat.le_refl _, Nat.le_refl _⟩ dX7_ofLamp_33 (fun H locs hW => ?_)
          refine lv_goto (tgt := 41) hx hb dX7_ofLamp_36 (by decide) ?_
          obtain rfl : L x.toNatClampNeg 6 = res := by (rw [← hres]) <;> (first | (simp [Mof, MtellL, c_1, c_2, c_4, c_6, Int32.not_le.mp c_6]; done) | (simp only [Mof, c_1, if_false, MtellL, c_1, c_2, c_4, c_6, Int32.not_le.mp c_6, if_true]; done))
          rw [hQ0]
          exact x_iret hx hb hret hlocks rfl hW rfl dX7_ofLamp_41
  · skip
    refine lv_iconst (v := (-1)) hx hb dX7_ofLamp_8 (by decide) ?_
    obtain rfl : (-1) = res := by (rw [← hres]) <;> (first | (simp [Mof, MtellL, c_1]; done) | (simp only [Mof, c_1, if_false, MtellL, c_1, if_true]; done))
    rw [hQ0]
    exact x_iret hx hb hret hlocks rfl hW rfl dX7_ofLamp_9
set_option maxHeartbeats 4000000 in
set_option maxRecDepth 100000 in
theorem c_X7_ofWalker (l : Launch) (X : xX) (G : xG) {f sg pb pc pd pe pg ph pp pq pt pu : Nat → Int32} {L O Y : Nat → Nat → Int32} {n nw : Nat} {x v : Int32} (hn : sg 7 = nI n) (hn16 : n ≤ 16) (hw : sg 9 = nI nw) (hw8 : nw ≤ 8) {res : Int32} (hres : (Mof (sg 9) x (-1) (MtellW n L (Y x.toNatClampNeg) v)) = res) : XC l yX7_ofWalker cX7_ofWalker 3 (some .int) 3 69 0 0 X xsh [.ref (xB X + xkey 12 0 0), .int x, .int v] 603 603 (xval (xB X) (va_up G 12 (xMa f sg L O Y pb pc pd pe pg ph pp pq pt pu))) (xval (xB X) (va_up G 12 (xMa f sg L O Y pb pc pd pe pg ph pp pq pt pu))) (some (.int res)) := by
  refine XC.of RX7 "ofWalker" [(0, .ref (xB X + xkey 12 0 0)), (1, .int x), (2, .int v)] (by decide) rfl rfl (Nat.le_of_ble_eq_true rfl) rfl ?_
  intro p e s m args below meth c ls hx hb hret hml hts hown hlocks hnm hK hW hl
  have hW : XR X G 12 (xMa f sg L O Y pb pc pd pe pg ph pp pq pt pu) s.heap [] := hW
  obtain ⟨Q0, hQ0⟩ : ∃ z, z = MQ below (xQ X xsh 603 (xval (xB X) (va_up G 12 (xMa f sg L O Y pb pc pd pe pg ph pp pq pt pu))) (some (.int res))) args s 0 0 (fun q => xB X ≤ q) := ⟨_, rfl⟩
  rw [← hQ0]
  refine lv_aload_n hx hb dX7_ofWalker_0 rfl (lv_at hl 0 rfl) ?_
  refine lv_iload_n hx hb dX7_ofWalker_1 rfl (lv_at hl 1 rfl) ?_
  refine x_callV hx hb hml hown hts hK hW hl.1 (c_X7_isWalker l X G (x := x)  (hres := rfl)) (xF_mo0).1 (xF_mo0).2.1 (by decide) rfl xw_274 xw_275 xw_276 xw_5 xw_277 hdV_yX7_isWalker ⟨Nat.le_of_ble_eq_true rfl, Nat.le_of_ble_eq_true rfl⟩ rfl (Nat.le_of_ble_eq_true rfl) ⟨Nat.le_refl _, Nat.le_refl _⟩ dX7_ofWalker_2 (fun H locs hW => ?_)
  refine lv_if_ne (tgt := 10) hx hb dX7_ofWalker_5 (by decide) (fun c_1 => ?_) (fun c_1 => ?_)
  · skip
    have hx9 := xin hw (by omega) c_1
    have hx8 : x.toNatClampNeg < nw := hx9.1
    refine lv_iload_n hx hb dX7_ofWalker_10 rfl (lv_at hl 2 rfl) ?_
    by_cases c_2 : v = 0
    · skip
      refine lv_tableIn (off := 49) (tgt := 60) hx hb dX7_ofWalker_11 (by rw [c_2]; decide) (by rw [c_2]; decide) (by rw [c_2]; decide) (by decide) ?_
      refine lv_aload_n hx hb dX7_ofWalker_60 rfl (lv_at hl 0 rfl) ?_
      refine lv_iload_n hx hb dX7_ofWalker_61 rfl (lv_at hl 1 rfl) ?_
      refine lv_eqi (y := nI x.toNatClampNeg) hx9.2 ?_
      refine lv_iload_n hx hb dX7_ofWalker_62 rfl (lv_at hl 2 rfl) ?_
      refine lv_eqi (y := nI 0) c_2 ?_
      refine x_callV hx hb hml hown hts hK hW hl.1 (c_X7_ofW l X G (i := x.toNatClampNeg) (w := 0) (hi := (by omega)) (hw := (by decide)) (hres := rfl)) (xF_mo0).1 (xF_mo0).2.1 (by decide) rfl xw_278 xw_279 xw_280 xw_5 xw_281 hdV_yX7_ofW ⟨Nat.le_of_ble_eq_true rfl, Nat.le_of_ble_eq_true rfl⟩ rfl (Nat.le_of_ble_eq_true rfl) ⟨Nat.le_refl _, Nat.le_refl _⟩ dX7_ofWalker_63 (fun H locs hW => ?_)
      obtain rfl : Y x.toNatClampNeg 0 = res := by (rw [← hres]) <;> (simp [Mof, MtellW, c_1, c_2])
      rw [hQ0]
      exact x_iret hx hb hret hlocks rfl hW rfl dX7_ofWalker_66
    · skip
      by_cases c_3 : v = 1
      · skip
        refine lv_tableIn (off := 49) (tgt := 60) hx hb dX7_ofWalker_11 (by rw [c_3]; decide) (by rw [c_3]; decide) (by rw [c_3]; decide) (by decide) ?_
        refine lv_aload_n hx hb dX7_ofWalker_60 rfl (lv_at hl 0 rfl) ?_
        refine lv_iload_n hx hb dX7_ofWalker_61 rfl (lv_at hl 1 rfl) ?_
        refine lv_eqi (y := nI x.toNatClampNeg) hx9.2 ?_
        refine lv_iload_n hx hb dX7_ofWalker_62 rfl (lv_at hl 2 rfl) ?_
        refine lv_eqi (y := nI 1) c_3 ?_
        refine x_callV hx hb hml hown hts hK hW hl.1 (c_X7_ofW l X G (i := x.toNatClampNeg) (w := 1) (hi := (by omega)) (hw := (by decide)) (hres := rfl)) (xF_mo0).1 (xF_mo0).2.1 (by decide) rfl xw_278 xw_279 xw_280 xw_5 xw_281 hdV_yX7_ofW ⟨Nat.le_of_ble_eq_true rfl, Nat.le_of_ble_eq_true rfl⟩ rfl (Nat.le_of_ble_eq_true rfl) ⟨Nat.le_refl _, Nat.le_refl _⟩ dX7_ofWalker_63 (fun H locs hW => ?_)
        obtain rfl : Y x.toNatClampNeg 1 = res := by (rw [← hres]) <;> (simp [Mof, MtellW, c_1, c_2, c_3])
        rw [hQ0]
        exact x_iret hx hb hret hlocks rfl hW rfl dX7_ofWalker_66
      · skip
        by_cases c_4 : v = 2
        · skip
          refine lv_tableIn (off := 49) (tgt := 60) hx hb dX7_ofWalker_11 (by rw [c_4]; decide) (by rw [c_4]; decide) (by rw [c_4]; decide) (by decide) ?_
          refine lv_aload_n hx hb dX7_ofWalker_60 rfl (lv_at hl 0 rfl) ?_
          refine lv_iload_n hx hb dX7_ofWalker_61 rfl (lv_at hl 1 rfl) ?_
          refine lv_eqi (y := nI x.toNatClampNeg) hx9.2 ?_
          refine lv_iload_n hx hb dX7_ofWalker_62 rfl (lv_at hl 2 rfl) ?_
          refine lv_eqi (y := nI 2) c_4 ?_
          refine x_callV hx hb hml hown hts hK hW hl.1 (c_X7_ofW l X G (i := x.toNatClampNeg) (w := 2) (hi := (by omega)) (hw := (by decide)) (hres := rfl)) (xF_mo0).1 (xF_mo0).2.1 (by decide) rfl xw_278 xw_279 xw_280 xw_5 xw_281 hdV_yX7_ofW ⟨Nat.le_of_ble_eq_true rfl, Nat.le_of_ble_eq_true rfl⟩ rfl (Nat.le_of_ble_eq_true rfl) ⟨Nat.le_refl _, Nat.le_refl _⟩ dX7_ofWalker_63 (fun H locs hW => ?_)
          obtain rfl : Y x.toNatClampNeg 2 = res := by (rw [← hres]) <;> (simp [Mof, MtellW, c_1, c_2, c_3, c_4])
          rw [hQ0]
          exact x_iret hx hb hret hlocks rfl hW rfl dX7_ofWalker_66
        · skip
          by_cases c_5 : v = 3
          · skip
            refine lv_tableIn (off := 56) (tgt := 67) hx hb dX7_ofWalker_11 (by rw [c_5]; decide) (by rw [c_5]; decide) (by rw [c_5]; decide) (by decide) ?_
            refine lv_aload_n hx hb dX7_ofWalker_67 rfl (lv_at hl 0 rfl) ?_
            refine lv_iload_n hx hb dX7_ofWalker_68 rfl (lv_at hl 1 rfl) ?_
            refine lv_eqi (y := nI x.toNatClampNeg) hx9.2 ?_
            refine lv_iconst (v := 3) hx hb dX7_ofWalker_69 (by decide) ?_
            refine x_callV hx hb hml hown hts hK hW hl.1 (c_X7_ofW l X G (i := x.toNatClampNeg) (w := 3) (hi := (by omega)) (hw := (by decide)) (hres := rfl)) (xF_mo0).1 (xF_mo0).2.1 (by decide) rfl xw_278 xw_279 xw_280 xw_5 xw_281 hdV_yX7_ofW ⟨Nat.le_of_ble_eq_true rfl, Nat.le_of_ble_eq_true rfl⟩ rfl (Nat.le_of_ble_eq_true rfl) ⟨Nat.le_refl _, Nat.le_refl _⟩ dX7_ofWalker_70 (fun H locs hW => ?_)
            refine lv_if_le (tgt := 86) hx hb dX7_ofWalker_73 (by decide) (fun c_6 => ?_) (fun c_6 => ?_)
            · skip
              refine lv_bipush (v := (-6)) hx hb dX7_ofWalker_86 (by decide) ?_
              obtain rfl : (-6) = res := by (rw [← hres]) <;> (simp [Mof, MtellW, c_1, c_2, c_3, c_4, c_5, c_6, Int32.not_lt.mpr c_6])
              rw [hQ0]
              exact x_iret hx hb hret hlocks rfl hW rfl dX7_ofWalker_88
            · skip
              refine lv_aload_n hx hb dX7_ofWalker_76 rfl (lv_at hl 0 rfl) ?_
              refine lv_iload_n hx hb dX7_ofWalker_77 rfl (lv_at hl 1 rfl) ?_
              refine lv_eqi (y := nI x.toNatClampNeg) hx9.2 ?_
              refine lv_bipush (v := 8) hx hb dX7_ofWalker_78 (by decide) ?_
              refine x_callV hx hb hml hown hts hK hW hl.1 (c_X7_ofW l X G (i := x.toNatClampNeg) (w := 8) (hi := (by omega)) (hw := (by decide)) (hres := rfl)) (xF_mo0).1 (xF_mo0).2.1 (by decide) rfl xw_278 xw_279 xw_280 xw_5 xw_281 hdV_yX7_ofW ⟨Nat.le_of_ble_eq_true rfl, Nat.le_of_ble_eq_true rfl⟩ rfl (Nat.le_of_ble_eq_true rfl) ⟨Nat.le_refl _, Nat.le_refl _⟩ dX7_ofWalker_80 (fun H locs hW => ?_)
              refine lv_goto (tgt := 88) hx hb dX7_ofWalker_83 (by decide) ?_
              obtain rfl : Y x.toNatClampNeg 8 = res := by (rw [← hres]) <;> (simp [Mof, MtellW, c_1, c_2, c_3, c_4, c_5, c_6, Int32.not_le.mp c_6])
              rw [hQ0]
              exact x_iret hx hb hret hlocks rfl hW rfl dX7_ofWalker_88
          · skip
            by_cases c_7 : v = 4
            · skip
              refine lv_tableIn (off := 78) (tgt := 89) hx hb dX7_ofWalker_11 (by rw [c_7]; decide) (by rw [c_7]; decide) (by rw [c_7]; decide) (by decide) ?_
              refine lv_aload_n hx hb dX7_ofWalker_89 rfl (lv_at hl 0 rfl) ?_
              refine lv_iload_n hx hb dX7_ofWalker_90 rfl (lv_at hl 1 rfl) ?_
              refine lv_eqi (y := nI x.toNatClampNeg) hx9.2 ?_
              refine lv_iconst (v := 3) hx hb dX7_ofWalker_91 (by decide) ?_
              refine x_callV hx hb hml hown hts hK hW hl.1 (c_X7_ofW l X G (i := x.toNatClampNeg) (w := 3) (hi := (by omega)) (hw := (by decide)) (hres := rfl)) (xF_mo0).1 (xF_mo0).2.1 (by decide) rfl xw_278 xw_279 xw_280 xw_5 xw_281 hdV_yX7_ofW ⟨Nat.le_of_ble_eq_true rfl, Nat.le_of_ble_eq_true rfl⟩ rfl (Nat.le_of_ble_eq_true rfl) ⟨Nat.le_refl _, Nat.le_refl _⟩ dX7_ofWalker_92 (fun H locs hW => ?_)
              obtain rfl : Y x.toNatClampNeg 3 = res := by (rw [← hres]) <;> (simp [Mof, MtellW, c_1, c_2, c_3, c_4, c_5, c_7])
              rw [hQ0]
              exact x_iret hx hb hret hlocks rfl hW rfl dX7_ofWalker_95
            · skip
              by_cases c_8 : v = 5
              · skip
                refine lv_tableIn (off := 85) (tgt := 96) hx hb dX7_ofWalker_11 (by rw [c_8]; decide) (by rw [c_8]; decide) (by rw [c_8]; decide) (by decide) ?_
                refine lv_aload_n hx hb dX7_ofWalker_96 rfl (lv_at hl 0 rfl) ?_
                refine lv_iload_n hx hb dX7_ofWalker_97 rfl (lv_at hl 1 rfl) ?_
                refine lv_eqi (y := nI x.toNatClampNeg) hx9.2 ?_
                refine lv_iconst (v := 4) hx hb dX7_ofWalker_98 (by decide) ?_
                refine x_callV hx hb hml hown hts hK hW hl.1 (c_X7_ofW l X G (i := x.toNatClampNeg) (w := 4) (hi := (by omega)) (hw := (by decide)) (hres := rfl)) (xF_mo0).1 (xF_mo0).2.1 (by decide) rfl xw_278 xw_279 xw_280 xw_5 xw_281 hdV_yX7_ofW ⟨Nat.le_of_ble_eq_true rfl, Nat.le_of_ble_eq_true rfl⟩ rfl (Nat.le_of_ble_eq_true rfl) ⟨Nat.le_refl _, Nat.le_refl _⟩ dX7_ofWalker_99 (fun H locs hW => ?_)
                obtain rfl : Y x.toNatClampNeg 4 = res := by (rw [← hres]) <;> (simp [Mof, MtellW, c_1, c_2, c_3, c_4, c_5, c_7, c_8])
                rw [hQ0]
                exact x_iret hx hb hret hlocks rfl hW rfl dX7_ofWalker_102
              · skip
                by_cases c_9 : v = 6
                · skip
                  refine lv_tableIn (off := 92) (tgt := 103) hx hb dX7_ofWalker_11 (by rw [c_9]; decide) (by rw [c_9]; decide) (by rw [c_9]; decide) (by decide) ?_
                  refine lv_aload_n hx hb dX7_ofWalker_103 rfl (lv_at hl 0 rfl) ?_
                  refine lv_iload_n hx hb dX7_ofWalker_104 rfl (lv_at hl 1 rfl) ?_
                  refine lv_eqi (y := nI x.toNatClampNeg) hx9.2 ?_
                  refine lv_iconst (v := 5) hx hb dX7_ofWalker_105 (by decide) ?_
                  refine x_callV hx hb hml hown hts hK hW hl.1 (c_X7_ofW l X G (i := x.toNatClampNeg) (w := 5) (hi := (by omega)) (hw := (by decide)) (hres := rfl)) (xF_mo0).1 (xF_mo0).2.1 (by decide) rfl xw_278 xw_279 xw_280 xw_5 xw_281 hdV_yX7_ofW ⟨Nat.le_of_ble_eq_true rfl, Nat.le_of_ble_eq_true rfl⟩ rfl (Nat.le_of_ble_eq_true rfl) ⟨Nat.le_refl _, Nat.le_refl _⟩ dX7_ofWalker_106 (fun H locs hW => ?_)
                  obtain rfl : Y x.toNatClampNeg 5 = res := by (rw [← hres]) <;> (simp [Mof, MtellW, c_1, c_2, c_3, c_4, c_5, c_7, c_8, c_9])
                  rw [hQ0]
                  exact x_iret hx hb hret hlocks rfl hW rfl dX7_ofWalker_109
                · skip
                  by_cases c_10 : v = 7
                  · skip
                    refine lv_tableIn (off := 99) (tgt := 110) hx hb dX7_ofWalker_11 (by rw [c_10]; decide) (by rw [c_10]; decide) (by rw [c_10]; decide) (by decide) ?_
                    refine lv_aload_n hx hb dX7_ofWalker_110 rfl (lv_at hl 0 rfl) ?_
                    refine lv_iload_n hx hb dX7_ofWalker_111 rfl (lv_at hl 1 rfl) ?_
                    refine lv_eqi (y := nI x.toNatClampNeg) hx9.2 ?_
                    refine x_callV hx hb hml hown hts hK hW hl.1 (c_X7_isInStreet l X G (i := x.toNatClampNeg) (hi := (by omega)) (hres := rfl)) (xF_mo0).1 (xF_mo0).2.1 (by decide) rfl xw_282 xw_283 xw_284 xw_5 xw_285 hdV_yX7_isInStreet ⟨Nat.le_of_ble_eq_true rfl, Nat.le_of_ble_eq_true rfl⟩ rfl (Nat.le_of_ble_eq_true rfl) ⟨Nat.le_refl _, Nat.le_refl _⟩ dX7_ofWalker_112 (fun H locs hW => ?_)
                    refine lv_if_eq (tgt := 135) hx hb dX7_ofWalker_115 (by decide) (fun c_11 => ?_) (fun c_11 => ?_)
                    · skip
                      refine lv_iconst (v := 0) hx hb dX7_ofWalker_135 (by decide) ?_
                      obtain rfl : 0 = res := by (rw [← hres]) <;> (simp [Mof, MtellW, c_1, c_2, c_3, c_4, c_5, c_7, c_8, c_9, c_10, c_11])
                      rw [hQ0]
                      exact x_iret hx hb hret hlocks rfl hW rfl dX7_ofWalker_136
                    · skip
                      refine lv_aload_n hx hb dX7_ofWalker_118 rfl (lv_at hl 0 rfl) ?_
                      refine lv_aload_n hx hb dX7_ofWalker_119 rfl (lv_at hl 0 rfl) ?_
                      refine lv_iload_n hx hb dX7_ofWalker_120 rfl (lv_at hl 1 rfl) ?_
                      refine lv_eqi (y := nI x.toNatClampNeg) hx9.2 ?_
                      refine lv_iconst (v := 0) hx hb dX7_ofWalker_121 (by decide) ?_
                      refine x_callV hx hb hml hown hts hK hW hl.1 (c_X7_ofW l X G (i := x.toNatClampNeg) (w := 0) (hi := (by omega)) (hw := (by decide)) (hres := rfl)) (xF_mo0).1 (xF_mo0).2.1 (by decide) rfl xw_278 xw_279 xw_280 xw_5 xw_281 hdV_yX7_ofW ⟨Nat.le_of_ble_eq_true rfl, Nat.le_of_ble_eq_true rfl⟩ rfl (Nat.le_of_ble_eq_true rfl) ⟨Nat.le_refl _, Nat.le_refl _⟩ dX7_ofWalker_122 (fun H locs hW => ?_)
                      refine x_callV hx hb hml hown hts hK hW hl.1 (c_X7_lightOn l X G (n := n) (x := Y x.toNatClampNeg 0) (hn := (by assumption)) (hn16 := (by assumption)) (hres := rfl)) (xF_mo0).1 (xF_mo0).2.1 (by decide) rfl xw_534 xw_535 xw_536 xw_5 xw_537 hdV_yX7_lightOn ⟨Nat.le_of_ble_eq_true rfl, Nat.le_of_ble_eq_true rfl⟩ rfl (Nat.le_of_ble_eq_true rfl) ⟨Nat.le_refl _, Nat.le_refl _⟩ dX7_ofWalker_125 (fun H locs hW => ?_)
                      refine lv_if_eq (tgt := 135) hx hb dX7_ofWalker_128 (by decide) (fun c_12 => ?_) (fun c_12 => ?_)
                      · skip
                        refine lv_iconst (v := 0) hx hb dX7_ofWalker_135 (by decide) ?_
                        obtain rfl : 0 = res := by (rw [← hres]) <;> (simp [Mof, MtellW, c_1, c_2, c_3, c_4, c_5, c_7, c_8, c_9, c_10, c_11, c_12])
                        rw [hQ0]
                        exact x_iret hx hb hret hlocks rfl hW rfl dX7_ofWalker_136
                      · skip
                        refine lv_iconst (v := 1) hx hb dX7_ofWalker_131 (by decide) ?_
                        refine lv_goto (tgt := 136) hx hb dX7_ofWalker_132 (by decide) ?_
                        obtain rfl : 1 = res := by (rw [← hres]) <;> (simp [Mof, MtellW, c_1, c_2, c_3, c_4, c_5, c_7, c_8, c_9, c_10, c_11, c_12])
                        rw [hQ0]
                        exact x_iret hx hb hret hlocks rfl hW rfl dX7_ofWalker_136
                  · skip
                    by_cases c_13 : v = 8
                    · skip
                      refine lv_tableIn (off := 126) (tgt := 137) hx hb dX7_ofWalker_11 (by rw [c_13]; decide) (by rw [c_13]; decide) (by rw [c_13]; decide) (by decide) ?_
                      refine lv_aload_n hx hb dX7_ofWalker_137 rfl (lv_at hl 0 rfl) ?_
                      refine lv_iload_n hx hb dX7_ofWalker_138 rfl (lv_at hl 1 rfl) ?_
                      refine lv_eqi (y := nI x.toNatClampNeg) hx9.2 ?_
                      refine lv_bipush (v := 6) hx hb dX7_ofWalker_139 (by decide) ?_
                      refine x_callV hx hb hml hown hts hK hW hl.1 (c_X7_ofW l X G (i := x.toNatClampNeg) (w := 6) (hi := (by omega)) (hw := (by decide)) (hres := rfl)) (xF_mo0).1 (xF_mo0).2.1 (by decide) rfl xw_278 xw_279 xw_280 xw_5 xw_281 hdV_yX7_ofW ⟨Nat.le_of_ble_eq_true rfl, Nat.le_of_ble_eq_true rfl⟩ rfl (Nat.le_of_ble_eq_true rfl) ⟨Nat.le_refl _, Nat.le_refl _⟩ dX7_ofWalker_141 (fun H locs hW => ?_)
                      obtain rfl : Y x.toNatClampNeg 6 = res := by (rw [← hres]) <;> (simp [Mof, MtellW, c_1, c_2, c_3, c_4, c_5, c_7, c_8, c_9, c_10, c_13])
                      rw [hQ0]
                      exact x_iret hx hb hret hlocks rfl hW rfl dX7_ofWalker_144
                    · skip
                      refine lv_tableOut (x := v) (tgt := 145) hx hb dX7_ofWalker_11 (x_tabout (x := v) (lo := 0) (hi := 8) (fun z h1 h2 => (fun h => h.elim (fun h => by rw [h]; exact x_nt c_2 (by decide)) (fun h => h.elim (fun h => by rw [h]; exact x_nt c_3 (by decide)) (fun h => h.elim (fun h => by rw [h]; exact x_nt c_4 (by decide)) (fun h => h.elim (fun h => by rw [h]; exact x_nt c_5 (by decide)) (fun h => h.elim (fun h => by rw [h]; exact x_nt c_7 (by decide)) (fun h => h.elim (fun h => by rw [h]; exact x_nt c_8 (by decide)) (fun h => h.elim (fun h => by rw [h]; exact x_nt c_9 (by decide)) (fun h => h.elim (fun h => by rw [h]; exact x_nt c_10 (by decide)) (fun h => by rw [h]; exact x_nt c_13 (by decide)))))))))) (show z = 0 ∨ z = 1 ∨ z = 2 ∨ z = 3 ∨ z = 4 ∨ z = 5 ∨ z = 6 ∨ z = 7 ∨ z = 8 by omega))) (by decide) ?_
                      refine lv_bipush (v := (-2)) hx hb dX7_ofWalker_145 (by decide) ?_
                      obtain rfl : (-2) = res := by (rw [← hres]) <;> (simp [Mof, MtellW, c_1, c_2, c_3, c_4, c_5, c_7, c_8, c_9, c_10, c_13])
                      rw [hQ0]
                      exact x_iret hx hb hret hlocks rfl hW rfl dX7_ofWalker_147
  · skip
    refine lv_iconst (v := (-1)) hx hb dX7_ofWalker_8 (by decide) ?_
    obtain rfl : (-1) = res := by (rw [← hres]) <;> (simp [Mof, MtellW, c_1])
    rw [hQ0]
    exact x_iret hx hb hret hlocks rfl hW rfl dX7_ofWalker_9
set_option maxHeartbeats 4000000 in
set_option maxRecDepth 100000 in
theorem c_X7_ofHouse (l : Launch) (X : xX) (G : xG) {f sg pb pc pd pe pg ph pp pq pt pu : Nat → Int32} {L O Y : Nat → Nat → Int32} {n nh : Nat} {x v : Int32} (hn : sg 7 = nI n) (hn16 : n ≤ 16) (hh : sg 8 = nI nh) (hh8 : nh ≤ 8) {res : Int32} (hres : (Mof (sg 8) x (-1) (MtellH n L O x.toNatClampNeg v)) = res) : XC l yX7_ofHouse cX7_ofHouse 3 (some .int) 2 45 0 0 X xsh [.ref (xB X + xkey 12 0 0), .int x, .int v] 603 603 (xval (xB X) (va_up G 12 (xMa f sg L O Y pb pc pd pe pg ph pp pq pt pu))) (xval (xB X) (va_up G 12 (xMa f sg L O Y pb pc pd pe pg ph pp pq pt pu))) (some (.int res)) := by
  refine XC.of RX7 "ofHouse" [(0, .ref (xB X + xkey 12 0 0)), (1, .int x), (2, .int v)] (by decide) rfl rfl (Nat.le_of_ble_eq_true rfl) rfl ?_
  intro p e s m args below meth c ls hx hb hret hml hts hown hlocks hnm hK hW hl
  have hW : XR X G 12 (xMa f sg L O Y pb pc pd pe pg ph pp pq pt pu) s.heap [] := hW
  obtain ⟨Q0, hQ0⟩ : ∃ z, z = MQ below (xQ X xsh 603 (xval (xB X) (va_up G 12 (xMa f sg L O Y pb pc pd pe pg ph pp pq pt pu))) (some (.int res))) args s 0 0 (fun q => xB X ≤ q) := ⟨_, rfl⟩
  rw [← hQ0]
  refine lv_iload_n hx hb dX7_ofHouse_0 rfl (lv_at hl 1 rfl) ?_
  refine lv_iconst (v := 0) hx hb dX7_ofHouse_1 (by decide) ?_
  refine lv_aload_n hx hb dX7_ofHouse_2 rfl (lv_at hl 0 rfl) ?_
  refine r_getr (C := RX7) (T := TX7) hx hb hts hown hK hW (xF_mo0).1 (xF_mo0).2.1 inlX7 rfl (by decide) 0 (by decide) (show xro (xkey 12 0 0) 0 = some (xkey 12 1 0) from by decide +kernel) xw_79 rfl dX7_ofHouse_3 ?_
  refine lv_bipush (v := 8) hx hb dX7_ofHouse_6 (by decide) ?_
  refine r_iald hx hb hK hW (N := 440) (xF_mo1) 8 (by decide) (by decide) (by decide) (xr_model 1 (by decide) (by decide) 8) (x := sg 8) (xat_s (sg := sg) (L := L) (O := O) (Y := Y) (k := 8) (by omega)) dX7_ofHouse_8 ?_
  refine lv_iconst (v := 1) hx hb dX7_ofHouse_9 (by decide) ?_
  refine lv_isub hx hb dX7_ofHouse_10 ?_
  refine x_callS hx hb hml hown hts hK hW hl.1 (c_X7_in l X _ (v := x) (lo := 0) (hi := (sg 8) - 1) (hres := rfl)) xw_159 xw_160 xw_5 xw_161 hdS_yX7_in ⟨Nat.le_of_ble_eq_true rfl, Nat.le_of_ble_eq_true rfl⟩ rfl (Nat.le_of_ble_eq_true rfl) ⟨Nat.le_refl _, Nat.le_refl _⟩ dX7_ofHouse_11 (fun H locs hW => ?_)
  refine lv_if_ne (tgt := 19) hx hb dX7_ofHouse_14 (by decide) (fun c_1 => ?_) (fun c_1 => ?_)
  · skip
    have hx9 := xin hh (by omega) c_1
    have hx8 : x.toNatClampNeg < nh := hx9.1
    refine lv_iload_n hx hb dX7_ofHouse_19 rfl (lv_at hl 2 rfl) ?_
    refine lv_if_ne (tgt := 32) hx hb dX7_ofHouse_20 (by decide) (fun c_2 => ?_) (fun c_2 => ?_)
    · skip
      refine lv_iload_n hx hb dX7_ofHouse_32 rfl (lv_at hl 2 rfl) ?_
      refine lv_iconst (v := 1) hx hb dX7_ofHouse_33 (by decide) ?_
      refine lv_icmp_ne (tgt := 53) hx hb dX7_ofHouse_34 (by decide) (fun c_3 => ?_) (fun c_3 => ?_)
      · skip
        refine lv_iload_n hx hb dX7_ofHouse_53 rfl (lv_at hl 2 rfl) ?_
        refine lv_iconst (v := 2) hx hb dX7_ofHouse_54 (by decide) ?_
        refine lv_icmp_ne (tgt := 67) hx hb dX7_ofHouse_55 (by decide) (fun c_4 => ?_) (fun c_4 => ?_)
        · skip
          refine lv_bipush (v := (-2)) hx hb dX7_ofHouse_67 (by decide) ?_
          obtain rfl : (-2) = res := by (rw [← hres]) <;> (simp [Mof, MtellH, c_1, c_2, c_3, c_4])
          rw [hQ0]
          exact x_iret hx hb hret hlocks rfl hW rfl dX7_ofHouse_69
        · skip
          refine lv_aload_n hx hb dX7_ofHouse_58 rfl (lv_at hl 0 rfl) ?_
          refine lv_iload_n hx hb dX7_ofHouse_59 rfl (lv_at hl 1 rfl) ?_
          refine lv_eqi (y := nI x.toNatClampNeg) hx9.2 ?_
          refine lv_iconst (v := 1) hx hb dX7_ofHouse_60 (by decide) ?_
          refine x_callV hx hb hml hown hts hK hW hl.1 (c_X7_ofH l X G (i := x.toNatClampNeg) (w := 1) (hi := (by omega)) (hw := (by decide)) (hres := rfl)) (xF_mo0).1 (xF_mo0).2.1 (by decide) rfl xw_550 xw_551 xw_552 xw_5 xw_553 hdV_yX7_ofH ⟨Nat.le_of_ble_eq_true rfl, Nat.le_of_ble_eq_true rfl⟩ rfl (Nat.le_of_ble_eq_true rfl) ⟨Nat.le_refl _, Nat.le_refl _⟩ dX7_ofHouse_61 (fun H locs hW => ?_)
          refine lv_goto (tgt := 69) hx hb dX7_ofHouse_64 (by decide) ?_
          obtain rfl : O x.toNatClampNeg 1 = res := by (rw [← hres]) <;> (simp [Mof, MtellH, c_1, c_2, c_3, c_4])
          rw [hQ0]
          exact x_iret hx hb hret hlocks rfl hW rfl dX7_ofHouse_69
      · skip
        refine lv_aload_n hx hb dX7_ofHouse_37 rfl (lv_at hl 0 rfl) ?_
        refine lv_iload_n hx hb dX7_ofHouse_38 rfl (lv_at hl 1 rfl) ?_
        refine lv_eqi (y := nI x.toNatClampNeg) hx9.2 ?_
        refine x_callV hx hb hml hown hts hK hW hl.1 (c_X7_isDisturbed l X G (n := n) (a := x.toNatClampNeg) (hn := (by assumption)) (hn16 := (by assumption)) (ha := (by omega)) (hres := rfl)) (xF_mo0).1 (xF_mo0).2.1 (by decide) rfl xw_546 xw_547 xw_548 xw_5 xw_549 hdV_yX7_isDisturbed ⟨Nat.le_of_ble_eq_true rfl, Nat.le_of_ble_eq_true rfl⟩ rfl (Nat.le_of_ble_eq_true rfl) ⟨Nat.le_refl _, Nat.le_refl _⟩ dX7_ofHouse_39 (fun H locs hW => ?_)
        refine lv_if_eq (tgt := 49) hx hb dX7_ofHouse_42 (by decide) (fun c_5 => ?_) (fun c_5 => ?_)
        · skip
          refine lv_iconst (v := 0) hx hb dX7_ofHouse_49 (by decide) ?_
          refine lv_goto (tgt := 69) hx hb dX7_ofHouse_50 (by decide) ?_
          obtain rfl : 0 = res := by (rw [← hres]) <;> (simp [Mof, MtellH, c_1, c_2, c_3, c_5])
          rw [hQ0]
          exact x_iret hx hb hret hlocks rfl hW rfl dX7_ofHouse_69
        · skip
          refine lv_iconst (v := 1) hx hb dX7_ofHouse_45 (by decide) ?_
          refine lv_goto (tgt := 69) hx hb dX7_ofHouse_46 (by decide) ?_
          obtain rfl : 1 = res := by (rw [← hres]) <;> (simp [Mof, MtellH, c_1, c_2, c_3, c_5])
          rw [hQ0]
          exact x_iret hx hb hret hlocks rfl hW rfl dX7_ofHouse_69
    · skip
      refine lv_aload_n hx hb dX7_ofHouse_23 rfl (lv_at hl 0 rfl) ?_
      refine lv_iload_n hx hb dX7_ofHouse_24 rfl (lv_at hl 1 rfl) ?_
      refine lv_eqi (y := nI x.toNatClampNeg) hx9.2 ?_
      refine lv_iconst (v := 0) hx hb dX7_ofHouse_25 (by decide) ?_
      refine x_callV hx hb hml hown hts hK hW hl.1 (c_X7_ofH l X G (i := x.toNatClampNeg) (w := 0) (hi := (by omega)) (hw := (by decide)) (hres := rfl)) (xF_mo0).1 (xF_mo0).2.1 (by decide) rfl xw_550 xw_551 xw_552 xw_5 xw_553 hdV_yX7_ofH ⟨Nat.le_of_ble_eq_true rfl, Nat.le_of_ble_eq_true rfl⟩ rfl (Nat.le_of_ble_eq_true rfl) ⟨Nat.le_refl _, Nat.le_refl _⟩ dX7_ofHouse_26 (fun H locs hW => ?_)
      refine lv_goto (tgt := 69) hx hb dX7_ofHouse_29 (by decide) ?_
      obtain rfl : O x.toNatClampNeg 0 = res := by (rw [← hres]) <;> (simp [Mof, MtellH, c_1, c_2])
      rw [hQ0]
      exact x_iret hx hb hret hlocks rfl hW rfl dX7_ofHouse_69
  · skip
    refine lv_iconst (v := (-1)) hx hb dX7_ofHouse_17 (by decide) ?_
    obtain rfl : (-1) = res := by (rw [← hres]) <;> (simp [Mof, MtellH, c_1])
    rw [hQ0]
    exact x_iret hx hb hret hlocks rfl hW rfl dX7_ofHouse_18
set_option maxHeartbeats 4000000 in
set_option maxRecDepth 100000 in
theorem c_X7_lightAt (l : Launch) (X : xX) (G : xG) {f sg pb pc pd pe pg ph pp pq pt pu : Nat → Int32} {L O Y : Nat → Nat → Int32} {n : Nat} {x : Int32} (hn : sg 7 = nI n) (hn16 : n ≤ 16) {res : Int32} (hres : (if Fin3 x 0 99 = 0 then -1 else Mlit n x L) = res) : XC l yX7_lightAt cX7_lightAt 2 (some .int) 3 69 0 0 X xsh [.ref (xB X + xkey 12 0 0), .int x] 603 603 (xval (xB X) (va_up G 12 (xMa f sg L O Y pb pc pd pe pg ph pp pq pt pu))) (xval (xB X) (va_up G 12 (xMa f sg L O Y pb pc pd pe pg ph pp pq pt pu))) (some (.int res)) := by
  refine XC.of RX7 "lightAt" [(0, .ref (xB X + xkey 12 0 0)), (1, .int x)] (by decide) rfl rfl (Nat.le_of_ble_eq_true rfl) rfl ?_
  intro p e s m args below meth c ls hx hb hret hml hts hown hlocks hnm hK hW hl
  have hW : XR X G 12 (xMa f sg L O Y pb pc pd pe pg ph pp pq pt pu) s.heap [] := hW
  obtain ⟨Q0, hQ0⟩ : ∃ z, z = MQ below (xQ X xsh 603 (xval (xB X) (va_up G 12 (xMa f sg L O Y pb pc pd pe pg ph pp pq pt pu))) (some (.int res))) args s 0 0 (fun q => xB X ≤ q) := ⟨_, rfl⟩
  rw [← hQ0]
  refine lv_iload_n hx hb dX7_lightAt_0 rfl (lv_at hl 1 rfl) ?_
  refine x_callS hx hb hml hown hts hK hW hl.1 (c_X7_isStep l X _ (a := x) (hres := rfl)) xw_191 xw_192 xw_5 xw_193 hdS_yX7_isStep ⟨Nat.le_of_ble_eq_true rfl, Nat.le_of_ble_eq_true rfl⟩ rfl (Nat.le_of_ble_eq_true rfl) ⟨Nat.le_refl _, Nat.le_refl _⟩ dX7_lightAt_1 (fun H locs hW => ?_)
  refine lv_if_eq (tgt := 15) hx hb dX7_lightAt_4 (by decide) (fun c_1 => ?_) (fun c_1 => ?_)
  · skip
    refine lv_iconst (v := (-1)) hx hb dX7_lightAt_15 (by decide) ?_
    obtain rfl : (-1) = res := by (rw [← hres]) <;> (simp [c_1])
    rw [hQ0]
    exact x_iret hx hb hret hlocks rfl hW rfl dX7_lightAt_16
  · skip
    refine lv_aload_n hx hb dX7_lightAt_7 rfl (lv_at hl 0 rfl) ?_
    refine lv_iload_n hx hb dX7_lightAt_8 rfl (lv_at hl 1 rfl) ?_
    refine x_callV hx hb hml hown hts hK hW hl.1 (c_X7_lightOn l X G (n := n) (x := x) (hn := (by assumption)) (hn16 := (by assumption)) (hres := rfl)) (xF_mo0).1 (xF_mo0).2.1 (by decide) rfl xw_534 xw_535 xw_536 xw_5 xw_537 hdV_yX7_lightOn ⟨Nat.le_of_ble_eq_true rfl, Nat.le_of_ble_eq_true rfl⟩ rfl (Nat.le_of_ble_eq_true rfl) ⟨Nat.le_refl _, Nat.le_refl _⟩ dX7_lightAt_9 (fun H locs hW => ?_)
    refine lv_goto (tgt := 16) hx hb dX7_lightAt_12 (by decide) ?_
    obtain rfl : Mlit n x L = res := by (rw [← hres]) <;> (simp [c_1])
    rw [hQ0]
    exact x_iret hx hb hret hlocks rfl hW rfl dX7_lightAt_16
set_option maxHeartbeats 4000000 in
set_option maxRecDepth 100000 in
theorem c_X7_hearers (l : Launch) (X : xX) (G : xG) {f sg pb pc pd pe pg ph pp pq pt pu : Nat → Int32} {L O Y : Nat → Nat → Int32} {n : Nat} {x : Int32} (hn : sg 7 = nI n) (hn16 : n ≤ 16) {res : Int32} (hres : (Mof (sg 7) x (-1) (Mhearers n sg x.toNatClampNeg L)) = res) : XC l yX7_hearers cX7_hearers 4 (some .int) 2 44 0 0 X xsh [.ref (xB X + xkey 12 0 0), .int x] 603 603 (xval (xB X) (va_up G 12 (xMa f sg L O Y pb pc pd pe pg ph pp pq pt pu))) (xval (xB X) (va_up G 12 (xMa f sg L O Y pb pc pd pe pg ph pp pq pt pu))) (some (.int res)) := by
  refine XC.of RX7 "hearers" [(0, .ref (xB X + xkey 12 0 0)), (1, .int x)] (by decide) rfl rfl (Nat.le_of_ble_eq_true rfl) rfl ?_
  intro p e s m args below meth c ls hx hb hret hml hts hown hlocks hnm hK hW hl
  have hW : XR X G 12 (xMa f sg L O Y pb pc pd pe pg ph pp pq pt pu) s.heap [] := hW
  obtain ⟨Q0, hQ0⟩ : ∃ z, z = MQ below (xQ X xsh 603 (xval (xB X) (va_up G 12 (xMa f sg L O Y pb pc pd pe pg ph pp pq pt pu))) (some (.int res))) args s 0 0 (fun q => xB X ≤ q) := ⟨_, rfl⟩
  rw [← hQ0]
  refine lv_aload_n hx hb dX7_hearers_0 rfl (lv_at hl 0 rfl) ?_
  refine lv_iload_n hx hb dX7_hearers_1 rfl (lv_at hl 1 rfl) ?_
  refine x_callV hx hb hml hown hts hK hW hl.1 (c_X7_isLamp l X G (x := x)  (hres := rfl)) (xF_mo0).1 (xF_mo0).2.1 (by decide) rfl xw_311 xw_312 xw_313 xw_5 xw_314 hdV_yX7_isLamp ⟨Nat.le_of_ble_eq_true rfl, Nat.le_of_ble_eq_true rfl⟩ rfl (Nat.le_of_ble_eq_true rfl) ⟨Nat.le_refl _, Nat.le_refl _⟩ dX7_hearers_2 (fun H locs hW => ?_)
  refine lv_if_ne (tgt := 10) hx hb dX7_hearers_5 (by decide) (fun c_1 => ?_) (fun c_1 => ?_)
  · skip
    have hx9 := xin hn (by omega) c_1
    have hx8 : x.toNatClampNeg < n := hx9.1
    refine lv_iconst (v := 0) hx hb dX7_hearers_10 (by decide) ?_
    refine lv_istore_n (lv' := [(2, .int 0), (0, .ref (xB X + xkey 12 0 0)), (1, .int x)]) hx hb dX7_hearers_11 rfl hl (by decide) rfl (fun ls hl => ?_)
    refine lv_iconst (v := nI 0) hx hb dX7_hearers_12 (by decide) ?_
    refine lv_istore_n (lv' := [(3, .int (nI 0)), (2, .int 0), (0, .ref (xB X + xkey 12 0 0)), (1, .int x)]) hx hb dX7_hearers_13 rfl hl (by decide) rfl (fun ls hl => ?_)
    have loop_14 : ∀ (k_14 i : Nat) (da : Int32), i + k_14 = n → (∀ h : L x.toNatClampNeg 3 = 2, da = 0) → xloop (fun i s => if Mhears sg L i x.toNatClampNeg = 0 then s ||| 0 else s ||| xbit i) k_14 i da = xloop (fun i s => if Mhears sg L i x.toNatClampNeg = 0 then s ||| 0 else s ||| xbit i) n 0 0 → ∀ (H : Heap) (locs : List Loc) (ls : Array Slot), XR X G 12 (xMa f sg L O Y pb pc pd pe pg ph pp pq pt pu) H locs → lv_has ls 4 [(0, .ref (xB X + xkey 12 0 0)), (1, .int x), (2, .int da), (3, .int (nI i))] → W p l e { frames := 2, cells := 0, slots := 0, locals := 44 } s m args below meth c H locs 0 0 Q0 (F0 m 14 ls []) := by
      intro k_14
      induction k_14 with
      | zero =>
        intro i da hik_14 hv0_14 hsp_14 H locs ls hW hl
        refine lv_iload_n hx hb dX7_hearers_14 rfl (lv_at hl 3 rfl) ?_
        refine lv_aload_n hx hb dX7_hearers_15 rfl (lv_at hl 0 rfl) ?_
        refine r_getr (C := RX7) (T := TX7) hx hb hts hown hK hW (xF_mo0).1 (xF_mo0).2.1 inlX7 rfl (by decide) 0 (by decide) (show xro (xkey 12 0 0) 0 = some (xkey 12 1 0) from by decide +kernel) xw_79 rfl dX7_hearers_16 ?_
        refine lv_bipush (v := 7) hx hb dX7_hearers_19 (by decide) ?_
        refine r_iald hx hb hK hW (N := 440) (xF_mo1) 7 (by decide) (by decide) (by decide) (xr_model 1 (by decide) (by decide) 7) (x := nI n) ((xat_s (sg := sg) (L := L) (O := O) (Y := Y) (k := 7) (by omega)).trans hn) dX7_hearers_21 ?_
        refine lv_icmp_ge (tgt := 60) hx hb dX7_hearers_22 (by decide) (fun c_2 => ?_) (fun c_2 => absurd (xge_refl (by omega)) c_2)
        refine lv_iload_n hx hb dX7_hearers_60 rfl (lv_at hl 2 rfl) ?_
        obtain rfl : da = res := by (rw [← hres]) <;> (first | (simp [Mof, c_1, c_2]; done) | (unfold Mof Mhearers; rw [if_neg c_1]; by_cases h9 : L x.toNatClampNeg 3 = 2; (rw [if_pos h9]; exact hv0_14 h9); (rw [if_neg h9]; exact hsp_14)) | (unfold Mof Mhearers; rw [if_neg c_1, if_pos c_4]; exact hv0_14 c_4))
        rw [hQ0]
        exact x_iret hx hb hret hlocks rfl hW rfl dX7_hearers_61
      | succ k_14 ih_14 =>
        intro i da hik_14 hv0_14 hsp_14 H locs ls hW hl
        refine lv_iload_n hx hb dX7_hearers_14 rfl (lv_at hl 3 rfl) ?_
        refine lv_aload_n hx hb dX7_hearers_15 rfl (lv_at hl 0 rfl) ?_
        refine r_getr (C := RX7) (T := TX7) hx hb hts hown hK hW (xF_mo0).1 (xF_mo0).2.1 inlX7 rfl (by decide) 0 (by decide) (show xro (xkey 12 0 0) 0 = some (xkey 12 1 0) from by decide +kernel) xw_79 rfl dX7_hearers_16 ?_
        refine lv_bipush (v := 7) hx hb dX7_hearers_19 (by decide) ?_
        refine r_iald hx hb hK hW (N := 440) (xF_mo1) 7 (by decide) (by decide) (by decide) (xr_model 1 (by decide) (by decide) 7) (x := nI n) ((xat_s (sg := sg) (L := L) (O := O) (Y := Y) (k := 7) (by omega)).trans hn) dX7_hearers_21 ?_
        refine lv_icmp_ge (tgt := 60) hx hb dX7_hearers_22 (by decide) (fun c_3 => absurd c_3 (nI_ge (by omega) (by omega))) (fun c_3 => ?_)
        refine lv_aload_n hx hb dX7_hearers_25 rfl (lv_at hl 0 rfl) ?_
        refine lv_iload_n hx hb dX7_hearers_26 rfl (lv_at hl 1 rfl) ?_
        refine lv_eqi (y := nI x.toNatClampNeg) hx9.2 ?_
        refine lv_iconst (v := 3) hx hb dX7_hearers_27 (by decide) ?_
        refine x_callV hx hb hml hown hts hK hW hl.1 (c_X7_ofL l X G (i := x.toNatClampNeg) (w := 3) (hi := (by omega)) (hw := (by decide)) (hres := rfl)) (xF_mo0).1 (xF_mo0).2.1 (by decide) rfl xw_198 xw_199 xw_200 xw_5 xw_201 hdV_yX7_ofL ⟨Nat.le_of_ble_eq_true rfl, Nat.le_of_ble_eq_true rfl⟩ rfl (Nat.le_of_ble_eq_true rfl) ⟨Nat.le_refl _, Nat.le_refl _⟩ dX7_hearers_28 (fun H locs hW => ?_)
        refine lv_iconst (v := 2) hx hb dX7_hearers_31 (by decide) ?_
        refine lv_icmp_eq (tgt := 60) hx hb dX7_hearers_32 (by decide) (fun c_4 => ?_) (fun c_4 => ?_)
        · skip
          refine lv_iload_n hx hb dX7_hearers_60 rfl (lv_at hl 2 rfl) ?_
          obtain rfl : da = res := by (rw [← hres]) <;> (first | (simp [Mof, c_1, c_3, c_4]; done) | (unfold Mof Mhearers; rw [if_neg c_1]; by_cases h9 : L x.toNatClampNeg 3 = 2; (rw [if_pos h9]; exact hv0_14 h9); (rw [if_neg h9]; exact hsp_14)) | (unfold Mof Mhearers; rw [if_neg c_1, if_pos c_4]; exact hv0_14 c_4))
          rw [hQ0]
          exact x_iret hx hb hret hlocks rfl hW rfl dX7_hearers_61
        · skip
          refine lv_iload_n hx hb dX7_hearers_35 rfl (lv_at hl 2 rfl) ?_
          refine lv_aload_n hx hb dX7_hearers_36 rfl (lv_at hl 0 rfl) ?_
          refine lv_iload_n hx hb dX7_hearers_37 rfl (lv_at hl 3 rfl) ?_
          refine lv_iload_n hx hb dX7_hearers_38 rfl (lv_at hl 1 rfl) ?_
          refine lv_eqi (y := nI x.toNatClampNeg) hx9.2 ?_
          refine x_callV hx hb hml hown hts hK hW hl.1 (c_X7_hears l X G (i := i) (j := x.toNatClampNeg) (hi := (by omega)) (hj := (by omega)) (hres := rfl)) (xF_mo0).1 (xF_mo0).2.1 (by decide) rfl xw_381 xw_382 xw_383 xw_5 xw_384 hdV_yX7_hears ⟨Nat.le_of_ble_eq_true rfl, Nat.le_of_ble_eq_true rfl⟩ rfl (Nat.le_of_ble_eq_true rfl) ⟨Nat.le_refl _, Nat.le_refl _⟩ dX7_hearers_39 (fun H locs hW => ?_)
          refine lv_if_eq (tgt := 51) hx hb dX7_hearers_42 (by decide) (fun c_5 => ?_) (fun c_5 => ?_)
          · skip
            refine lv_iconst (v := 0) hx hb dX7_hearers_51 (by decide) ?_
            refine lv_ior hx hb dX7_hearers_52 ?_
            refine lv_istore_n (lv' := [(2, .int (da ||| 0)), (0, .ref (xB X + xkey 12 0 0)), (1, .int x), (3, .int (nI i))]) hx hb dX7_hearers_53 rfl hl (by decide) rfl (fun ls hl => ?_)
            refine lv_iinc (v := nI (i + 1)) (lv' := [(3, .int (nI (i + 1))), (2, .int (da ||| 0)), (0, .ref (xB X + xkey 12 0 0)), (1, .int x)]) hx hb dX7_hearers_54 hl (k := 3) rfl (nI_1 i) (by decide) rfl (fun ls hl => ?_)
            refine lv_goto (tgt := 14) hx hb dX7_hearers_57 (by decide) ?_
            refine ih_14 (i + 1) (da ||| 0) (by omega) (fun h => absurd h c_4) ?_ H locs ls hW (lv_sub hl [2, 3, 1, 0] rfl)
            rw [← hsp_14]; simp [xloop, c_1, c_3, c_4, c_5]
          · skip
            refine lv_iconst (v := 1) hx hb dX7_hearers_45 (by decide) ?_
            refine lv_iload_n hx hb dX7_hearers_46 rfl (lv_at hl 3 rfl) ?_
            refine lv_ishl hx hb dX7_hearers_47 ?_
            refine lv_eqi (y := xbit i) rfl ?_
            refine lv_goto (tgt := 52) hx hb dX7_hearers_48 (by decide) ?_
            refine lv_ior hx hb dX7_hearers_52 ?_
            refine lv_istore_n (lv' := [(2, .int (da ||| (xbit i))), (0, .ref (xB X + xkey 12 0 0)), (1, .int x), (3, .int (nI i))]) hx hb dX7_hearers_53 rfl hl (by decide) rfl (fun ls hl => ?_)
            refine lv_iinc (v := nI (i + 1)) (lv' := [(3, .int (nI (i + 1))), (2, .int (da ||| (xbit i))), (0, .ref (xB X + xkey 12 0 0)), (1, .int x)]) hx hb dX7_hearers_54 hl (k := 3) rfl (nI_1 i) (by decide) rfl (fun ls hl => ?_)
            refine lv_goto (tgt := 14) hx hb dX7_hearers_57 (by decide) ?_
            refine ih_14 (i + 1) (da ||| (xbit i)) (by omega) (fun h => absurd h c_4) ?_ H locs ls hW (lv_sub hl [2, 3, 1, 0] rfl)
            rw [← hsp_14]; simp [xloop, c_1, c_3, c_4, c_5]
    exact loop_14 n 0 0 (by omega) (fun _ => rfl) rfl _ _ _ hW (lv_sub hl [2, 3, 1, 0] rfl)
  · skip
    refine lv_iconst (v := (-1)) hx hb dX7_hearers_8 (by decide) ?_
    obtain rfl : (-1) = res := by (rw [← hres]) <;> (first | (simp [Mof, c_1]; done) | (unfold Mof Mhearers; rw [if_neg c_1]; by_cases h9 : L x.toNatClampNeg 3 = 2; (rw [if_pos h9]; exact hv0_14 h9); (rw [if_neg h9]; exact hsp_14)) | (unfold Mof Mhearers; rw [if_neg c_1, if_pos c_4]; exact hv0_14 c_4))
    rw [hQ0]
    exact x_iret hx hb hret hlocks rfl hW rfl dX7_hearers_9
set_option maxHeartbeats 4000000 in
set_option maxRecDepth 100000 in
theorem c_X7_lampsThat (l : Launch) (X : xX) (G : xG) {f sg pb pc pd pe pg ph pp pq pt pu : Nat → Int32} {L O Y : Nat → Nat → Int32} {n : Nat} {d : Int32} (hn : sg 7 = nI n) (hn16 : n ≤ 16) {res : Int32} (hres : (Mthat n d L) = res) : XC l yX7_lampsThat cX7_lampsThat 4 (some .int) 1 22 0 0 X xsh [.ref (xB X + xkey 12 0 0), .int d] 603 603 (xval (xB X) (va_up G 12 (xMa f sg L O Y pb pc pd pe pg ph pp pq pt pu))) (xval (xB X) (va_up G 12 (xMa f sg L O Y pb pc pd pe pg ph pp pq pt pu))) (some (.int res)) := by
  refine XC.of RX7 "lampsThat" [(0, .ref (xB X + xkey 12 0 0)), (1, .int d)] (by decide) rfl rfl (Nat.le_of_ble_eq_true rfl) rfl ?_
  intro p e s m args below meth c ls hx hb hret hml hts hown hlocks hnm hK hW hl
  have hW : XR X G 12 (xMa f sg L O Y pb pc pd pe pg ph pp pq pt pu) s.heap [] := hW
  obtain ⟨Q0, hQ0⟩ : ∃ z, z = MQ below (xQ X xsh 603 (xval (xB X) (va_up G 12 (xMa f sg L O Y pb pc pd pe pg ph pp pq pt pu))) (some (.int res))) args s 0 0 (fun q => xB X ≤ q) := ⟨_, rfl⟩
  rw [← hQ0]
  refine lv_iconst (v := 0) hx hb dX7_lampsThat_0 (by decide) ?_
  refine lv_istore_n (lv' := [(2, .int 0), (0, .ref (xB X + xkey 12 0 0)), (1, .int d)]) hx hb dX7_lampsThat_1 rfl hl (by decide) rfl (fun ls hl => ?_)
  refine lv_iconst (v := nI 0) hx hb dX7_lampsThat_2 (by decide) ?_
  refine lv_istore_n (lv' := [(3, .int (nI 0)), (2, .int 0), (0, .ref (xB X + xkey 12 0 0)), (1, .int d)]) hx hb dX7_lampsThat_3 rfl hl (by decide) rfl (fun ls hl => ?_)
  have loop_4 : ∀ (k_4 i : Nat) (da : Int32), i + k_4 = n → xloop (fun i s => if L i 2 = d then s + 1 else s + 0) k_4 i da = xloop (fun i s => if L i 2 = d then s + 1 else s + 0) n 0 0 → ∀ (H : Heap) (locs : List Loc) (ls : Array Slot), XR X G 12 (xMa f sg L O Y pb pc pd pe pg ph pp pq pt pu) H locs → lv_has ls 4 [(0, .ref (xB X + xkey 12 0 0)), (1, .int d), (2, .int da), (3, .int (nI i))] → W p l e { frames := 1, cells := 0, slots := 0, locals := 22 } s m args below meth c H locs 0 0 Q0 (F0 m 4 ls []) := by
    intro k_4
    induction k_4 with
    | zero =>
      intro i da hik_4  hsp_4 H locs ls hW hl
      refine lv_iload_n hx hb dX7_lampsThat_4 rfl (lv_at hl 3 rfl) ?_
      refine lv_aload_n hx hb dX7_lampsThat_5 rfl (lv_at hl 0 rfl) ?_
      refine r_getr (C := RX7) (T := TX7) hx hb hts hown hK hW (xF_mo0).1 (xF_mo0).2.1 inlX7 rfl (by decide) 0 (by decide) (show xro (xkey 12 0 0) 0 = some (xkey 12 1 0) from by decide +kernel) xw_79 rfl dX7_lampsThat_6 ?_
      refine lv_bipush (v := 7) hx hb dX7_lampsThat_9 (by decide) ?_
      refine r_iald hx hb hK hW (N := 440) (xF_mo1) 7 (by decide) (by decide) (by decide) (xr_model 1 (by decide) (by decide) 7) (x := nI n) ((xat_s (sg := sg) (L := L) (O := O) (Y := Y) (k := 7) (by omega)).trans hn) dX7_lampsThat_11 ?_
      refine lv_icmp_ge (tgt := 39) hx hb dX7_lampsThat_12 (by decide) (fun c_1 => ?_) (fun c_1 => absurd (xge_refl (by omega)) c_1)
      refine lv_iload_n hx hb dX7_lampsThat_39 rfl (lv_at hl 2 rfl) ?_
      obtain rfl : da = res := by (rw [← hres]) <;> (exact hsp_4)
      rw [hQ0]
      exact x_iret hx hb hret hlocks rfl hW rfl dX7_lampsThat_40
    | succ k_4 ih_4 =>
      intro i da hik_4  hsp_4 H locs ls hW hl
      refine lv_iload_n hx hb dX7_lampsThat_4 rfl (lv_at hl 3 rfl) ?_
      refine lv_aload_n hx hb dX7_lampsThat_5 rfl (lv_at hl 0 rfl) ?_
      refine r_getr (C := RX7) (T := TX7) hx hb hts hown hK hW (xF_mo0).1 (xF_mo0).2.1 inlX7 rfl (by decide) 0 (by decide) (show xro (xkey 12 0 0) 0 = some (xkey 12 1 0) from by decide +kernel) xw_79 rfl dX7_lampsThat_6 ?_
      refine lv_bipush (v := 7) hx hb dX7_lampsThat_9 (by decide) ?_
      refine r_iald hx hb hK hW (N := 440) (xF_mo1) 7 (by decide) (by decide) (by decide) (xr_model 1 (by decide) (by decide) 7) (x := nI n) ((xat_s (sg := sg) (L := L) (O := O) (Y := Y) (k := 7) (by omega)).trans hn) dX7_lampsThat_11 ?_
      refine lv_icmp_ge (tgt := 39) hx hb dX7_lampsThat_12 (by decide) (fun c_2 => absurd c_2 (nI_ge (by omega) (by omega))) (fun c_2 => ?_)
      refine lv_iload_n hx hb dX7_lampsThat_15 rfl (lv_at hl 2 rfl) ?_
      refine lv_aload_n hx hb dX7_lampsThat_16 rfl (lv_at hl 0 rfl) ?_
      refine lv_iload_n hx hb dX7_lampsThat_17 rfl (lv_at hl 3 rfl) ?_
      refine lv_iconst (v := 2) hx hb dX7_lampsThat_18 (by decide) ?_
      refine x_callV hx hb hml hown hts hK hW hl.1 (c_X7_ofL l X G (i := i) (w := 2) (hi := (by omega)) (hw := (by decide)) (hres := rfl)) (xF_mo0).1 (xF_mo0).2.1 (by decide) rfl xw_198 xw_199 xw_200 xw_5 xw_201 hdV_yX7_ofL ⟨Nat.le_of_ble_eq_true rfl, Nat.le_of_ble_eq_true rfl⟩ rfl (Nat.le_of_ble_eq_true rfl) ⟨Nat.le_refl _, Nat.le_refl _⟩ dX7_lampsThat_19 (fun H locs hW => ?_)
      refine lv_iload_n hx hb dX7_lampsThat_22 rfl (lv_at hl 1 rfl) ?_
      refine lv_icmp_ne (tgt := 30) hx hb dX7_lampsThat_23 (by decide) (fun c_3 => ?_) (fun c_3 => ?_)
      · skip
        refine lv_iconst (v := 0) hx hb dX7_lampsThat_30 (by decide) ?_
        refine lv_iadd hx hb dX7_lampsThat_31 ?_
        refine lv_istore_n (lv' := [(2, .int (da + 0)), (0, .ref (xB X + xkey 12 0 0)), (1, .int d), (3, .int (nI i))]) hx hb dX7_lampsThat_32 rfl hl (by decide) rfl (fun ls hl => ?_)
        refine lv_iinc (v := nI (i + 1)) (lv' := [(3, .int (nI (i + 1))), (2, .int (da + 0)), (0, .ref (xB X + xkey 12 0 0)), (1, .int d)]) hx hb dX7_lampsThat_33 hl (k := 3) rfl (nI_1 i) (by decide) rfl (fun ls hl => ?_)
        refine lv_goto (tgt := 4) hx hb dX7_lampsThat_36 (by decide) ?_
        refine ih_4 (i + 1) (da + 0) (by omega)  ?_ H locs ls hW (lv_sub hl [2, 3, 1, 0] rfl)
        rw [← hsp_4]; simp [xloop, c_2, c_3]
      · skip
        refine lv_iconst (v := 1) hx hb dX7_lampsThat_26 (by decide) ?_
        refine lv_goto (tgt := 31) hx hb dX7_lampsThat_27 (by decide) ?_
        refine lv_iadd hx hb dX7_lampsThat_31 ?_
        refine lv_istore_n (lv' := [(2, .int (da + 1)), (0, .ref (xB X + xkey 12 0 0)), (1, .int d), (3, .int (nI i))]) hx hb dX7_lampsThat_32 rfl hl (by decide) rfl (fun ls hl => ?_)
        refine lv_iinc (v := nI (i + 1)) (lv' := [(3, .int (nI (i + 1))), (2, .int (da + 1)), (0, .ref (xB X + xkey 12 0 0)), (1, .int d)]) hx hb dX7_lampsThat_33 hl (k := 3) rfl (nI_1 i) (by decide) rfl (fun ls hl => ?_)
        refine lv_goto (tgt := 4) hx hb dX7_lampsThat_36 (by decide) ?_
        refine ih_4 (i + 1) (da + 1) (by omega)  ?_ H locs ls hW (lv_sub hl [2, 3, 1, 0] rfl)
        rw [← hsp_4]; simp [xloop, c_2, c_3]
  exact loop_4 n 0 0 (by omega)  rfl _ _ _ hW (lv_sub hl [2, 3, 1, 0] rfl)
set_option maxHeartbeats 4000000 in
set_option maxRecDepth 100000 in
theorem c_X7_sumL (l : Launch) (X : xX) (G : xG) {f sg pb pc pd pe pg ph pp pq pt pu : Nat → Int32} {L O Y : Nat → Nat → Int32} {n w : Nat} (hn : sg 7 = nI n) (hn16 : n ≤ 16) (hw : w < 13) {res : Int32} (hres : (Msum n w L) = res) : XC l yX7_sumL cX7_sumL 4 (some .int) 1 22 0 0 X xsh [.ref (xB X + xkey 12 0 0), .int (nI w)] 603 603 (xval (xB X) (va_up G 12 (xMa f sg L O Y pb pc pd pe pg ph pp pq pt pu))) (xval (xB X) (va_up G 12 (xMa f sg L O Y pb pc pd pe pg ph pp pq pt pu))) (some (.int res)) := by
  refine XC.of RX7 "sumL" [(0, .ref (xB X + xkey 12 0 0)), (1, .int (nI w))] (by decide) rfl rfl (Nat.le_of_ble_eq_true rfl) rfl ?_
  intro p e s m args below meth c ls hx hb hret hml hts hown hlocks hnm hK hW hl
  have hW : XR X G 12 (xMa f sg L O Y pb pc pd pe pg ph pp pq pt pu) s.heap [] := hW
  obtain ⟨Q0, hQ0⟩ : ∃ z, z = MQ below (xQ X xsh 603 (xval (xB X) (va_up G 12 (xMa f sg L O Y pb pc pd pe pg ph pp pq pt pu))) (some (.int res))) args s 0 0 (fun q => xB X ≤ q) := ⟨_, rfl⟩
  rw [← hQ0]
  refine lv_iconst (v := 0) hx hb dX7_sumL_0 (by decide) ?_
  refine lv_istore_n (lv' := [(2, .int 0), (0, .ref (xB X + xkey 12 0 0)), (1, .int (nI w))]) hx hb dX7_sumL_1 rfl hl (by decide) rfl (fun ls hl => ?_)
  refine lv_iconst (v := nI 0) hx hb dX7_sumL_2 (by decide) ?_
  refine lv_istore_n (lv' := [(3, .int (nI 0)), (2, .int 0), (0, .ref (xB X + xkey 12 0 0)), (1, .int (nI w))]) hx hb dX7_sumL_3 rfl hl (by decide) rfl (fun ls hl => ?_)
  have loop_4 : ∀ (k_4 i : Nat) (da : Int32), i + k_4 = n → xloop (fun i s => s + L i w) k_4 i da = xloop (fun i s => s + L i w) n 0 0 → ∀ (H : Heap) (locs : List Loc) (ls : Array Slot), XR X G 12 (xMa f sg L O Y pb pc pd pe pg ph pp pq pt pu) H locs → lv_has ls 4 [(0, .ref (xB X + xkey 12 0 0)), (1, .int (nI w)), (2, .int da), (3, .int (nI i))] → W p l e { frames := 1, cells := 0, slots := 0, locals := 22 } s m args below meth c H locs 0 0 Q0 (F0 m 4 ls []) := by
    intro k_4
    induction k_4 with
    | zero =>
      intro i da hik_4  hsp_4 H locs ls hW hl
      refine lv_iload_n hx hb dX7_sumL_4 rfl (lv_at hl 3 rfl) ?_
      refine lv_aload_n hx hb dX7_sumL_5 rfl (lv_at hl 0 rfl) ?_
      refine r_getr (C := RX7) (T := TX7) hx hb hts hown hK hW (xF_mo0).1 (xF_mo0).2.1 inlX7 rfl (by decide) 0 (by decide) (show xro (xkey 12 0 0) 0 = some (xkey 12 1 0) from by decide +kernel) xw_79 rfl dX7_sumL_6 ?_
      refine lv_bipush (v := 7) hx hb dX7_sumL_9 (by decide) ?_
      refine r_iald hx hb hK hW (N := 440) (xF_mo1) 7 (by decide) (by decide) (by decide) (xr_model 1 (by decide) (by decide) 7) (x := nI n) ((xat_s (sg := sg) (L := L) (O := O) (Y := Y) (k := 7) (by omega)).trans hn) dX7_sumL_11 ?_
      refine lv_icmp_ge (tgt := 30) hx hb dX7_sumL_12 (by decide) (fun c_1 => ?_) (fun c_1 => absurd (xge_refl (by omega)) c_1)
      refine lv_iload_n hx hb dX7_sumL_30 rfl (lv_at hl 2 rfl) ?_
      obtain rfl : da = res := by (rw [← hres]) <;> (exact hsp_4)
      rw [hQ0]
      exact x_iret hx hb hret hlocks rfl hW rfl dX7_sumL_31
    | succ k_4 ih_4 =>
      intro i da hik_4  hsp_4 H locs ls hW hl
      refine lv_iload_n hx hb dX7_sumL_4 rfl (lv_at hl 3 rfl) ?_
      refine lv_aload_n hx hb dX7_sumL_5 rfl (lv_at hl 0 rfl) ?_
      refine r_getr (C := RX7) (T := TX7) hx hb hts hown hK hW (xF_mo0).1 (xF_mo0).2.1 inlX7 rfl (by decide) 0 (by decide) (show xro (xkey 12 0 0) 0 = some (xkey 12 1 0) from by decide +kernel) xw_79 rfl dX7_sumL_6 ?_
      refine lv_bipush (v := 7) hx hb dX7_sumL_9 (by decide) ?_
      refine r_iald hx hb hK hW (N := 440) (xF_mo1) 7 (by decide) (by decide) (by decide) (xr_model 1 (by decide) (by decide) 7) (x := nI n) ((xat_s (sg := sg) (L := L) (O := O) (Y := Y) (k := 7) (by omega)).trans hn) dX7_sumL_11 ?_
      refine lv_icmp_ge (tgt := 30) hx hb dX7_sumL_12 (by decide) (fun c_2 => absurd c_2 (nI_ge (by omega) (by omega))) (fun c_2 => ?_)
      refine lv_iload_n hx hb dX7_sumL_15 rfl (lv_at hl 2 rfl) ?_
      refine lv_aload_n hx hb dX7_sumL_16 rfl (lv_at hl 0 rfl) ?_
      refine lv_iload_n hx hb dX7_sumL_17 rfl (lv_at hl 3 rfl) ?_
      refine lv_iload_n hx hb dX7_sumL_18 rfl (lv_at hl 1 rfl) ?_
      refine x_callV hx hb hml hown hts hK hW hl.1 (c_X7_ofL l X G (i := i) (w := w) (hi := (by omega)) (hw := hw) (hres := rfl)) (xF_mo0).1 (xF_mo0).2.1 (by decide) rfl xw_198 xw_199 xw_200 xw_5 xw_201 hdV_yX7_ofL ⟨Nat.le_of_ble_eq_true rfl, Nat.le_of_ble_eq_true rfl⟩ rfl (Nat.le_of_ble_eq_true rfl) ⟨Nat.le_refl _, Nat.le_refl _⟩ dX7_sumL_19 (fun H locs hW => ?_)
      refine lv_iadd hx hb dX7_sumL_22 ?_
      refine lv_istore_n (lv' := [(2, .int (da + (L i w))), (0, .ref (xB X + xkey 12 0 0)), (1, .int (nI w)), (3, .int (nI i))]) hx hb dX7_sumL_23 rfl hl (by decide) rfl (fun ls hl => ?_)
      refine lv_iinc (v := nI (i + 1)) (lv' := [(3, .int (nI (i + 1))), (2, .int (da + (L i w))), (0, .ref (xB X + xkey 12 0 0)), (1, .int (nI w))]) hx hb dX7_sumL_24 hl (k := 3) rfl (nI_1 i) (by decide) rfl (fun ls hl => ?_)
      refine lv_goto (tgt := 4) hx hb dX7_sumL_27 (by decide) ?_
      refine ih_4 (i + 1) (da + (L i w)) (by omega)  ?_ H locs ls hW (lv_sub hl [2, 3, 1, 0] rfl)
      rw [← hsp_4]; rfl
  exact loop_4 n 0 0 (by omega)  rfl _ _ _ hW (lv_sub hl [2, 3, 1, 0] rfl)
set_option maxHeartbeats 4000000 in
set_option maxRecDepth 100000 in
theorem c_X7_darkTicks (l : Launch) (X : xX) (G : xG) {f sg pb pc pd pe pg ph pp pq pt pu : Nat → Int32} {L O Y : Nat → Nat → Int32} {nw : Nat} (hw : sg 9 = nI nw) (hw8 : nw ≤ 8) {res : Int32} (hres : (Msum nw 5 Y) = res) : XC l yX7_darkTicks cX7_darkTicks 3 (some .int) 1 22 0 0 X xsh [.ref (xB X + xkey 12 0 0)] 603 603 (xval (xB X) (va_up G 12 (xMa f sg L O Y pb pc pd pe pg ph pp pq pt pu))) (xval (xB X) (va_up G 12 (xMa f sg L O Y pb pc pd pe pg ph pp pq pt pu))) (some (.int res)) := by
  refine XC.of RX7 "darkTicks" [(0, .ref (xB X + xkey 12 0 0))] (by decide) rfl rfl (Nat.le_of_ble_eq_true rfl) rfl ?_
  intro p e s m args below meth c ls hx hb hret hml hts hown hlocks hnm hK hW hl
  have hW : XR X G 12 (xMa f sg L O Y pb pc pd pe pg ph pp pq pt pu) s.heap [] := hW
  obtain ⟨Q0, hQ0⟩ : ∃ z, z = MQ below (xQ X xsh 603 (xval (xB X) (va_up G 12 (xMa f sg L O Y pb pc pd pe pg ph pp pq pt pu))) (some (.int res))) args s 0 0 (fun q => xB X ≤ q) := ⟨_, rfl⟩
  rw [← hQ0]
  refine lv_iconst (v := 0) hx hb dX7_darkTicks_0 (by decide) ?_
  refine lv_istore_n (lv' := [(1, .int 0), (0, .ref (xB X + xkey 12 0 0))]) hx hb dX7_darkTicks_1 rfl hl (by decide) rfl (fun ls hl => ?_)
  refine lv_iconst (v := nI 0) hx hb dX7_darkTicks_2 (by decide) ?_
  refine lv_istore_n (lv' := [(2, .int (nI 0)), (1, .int 0), (0, .ref (xB X + xkey 12 0 0))]) hx hb dX7_darkTicks_3 rfl hl (by decide) rfl (fun ls hl => ?_)
  have loop_4 : ∀ (k_4 i : Nat) (da : Int32), i + k_4 = nw → xloop (fun i s => s + Y i 5) k_4 i da = xloop (fun i s => s + Y i 5) nw 0 0 → ∀ (H : Heap) (locs : List Loc) (ls : Array Slot), XR X G 12 (xMa f sg L O Y pb pc pd pe pg ph pp pq pt pu) H locs → lv_has ls 3 [(0, .ref (xB X + xkey 12 0 0)), (1, .int da), (2, .int (nI i))] → W p l e { frames := 1, cells := 0, slots := 0, locals := 22 } s m args below meth c H locs 0 0 Q0 (F0 m 4 ls []) := by
    intro k_4
    induction k_4 with
    | zero =>
      intro i da hik_4  hsp_4 H locs ls hW hl
      refine lv_iload_n hx hb dX7_darkTicks_4 rfl (lv_at hl 2 rfl) ?_
      refine lv_aload_n hx hb dX7_darkTicks_5 rfl (lv_at hl 0 rfl) ?_
      refine r_getr (C := RX7) (T := TX7) hx hb hts hown hK hW (xF_mo0).1 (xF_mo0).2.1 inlX7 rfl (by decide) 0 (by decide) (show xro (xkey 12 0 0) 0 = some (xkey 12 1 0) from by decide +kernel) xw_79 rfl dX7_darkTicks_6 ?_
      refine lv_bipush (v := 9) hx hb dX7_darkTicks_9 (by decide) ?_
      refine r_iald hx hb hK hW (N := 440) (xF_mo1) 9 (by decide) (by decide) (by decide) (xr_model 1 (by decide) (by decide) 9) (x := nI nw) ((xat_s (sg := sg) (L := L) (O := O) (Y := Y) (k := 9) (by omega)).trans hw) dX7_darkTicks_11 ?_
      refine lv_icmp_ge (tgt := 30) hx hb dX7_darkTicks_12 (by decide) (fun c_1 => ?_) (fun c_1 => absurd (xge_refl (by omega)) c_1)
      refine lv_iload_n hx hb dX7_darkTicks_30 rfl (lv_at hl 1 rfl) ?_
      obtain rfl : da = res := by (rw [← hres]) <;> (exact hsp_4)
      rw [hQ0]
      exact x_iret hx hb hret hlocks rfl hW rfl dX7_darkTicks_31
    | succ k_4 ih_4 =>
      intro i da hik_4  hsp_4 H locs ls hW hl
      refine lv_iload_n hx hb dX7_darkTicks_4 rfl (lv_at hl 2 rfl) ?_
      refine lv_aload_n hx hb dX7_darkTicks_5 rfl (lv_at hl 0 rfl) ?_
      refine r_getr (C := RX7) (T := TX7) hx hb hts hown hK hW (xF_mo0).1 (xF_mo0).2.1 inlX7 rfl (by decide) 0 (by decide) (show xro (xkey 12 0 0) 0 = some (xkey 12 1 0) from by decide +kernel) xw_79 rfl dX7_darkTicks_6 ?_
      refine lv_bipush (v := 9) hx hb dX7_darkTicks_9 (by decide) ?_
      refine r_iald hx hb hK hW (N := 440) (xF_mo1) 9 (by decide) (by decide) (by decide) (xr_model 1 (by decide) (by decide) 9) (x := nI nw) ((xat_s (sg := sg) (L := L) (O := O) (Y := Y) (k := 9) (by omega)).trans hw) dX7_darkTicks_11 ?_
      refine lv_icmp_ge (tgt := 30) hx hb dX7_darkTicks_12 (by decide) (fun c_2 => absurd c_2 (nI_ge (by omega) (by omega))) (fun c_2 => ?_)
      refine lv_iload_n hx hb dX7_darkTicks_15 rfl (lv_at hl 1 rfl) ?_
      refine lv_aload_n hx hb dX7_darkTicks_16 rfl (lv_at hl 0 rfl) ?_
      refine lv_iload_n hx hb dX7_darkTicks_17 rfl (lv_at hl 2 rfl) ?_
      refine lv_iconst (v := 5) hx hb dX7_darkTicks_18 (by decide) ?_
      refine x_callV hx hb hml hown hts hK hW hl.1 (c_X7_ofW l X G (i := i) (w := 5) (hi := (by omega)) (hw := (by decide)) (hres := rfl)) (xF_mo0).1 (xF_mo0).2.1 (by decide) rfl xw_278 xw_279 xw_280 xw_5 xw_281 hdV_yX7_ofW ⟨Nat.le_of_ble_eq_true rfl, Nat.le_of_ble_eq_true rfl⟩ rfl (Nat.le_of_ble_eq_true rfl) ⟨Nat.le_refl _, Nat.le_refl _⟩ dX7_darkTicks_19 (fun H locs hW => ?_)
      refine lv_iadd hx hb dX7_darkTicks_22 ?_
      refine lv_istore_n (lv' := [(1, .int (da + (Y i 5))), (0, .ref (xB X + xkey 12 0 0)), (2, .int (nI i))]) hx hb dX7_darkTicks_23 rfl hl (by decide) rfl (fun ls hl => ?_)
      refine lv_iinc (v := nI (i + 1)) (lv' := [(2, .int (nI (i + 1))), (1, .int (da + (Y i 5))), (0, .ref (xB X + xkey 12 0 0))]) hx hb dX7_darkTicks_24 hl (k := 2) rfl (nI_1 i) (by decide) rfl (fun ls hl => ?_)
      refine lv_goto (tgt := 4) hx hb dX7_darkTicks_27 (by decide) ?_
      refine ih_4 (i + 1) (da + (Y i 5)) (by omega)  ?_ H locs ls hW (lv_sub hl [2, 1, 0] rfl)
      rw [← hsp_4]; rfl
  exact loop_4 nw 0 0 (by omega)  rfl _ _ _ hW (lv_sub hl [2, 1, 0] rfl)
set_option maxHeartbeats 4000000 in
set_option maxRecDepth 100000 in
theorem c_X7_disturbedTicks (l : Launch) (X : xX) (G : xG) {f sg pb pc pd pe pg ph pp pq pt pu : Nat → Int32} {L O Y : Nat → Nat → Int32} {nh : Nat} (hh : sg 8 = nI nh) (hh8 : nh ≤ 8) {res : Int32} (hres : (Msum nh 1 O) = res) : XC l yX7_disturbedTicks cX7_disturbedTicks 3 (some .int) 1 22 0 0 X xsh [.ref (xB X + xkey 12 0 0)] 603 603 (xval (xB X) (va_up G 12 (xMa f sg L O Y pb pc pd pe pg ph pp pq pt pu))) (xval (xB X) (va_up G 12 (xMa f sg L O Y pb pc pd pe pg ph pp pq pt pu))) (some (.int res)) := by
  refine XC.of RX7 "disturbedTicks" [(0, .ref (xB X + xkey 12 0 0))] (by decide) rfl rfl (Nat.le_of_ble_eq_true rfl) rfl ?_
  intro p e s m args below meth c ls hx hb hret hml hts hown hlocks hnm hK hW hl
  have hW : XR X G 12 (xMa f sg L O Y pb pc pd pe pg ph pp pq pt pu) s.heap [] := hW
  obtain ⟨Q0, hQ0⟩ : ∃ z, z = MQ below (xQ X xsh 603 (xval (xB X) (va_up G 12 (xMa f sg L O Y pb pc pd pe pg ph pp pq pt pu))) (some (.int res))) args s 0 0 (fun q => xB X ≤ q) := ⟨_, rfl⟩
  rw [← hQ0]
  refine lv_iconst (v := 0) hx hb dX7_disturbedTicks_0 (by decide) ?_
  refine lv_istore_n (lv' := [(1, .int 0), (0, .ref (xB X + xkey 12 0 0))]) hx hb dX7_disturbedTicks_1 rfl hl (by decide) rfl (fun ls hl => ?_)
  refine lv_iconst (v := nI 0) hx hb dX7_disturbedTicks_2 (by decide) ?_
  refine lv_istore_n (lv' := [(2, .int (nI 0)), (1, .int 0), (0, .ref (xB X + xkey 12 0 0))]) hx hb dX7_disturbedTicks_3 rfl hl (by decide) rfl (fun ls hl => ?_)
  have loop_4 : ∀ (k_4 i : Nat) (da : Int32), i + k_4 = nh → xloop (fun i s => s + O i 1) k_4 i da = xloop (fun i s => s + O i 1) nh 0 0 → ∀ (H : Heap) (locs : List Loc) (ls : Array Slot), XR X G 12 (xMa f sg L O Y pb pc pd pe pg ph pp pq pt pu) H locs → lv_has ls 3 [(0, .ref (xB X + xkey 12 0 0)), (1, .int da), (2, .int (nI i))] → W p l e { frames := 1, cells := 0, slots := 0, locals := 22 } s m args below meth c H locs 0 0 Q0 (F0 m 4 ls []) := by
    intro k_4
    induction k_4 with
    | zero =>
      intro i da hik_4  hsp_4 H locs ls hW hl
      refine lv_iload_n hx hb dX7_disturbedTicks_4 rfl (lv_at hl 2 rfl) ?_
      refine lv_aload_n hx hb dX7_disturbedTicks_5 rfl (lv_at hl 0 rfl) ?_
      refine r_getr (C := RX7) (T := TX7) hx hb hts hown hK hW (xF_mo0).1 (xF_mo0).2.1 inlX7 rfl (by decide) 0 (by decide) (show xro (xkey 12 0 0) 0 = some (xkey 12 1 0) from by decide +kernel) xw_79 rfl dX7_disturbedTicks_6 ?_
      refine lv_bipush (v := 8) hx hb dX7_disturbedTicks_9 (by decide) ?_
      refine r_iald hx hb hK hW (N := 440) (xF_mo1) 8 (by decide) (by decide) (by decide) (xr_model 1 (by decide) (by decide) 8) (x := nI nh) ((xat_s (sg := sg) (L := L) (O := O) (Y := Y) (k := 8) (by omega)).trans hh) dX7_disturbedTicks_11 ?_
      refine lv_icmp_ge (tgt := 30) hx hb dX7_disturbedTicks_12 (by decide) (fun c_1 => ?_) (fun c_1 => absurd (xge_refl (by omega)) c_1)
      refine lv_iload_n hx hb dX7_disturbedTicks_30 rfl (lv_at hl 1 rfl) ?_
      obtain rfl : da = res := by (rw [← hres]) <;> (exact hsp_4)
      rw [hQ0]
      exact x_iret hx hb hret hlocks rfl hW rfl dX7_disturbedTicks_31
    | succ k_4 ih_4 =>
      intro i da hik_4  hsp_4 H locs ls hW hl
      refine lv_iload_n hx hb dX7_disturbedTicks_4 rfl (lv_at hl 2 rfl) ?_
      refine lv_aload_n hx hb dX7_disturbedTicks_5 rfl (lv_at hl 0 rfl) ?_
      refine r_getr (C := RX7) (T := TX7) hx hb hts hown hK hW (xF_mo0).1 (xF_mo0).2.1 inlX7 rfl (by decide) 0 (by decide) (show xro (xkey 12 0 0) 0 = some (xkey 12 1 0) from by decide +kernel) xw_79 rfl dX7_disturbedTicks_6 ?_
      refine lv_bipush (v := 8) hx hb dX7_disturbedTicks_9 (by decide) ?_
      refine r_iald hx hb hK hW (N := 440) (xF_mo1) 8 (by decide) (by decide) (by decide) (xr_model 1 (by decide) (by decide) 8) (x := nI nh) ((xat_s (sg := sg) (L := L) (O := O) (Y := Y) (k := 8) (by omega)).trans hh) dX7_disturbedTicks_11 ?_
      refine lv_icmp_ge (tgt := 30) hx hb dX7_disturbedTicks_12 (by decide) (fun c_2 => absurd c_2 (nI_ge (by omega) (by omega))) (fun c_2 => ?_)
      refine lv_iload_n hx hb dX7_disturbedTicks_15 rfl (lv_at hl 1 rfl) ?_
      refine lv_aload_n hx hb dX7_disturbedTicks_16 rfl (lv_at hl 0 rfl) ?_
      refine lv_iload_n hx hb dX7_disturbedTicks_17 rfl (lv_at hl 2 rfl) ?_
      refine lv_iconst (v := 1) hx hb dX7_disturbedTicks_18 (by decide) ?_
      refine x_callV hx hb hml hown hts hK hW hl.1 (c_X7_ofH l X G (i := i) (w := 1) (hi := (by omega)) (hw := (by decide)) (hres := rfl)) (xF_mo0).1 (xF_mo0).2.1 (by decide) rfl xw_550 xw_551 xw_552 xw_5 xw_553 hdV_yX7_ofH ⟨Nat.le_of_ble_eq_true rfl, Nat.le_of_ble_eq_true rfl⟩ rfl (Nat.le_of_ble_eq_true rfl) ⟨Nat.le_refl _, Nat.le_refl _⟩ dX7_disturbedTicks_19 (fun H locs hW => ?_)
      refine lv_iadd hx hb dX7_disturbedTicks_22 ?_
      refine lv_istore_n (lv' := [(1, .int (da + (O i 1))), (0, .ref (xB X + xkey 12 0 0)), (2, .int (nI i))]) hx hb dX7_disturbedTicks_23 rfl hl (by decide) rfl (fun ls hl => ?_)
      refine lv_iinc (v := nI (i + 1)) (lv' := [(2, .int (nI (i + 1))), (1, .int (da + (O i 1))), (0, .ref (xB X + xkey 12 0 0))]) hx hb dX7_disturbedTicks_24 hl (k := 2) rfl (nI_1 i) (by decide) rfl (fun ls hl => ?_)
      refine lv_goto (tgt := 4) hx hb dX7_disturbedTicks_27 (by decide) ?_
      refine ih_4 (i + 1) (da + (O i 1)) (by omega)  ?_ H locs ls hW (lv_sub hl [2, 1, 0] rfl)
      rw [← hsp_4]; rfl
  exact loop_4 nh 0 0 (by omega)  rfl _ _ _ hW (lv_sub hl [2, 1, 0] rfl)
set_option maxHeartbeats 4000000 in
set_option maxRecDepth 100000 in
theorem c_X7_walkersInStreet (l : Launch) (X : xX) (G : xG) {f sg pb pc pd pe pg ph pp pq pt pu : Nat → Int32} {L O Y : Nat → Nat → Int32} {nw : Nat} (hw : sg 9 = nI nw) (hw8 : nw ≤ 8) {res : Int32} (hres : (Minstr nw Y) = res) : XC l yX7_walkersInStreet cX7_walkersInStreet 3 (some .int) 2 43 0 0 X xsh [.ref (xB X + xkey 12 0 0)] 603 603 (xval (xB X) (va_up G 12 (xMa f sg L O Y pb pc pd pe pg ph pp pq pt pu))) (xval (xB X) (va_up G 12 (xMa f sg L O Y pb pc pd pe pg ph pp pq pt pu))) (some (.int res)) := by
  refine XC.of RX7 "walkersInStreet" [(0, .ref (xB X + xkey 12 0 0))] (by decide) rfl rfl (Nat.le_of_ble_eq_true rfl) rfl ?_
  intro p e s m args below meth c ls hx hb hret hml hts hown hlocks hnm hK hW hl
  have hW : XR X G 12 (xMa f sg L O Y pb pc pd pe pg ph pp pq pt pu) s.heap [] := hW
  obtain ⟨Q0, hQ0⟩ : ∃ z, z = MQ below (xQ X xsh 603 (xval (xB X) (va_up G 12 (xMa f sg L O Y pb pc pd pe pg ph pp pq pt pu))) (some (.int res))) args s 0 0 (fun q => xB X ≤ q) := ⟨_, rfl⟩
  rw [← hQ0]
  refine lv_iconst (v := 0) hx hb dX7_walkersInStreet_0 (by decide) ?_
  refine lv_istore_n (lv' := [(1, .int 0), (0, .ref (xB X + xkey 12 0 0))]) hx hb dX7_walkersInStreet_1 rfl hl (by decide) rfl (fun ls hl => ?_)
  refine lv_iconst (v := nI 0) hx hb dX7_walkersInStreet_2 (by decide) ?_
  refine lv_istore_n (lv' := [(2, .int (nI 0)), (1, .int 0), (0, .ref (xB X + xkey 12 0 0))]) hx hb dX7_walkersInStreet_3 rfl hl (by decide) rfl (fun ls hl => ?_)
  have loop_4 : ∀ (k_4 i : Nat) (da : Int32), i + k_4 = nw → xloop (fun i s => if Mstr (Y i) = 0 then s + 0 else s + 1) k_4 i da = xloop (fun i s => if Mstr (Y i) = 0 then s + 0 else s + 1) nw 0 0 → ∀ (H : Heap) (locs : List Loc) (ls : Array Slot), XR X G 12 (xMa f sg L O Y pb pc pd pe pg ph pp pq pt pu) H locs → lv_has ls 3 [(0, .ref (xB X + xkey 12 0 0)), (1, .int da), (2, .int (nI i))] → W p l e { frames := 2, cells := 0, slots := 0, locals := 43 } s m args below meth c H locs 0 0 Q0 (F0 m 4 ls []) := by
    intro k_4
    induction k_4 with
    | zero =>
      intro i da hik_4  hsp_4 H locs ls hW hl
      refine lv_iload_n hx hb dX7_walkersInStreet_4 rfl (lv_at hl 2 rfl) ?_
      refine lv_aload_n hx hb dX7_walkersInStreet_5 rfl (lv_at hl 0 rfl) ?_
      refine r_getr (C := RX7) (T := TX7) hx hb hts hown hK hW (xF_mo0).1 (xF_mo0).2.1 inlX7 rfl (by decide) 0 (by decide) (show xro (xkey 12 0 0) 0 = some (xkey 12 1 0) from by decide +kernel) xw_79 rfl dX7_walkersInStreet_6 ?_
      refine lv_bipush (v := 9) hx hb dX7_walkersInStreet_9 (by decide) ?_
      refine r_iald hx hb hK hW (N := 440) (xF_mo1) 9 (by decide) (by decide) (by decide) (xr_model 1 (by decide) (by decide) 9) (x := nI nw) ((xat_s (sg := sg) (L := L) (O := O) (Y := Y) (k := 9) (by omega)).trans hw) dX7_walkersInStreet_11 ?_
      refine lv_icmp_ge (tgt := 37) hx hb dX7_walkersInStreet_12 (by decide) (fun c_1 => ?_) (fun c_1 => absurd (xge_refl (by omega)) c_1)
      refine lv_iload_n hx hb dX7_walkersInStreet_37 rfl (lv_at hl 1 rfl) ?_
      obtain rfl : da = res := by (rw [← hres]) <;> (exact hsp_4)
      rw [hQ0]
      exact x_iret hx hb hret hlocks rfl hW rfl dX7_walkersInStreet_38
    | succ k_4 ih_4 =>
      intro i da hik_4  hsp_4 H locs ls hW hl
      refine lv_iload_n hx hb dX7_walkersInStreet_4 rfl (lv_at hl 2 rfl) ?_
      refine lv_aload_n hx hb dX7_walkersInStreet_5 rfl (lv_at hl 0 rfl) ?_
      refine r_getr (C := RX7) (T := TX7) hx hb hts hown hK hW (xF_mo0).1 (xF_mo0).2.1 inlX7 rfl (by decide) 0 (by decide) (show xro (xkey 12 0 0) 0 = some (xkey 12 1 0) from by decide +kernel) xw_79 rfl dX7_walkersInStreet_6 ?_
      refine lv_bipush (v := 9) hx hb dX7_walkersInStreet_9 (by decide) ?_
      refine r_iald hx hb hK hW (N := 440) (xF_mo1) 9 (by decide) (by decide) (by decide) (xr_model 1 (by decide) (by decide) 9) (x := nI nw) ((xat_s (sg := sg) (L := L) (O := O) (Y := Y) (k := 9) (by omega)).trans hw) dX7_walkersInStreet_11 ?_
      refine lv_icmp_ge (tgt := 37) hx hb dX7_walkersInStreet_12 (by decide) (fun c_2 => absurd c_2 (nI_ge (by omega) (by omega))) (fun c_2 => ?_)
      refine lv_iload_n hx hb dX7_walkersInStreet_15 rfl (lv_at hl 1 rfl) ?_
      refine lv_aload_n hx hb dX7_walkersInStreet_16 rfl (lv_at hl 0 rfl) ?_
      refine lv_iload_n hx hb dX7_walkersInStreet_17 rfl (lv_at hl 2 rfl) ?_
      refine x_callV hx hb hml hown hts hK hW hl.1 (c_X7_isInStreet l X G (i := i) (hi := (by omega)) (hres := rfl)) (xF_mo0).1 (xF_mo0).2.1 (by decide) rfl xw_282 xw_283 xw_284 xw_5 xw_285 hdV_yX7_isInStreet ⟨Nat.le_of_ble_eq_true rfl, Nat.le_of_ble_eq_true rfl⟩ rfl (Nat.le_of_ble_eq_true rfl) ⟨Nat.le_refl _, Nat.le_refl _⟩ dX7_walkersInStreet_18 (fun H locs hW => ?_)
      refine lv_if_eq (tgt := 28) hx hb dX7_walkersInStreet_21 (by decide) (fun c_3 => ?_) (fun c_3 => ?_)
      · skip
        refine lv_iconst (v := 0) hx hb dX7_walkersInStreet_28 (by decide) ?_
        refine lv_iadd hx hb dX7_walkersInStreet_29 ?_
        refine lv_istore_n (lv' := [(1, .int (da + 0)), (0, .ref (xB X + xkey 12 0 0)), (2, .int (nI i))]) hx hb dX7_walkersInStreet_30 rfl hl (by decide) rfl (fun ls hl => ?_)
        refine lv_iinc (v := nI (i + 1)) (lv' := [(2, .int (nI (i + 1))), (1, .int (da + 0)), (0, .ref (xB X + xkey 12 0 0))]) hx hb dX7_walkersInStreet_31 hl (k := 2) rfl (nI_1 i) (by decide) rfl (fun ls hl => ?_)
        refine lv_goto (tgt := 4) hx hb dX7_walkersInStreet_34 (by decide) ?_
        refine ih_4 (i + 1) (da + 0) (by omega)  ?_ H locs ls hW (lv_sub hl [2, 1, 0] rfl)
        rw [← hsp_4]; simp [xloop, c_2, c_3]
      · skip
        refine lv_iconst (v := 1) hx hb dX7_walkersInStreet_24 (by decide) ?_
        refine lv_goto (tgt := 29) hx hb dX7_walkersInStreet_25 (by decide) ?_
        refine lv_iadd hx hb dX7_walkersInStreet_29 ?_
        refine lv_istore_n (lv' := [(1, .int (da + 1)), (0, .ref (xB X + xkey 12 0 0)), (2, .int (nI i))]) hx hb dX7_walkersInStreet_30 rfl hl (by decide) rfl (fun ls hl => ?_)
        refine lv_iinc (v := nI (i + 1)) (lv' := [(2, .int (nI (i + 1))), (1, .int (da + 1)), (0, .ref (xB X + xkey 12 0 0))]) hx hb dX7_walkersInStreet_31 hl (k := 2) rfl (nI_1 i) (by decide) rfl (fun ls hl => ?_)
        refine lv_goto (tgt := 4) hx hb dX7_walkersInStreet_34 (by decide) ?_
        refine ih_4 (i + 1) (da + 1) (by omega)  ?_ H locs ls hW (lv_sub hl [2, 1, 0] rfl)
        rw [← hsp_4]; simp [xloop, c_2, c_3]
  exact loop_4 nw 0 0 (by omega)  rfl _ _ _ hW (lv_sub hl [2, 1, 0] rfl)
set_option maxHeartbeats 4000000 in
set_option maxRecDepth 100000 in
theorem c_X7_count (l : Launch) (X : xX) (G : xG) {f sg pb pc pd pe pg ph pp pq pt pu : Nat → Int32} {L O Y : Nat → Nat → Int32} {n nh nw pm : Nat} {x : Int32} (hn : sg 7 = nI n) (hn16 : n ≤ 16) (hh : sg 8 = nI nh) (hh8 : nh ≤ 8) (hw : sg 9 = nI nw) (hw8 : nw ≤ 8) (hpm : f 3 = nI pm) {res : Int32} (hres : (Mcount n nh nw pm x (f 10) sg L O Y) = res) : XC l yX7_count cX7_count 2 (some .int) 3 65 0 0 X xsh [.ref (xB X + xkey 12 0 0), .int x] 603 603 (xval (xB X) (va_up G 12 (xMa f sg L O Y pb pc pd pe pg ph pp pq pt pu))) (xval (xB X) (va_up G 12 (xMa f sg L O Y pb pc pd pe pg ph pp pq pt pu))) (some (.int res)) := by
  refine XC.of RX7 "count" [(0, .ref (xB X + xkey 12 0 0)), (1, .int x)] (by decide) rfl rfl (Nat.le_of_ble_eq_true rfl) rfl ?_
  intro p e s m args below meth c ls hx hb hret hml hts hown hlocks hnm hK hW hl
  have hW : XR X G 12 (xMa f sg L O Y pb pc pd pe pg ph pp pq pt pu) s.heap [] := hW
  obtain ⟨Q0, hQ0⟩ : ∃ z, z = MQ below (xQ X xsh 603 (xval (xB X) (va_up G 12 (xMa f sg L O Y pb pc pd pe pg ph pp pq pt pu))) (some (.int res))) args s 0 0 (fun q => xB X ≤ q) := ⟨_, rfl⟩
  rw [← hQ0]
  refine lv_iload_n hx hb dX7_count_0 rfl (lv_at hl 1 rfl) ?_
  refine lv_iconst (v := 0) hx hb dX7_count_1 (by decide) ?_
  refine lv_iconst (v := 3) hx hb dX7_count_2 (by decide) ?_
  refine x_callS hx hb hml hown hts hK hW hl.1 (c_X7_in l X _ (v := x) (lo := 0) (hi := 3) (hres := rfl)) xw_159 xw_160 xw_5 xw_161 hdS_yX7_in ⟨Nat.le_of_ble_eq_true rfl, Nat.le_of_ble_eq_true rfl⟩ rfl (Nat.le_of_ble_eq_true rfl) ⟨Nat.le_refl _, Nat.le_refl _⟩ dX7_count_3 (fun H locs hW => ?_)
  refine lv_if_eq (tgt := 19) hx hb dX7_count_6 (by decide) (fun c_1 => ?_) (fun c_1 => ?_)
  · skip
    refine lv_iload_n hx hb dX7_count_19 rfl (lv_at hl 1 rfl) ?_
    refine lv_bipush (v := 11) hx hb dX7_count_20 (by decide) ?_
    refine lv_bipush (v := 16) hx hb dX7_count_22 (by decide) ?_
    refine x_callS hx hb hml hown hts hK hW hl.1 (c_X7_in l X _ (v := x) (lo := 11) (hi := 16) (hres := rfl)) xw_159 xw_160 xw_5 xw_161 hdS_yX7_in ⟨Nat.le_of_ble_eq_true rfl, Nat.le_of_ble_eq_true rfl⟩ rfl (Nat.le_of_ble_eq_true rfl) ⟨Nat.le_refl _, Nat.le_refl _⟩ dX7_count_24 (fun H locs hW => ?_)
    refine lv_if_eq (tgt := 40) hx hb dX7_count_27 (by decide) (fun c_2 => ?_) (fun c_2 => ?_)
    · skip
      refine lv_iload_n hx hb dX7_count_40 rfl (lv_at hl 1 rfl) ?_
      by_cases c_3 : x = 4
      · skip
        refine lv_tableIn (off := 75) (tgt := 116) hx hb dX7_count_41 (by rw [c_3]; decide) (by rw [c_3]; decide) (by rw [c_3]; decide) (by decide) ?_
        refine lv_aload_n hx hb dX7_count_116 rfl (lv_at hl 0 rfl) ?_
        refine x_callV hx hb hml hown hts hK hW hl.1 (c_X7_walkersInStreet l X G (nw := nw) (hw := (by assumption)) (hw8 := (by assumption)) (hres := rfl)) (xF_mo0).1 (xF_mo0).2.1 (by decide) rfl xw_675 xw_676 xw_677 xw_5 xw_678 hdV_yX7_walkersInStreet ⟨Nat.le_of_ble_eq_true rfl, Nat.le_of_ble_eq_true rfl⟩ rfl (Nat.le_of_ble_eq_true rfl) ⟨Nat.le_refl _, Nat.le_refl _⟩ dX7_count_117 (fun H locs hW => ?_)
        obtain rfl : Minstr nw Y = res := by (rw [← hres]) <;> (first | (unfold Mcount; rw [if_neg c_1]) | (unfold Mcount; rw [if_pos c_1, if_neg c_2]) | (unfold Mcount; rw [if_pos c_1, if_pos c_2]; simp [c_3]))
        rw [hQ0]
        exact x_iret hx hb hret hlocks rfl hW rfl dX7_count_120
      · skip
        by_cases c_4 : x = 5
        · skip
          refine lv_tableIn (off := 80) (tgt := 121) hx hb dX7_count_41 (by rw [c_4]; decide) (by rw [c_4]; decide) (by rw [c_4]; decide) (by decide) ?_
          refine lv_aload_n hx hb dX7_count_121 rfl (lv_at hl 0 rfl) ?_
          refine lv_iconst (v := 2) hx hb dX7_count_122 (by decide) ?_
          refine x_callV hx hb hml hown hts hK hW hl.1 (c_X7_lampsThat l X G (n := n) (d := 2) (hn := (by assumption)) (hn16 := (by assumption)) (hres := rfl)) (xF_mo0).1 (xF_mo0).2.1 (by decide) rfl xw_679 xw_680 xw_681 xw_5 xw_682 hdV_yX7_lampsThat ⟨Nat.le_of_ble_eq_true rfl, Nat.le_of_ble_eq_true rfl⟩ rfl (Nat.le_of_ble_eq_true rfl) ⟨Nat.le_refl _, Nat.le_refl _⟩ dX7_count_123 (fun H locs hW => ?_)
          obtain rfl : Mthat n 2 L = res := by (rw [← hres]) <;> (first | (unfold Mcount; rw [if_neg c_1]) | (unfold Mcount; rw [if_pos c_1, if_neg c_2]) | (unfold Mcount; rw [if_pos c_1, if_pos c_2]; simp [c_3, c_4]))
          rw [hQ0]
          exact x_iret hx hb hret hlocks rfl hW rfl dX7_count_126
        · skip
          by_cases c_5 : x = 6
          · skip
            refine lv_tableIn (off := 86) (tgt := 127) hx hb dX7_count_41 (by rw [c_5]; decide) (by rw [c_5]; decide) (by rw [c_5]; decide) (by decide) ?_
            refine lv_aload_n hx hb dX7_count_127 rfl (lv_at hl 0 rfl) ?_
            refine lv_iconst (v := 1) hx hb dX7_count_128 (by decide) ?_
            refine x_callV hx hb hml hown hts hK hW hl.1 (c_X7_lampsThat l X G (n := n) (d := 1) (hn := (by assumption)) (hn16 := (by assumption)) (hres := rfl)) (xF_mo0).1 (xF_mo0).2.1 (by decide) rfl xw_679 xw_680 xw_681 xw_5 xw_682 hdV_yX7_lampsThat ⟨Nat.le_of_ble_eq_true rfl, Nat.le_of_ble_eq_true rfl⟩ rfl (Nat.le_of_ble_eq_true rfl) ⟨Nat.le_refl _, Nat.le_refl _⟩ dX7_count_129 (fun H locs hW => ?_)
            obtain rfl : Mthat n 1 L = res := by (rw [← hres]) <;> (first | (unfold Mcount; rw [if_neg c_1]) | (unfold Mcount; rw [if_pos c_1, if_neg c_2]) | (unfold Mcount; rw [if_pos c_1, if_pos c_2]; simp [c_3, c_4, c_5]))
            rw [hQ0]
            exact x_iret hx hb hret hlocks rfl hW rfl dX7_count_132
          · skip
            by_cases c_6 : x = 7
            · skip
              refine lv_tableIn (off := 92) (tgt := 133) hx hb dX7_count_41 (by rw [c_6]; decide) (by rw [c_6]; decide) (by rw [c_6]; decide) (by decide) ?_
              refine lv_aload_n hx hb dX7_count_133 rfl (lv_at hl 0 rfl) ?_
              refine lv_bipush (v := 7) hx hb dX7_count_134 (by decide) ?_
              refine x_callV hx hb hml hown hts hK hW hl.1 (c_X7_sumL l X G (n := n) (w := 7) (hn := (by assumption)) (hn16 := (by assumption)) (hw := (by decide)) (hres := rfl)) (xF_mo0).1 (xF_mo0).2.1 (by decide) rfl xw_683 xw_684 xw_685 xw_5 xw_686 hdV_yX7_sumL ⟨Nat.le_of_ble_eq_true rfl, Nat.le_of_ble_eq_true rfl⟩ rfl (Nat.le_of_ble_eq_true rfl) ⟨Nat.le_refl _, Nat.le_refl _⟩ dX7_count_136 (fun H locs hW => ?_)
              obtain rfl : Msum n 7 L = res := by (rw [← hres]) <;> (first | (unfold Mcount; rw [if_neg c_1]) | (unfold Mcount; rw [if_pos c_1, if_neg c_2]) | (unfold Mcount; rw [if_pos c_1, if_pos c_2]; simp [c_3, c_4, c_5, c_6]))
              rw [hQ0]
              exact x_iret hx hb hret hlocks rfl hW rfl dX7_count_139
            · skip
              by_cases c_7 : x = 8
              · skip
                refine lv_tableIn (off := 99) (tgt := 140) hx hb dX7_count_41 (by rw [c_7]; decide) (by rw [c_7]; decide) (by rw [c_7]; decide) (by decide) ?_
                refine lv_aload_n hx hb dX7_count_140 rfl (lv_at hl 0 rfl) ?_
                refine x_callV hx hb hml hown hts hK hW hl.1 (c_X7_darkTicks l X G (nw := nw) (hw := (by assumption)) (hw8 := (by assumption)) (hres := rfl)) (xF_mo0).1 (xF_mo0).2.1 (by decide) rfl xw_687 xw_688 xw_689 xw_5 xw_690 hdV_yX7_darkTicks ⟨Nat.le_of_ble_eq_true rfl, Nat.le_of_ble_eq_true rfl⟩ rfl (Nat.le_of_ble_eq_true rfl) ⟨Nat.le_refl _, Nat.le_refl _⟩ dX7_count_141 (fun H locs hW => ?_)
                obtain rfl : Msum nw 5 Y = res := by (rw [← hres]) <;> (first | (unfold Mcount; rw [if_neg c_1]) | (unfold Mcount; rw [if_pos c_1, if_neg c_2]) | (unfold Mcount; rw [if_pos c_1, if_pos c_2]; simp [c_3, c_4, c_5, c_6, c_7]))
                rw [hQ0]
                exact x_iret hx hb hret hlocks rfl hW rfl dX7_count_144
              · skip
                by_cases c_8 : x = 9
                · skip
                  refine lv_tableIn (off := 104) (tgt := 145) hx hb dX7_count_41 (by rw [c_8]; decide) (by rw [c_8]; decide) (by rw [c_8]; decide) (by decide) ?_
                  refine lv_aload_n hx hb dX7_count_145 rfl (lv_at hl 0 rfl) ?_
                  refine x_callV hx hb hml hown hts hK hW hl.1 (c_X7_disturbedTicks l X G (nh := nh) (hh := (by assumption)) (hh8 := (by assumption)) (hres := rfl)) (xF_mo0).1 (xF_mo0).2.1 (by decide) rfl xw_691 xw_692 xw_693 xw_5 xw_694 hdV_yX7_disturbedTicks ⟨Nat.le_of_ble_eq_true rfl, Nat.le_of_ble_eq_true rfl⟩ rfl (Nat.le_of_ble_eq_true rfl) ⟨Nat.le_refl _, Nat.le_refl _⟩ dX7_count_146 (fun H locs hW => ?_)
                  obtain rfl : Msum nh 1 O = res := by (rw [← hres]) <;> (first | (unfold Mcount; rw [if_neg c_1]) | (unfold Mcount; rw [if_pos c_1, if_neg c_2]) | (unfold Mcount; rw [if_pos c_1, if_pos c_2]; simp [c_3, c_4, c_5, c_6, c_7, c_8]))
                  rw [hQ0]
                  exact x_iret hx hb hret hlocks rfl hW rfl dX7_count_149
                · skip
                  by_cases c_9 : x = 10
                  · skip
                    refine lv_tableIn (off := 109) (tgt := 150) hx hb dX7_count_41 (by rw [c_9]; decide) (by rw [c_9]; decide) (by rw [c_9]; decide) (by decide) ?_
                    refine lv_aload_n hx hb dX7_count_150 rfl (lv_at hl 0 rfl) ?_
                    refine lv_bipush (v := 8) hx hb dX7_count_151 (by decide) ?_
                    refine x_callV hx hb hml hown hts hK hW hl.1 (c_X7_sumL l X G (n := n) (w := 8) (hn := (by assumption)) (hn16 := (by assumption)) (hw := (by decide)) (hres := rfl)) (xF_mo0).1 (xF_mo0).2.1 (by decide) rfl xw_683 xw_684 xw_685 xw_5 xw_686 hdV_yX7_sumL ⟨Nat.le_of_ble_eq_true rfl, Nat.le_of_ble_eq_true rfl⟩ rfl (Nat.le_of_ble_eq_true rfl) ⟨Nat.le_refl _, Nat.le_refl _⟩ dX7_count_153 (fun H locs hW => ?_)
                    obtain rfl : Msum n 8 L = res := by (rw [← hres]) <;> (first | (unfold Mcount; rw [if_neg c_1]) | (unfold Mcount; rw [if_pos c_1, if_neg c_2]) | (unfold Mcount; rw [if_pos c_1, if_pos c_2]; simp [c_3, c_4, c_5, c_6, c_7, c_8, c_9]))
                    rw [hQ0]
                    exact x_iret hx hb hret hlocks rfl hW rfl dX7_count_156
                  · skip
                    by_cases c_10 : x = 11
                    · skip
                      refine lv_tableIn (off := 126) (tgt := 167) hx hb dX7_count_41 (by rw [c_10]; decide) (by rw [c_10]; decide) (by rw [c_10]; decide) (by decide) ?_
                      refine lv_bipush (v := (-2)) hx hb dX7_count_167 (by decide) ?_
                      obtain rfl : (-2) = res := by (rw [← hres]) <;> (first | (unfold Mcount; rw [if_neg c_1]) | (unfold Mcount; rw [if_pos c_1, if_neg c_2]) | (unfold Mcount; rw [if_pos c_1, if_pos c_2]; simp [c_3, c_4, c_5, c_6, c_7, c_8, c_9, c_10]))
                      rw [hQ0]
                      exact x_iret hx hb hret hlocks rfl hW rfl dX7_count_169
                    · skip
                      by_cases c_11 : x = 12
                      · skip
                        refine lv_tableIn (off := 126) (tgt := 167) hx hb dX7_count_41 (by rw [c_11]; decide) (by rw [c_11]; decide) (by rw [c_11]; decide) (by decide) ?_
                        refine lv_bipush (v := (-2)) hx hb dX7_count_167 (by decide) ?_
                        obtain rfl : (-2) = res := by (rw [← hres]) <;> (first | (unfold Mcount; rw [if_neg c_1]) | (unfold Mcount; rw [if_pos c_1, if_neg c_2]) | (unfold Mcount; rw [if_pos c_1, if_pos c_2]; simp [c_3, c_4, c_5, c_6, c_7, c_8, c_9, c_10, c_11]))
                        rw [hQ0]
                        exact x_iret hx hb hret hlocks rfl hW rfl dX7_count_169
                      · skip
                        by_cases c_12 : x = 13
                        · skip
                          refine lv_tableIn (off := 126) (tgt := 167) hx hb dX7_count_41 (by rw [c_12]; decide) (by rw [c_12]; decide) (by rw [c_12]; decide) (by decide) ?_
                          refine lv_bipush (v := (-2)) hx hb dX7_count_167 (by decide) ?_
                          obtain rfl : (-2) = res := by (rw [← hres]) <;> (first | (unfold Mcount; rw [if_neg c_1]) | (unfold Mcount; rw [if_pos c_1, if_neg c_2]) | (unfold Mcount; rw [if_pos c_1, if_pos c_2]; simp [c_3, c_4, c_5, c_6, c_7, c_8, c_9, c_10, c_11, c_12]))
                          rw [hQ0]
                          exact x_iret hx hb hret hlocks rfl hW rfl dX7_count_169
                        · skip
                          by_cases c_13 : x = 14
                          · skip
                            refine lv_tableIn (off := 126) (tgt := 167) hx hb dX7_count_41 (by rw [c_13]; decide) (by rw [c_13]; decide) (by rw [c_13]; decide) (by decide) ?_
                            refine lv_bipush (v := (-2)) hx hb dX7_count_167 (by decide) ?_
                            obtain rfl : (-2) = res := by (rw [← hres]) <;> (first | (unfold Mcount; rw [if_neg c_1]) | (unfold Mcount; rw [if_pos c_1, if_neg c_2]) | (unfold Mcount; rw [if_pos c_1, if_pos c_2]; simp [c_3, c_4, c_5, c_6, c_7, c_8, c_9, c_10, c_11, c_12, c_13]))
                            rw [hQ0]
                            exact x_iret hx hb hret hlocks rfl hW rfl dX7_count_169
                          · skip
                            by_cases c_14 : x = 15
                            · skip
                              refine lv_tableIn (off := 126) (tgt := 167) hx hb dX7_count_41 (by rw [c_14]; decide) (by rw [c_14]; decide) (by rw [c_14]; decide) (by decide) ?_
                              refine lv_bipush (v := (-2)) hx hb dX7_count_167 (by decide) ?_
                              obtain rfl : (-2) = res := by (rw [← hres]) <;> (first | (unfold Mcount; rw [if_neg c_1]) | (unfold Mcount; rw [if_pos c_1, if_neg c_2]) | (unfold Mcount; rw [if_pos c_1, if_pos c_2]; simp [c_3, c_4, c_5, c_6, c_7, c_8, c_9, c_10, c_11, c_12, c_13, c_14]))
                              rw [hQ0]
                              exact x_iret hx hb hret hlocks rfl hW rfl dX7_count_169
                            · skip
                              by_cases c_15 : x = 16
                              · skip
                                refine lv_tableIn (off := 126) (tgt := 167) hx hb dX7_count_41 (by rw [c_15]; decide) (by rw [c_15]; decide) (by rw [c_15]; decide) (by decide) ?_
                                refine lv_bipush (v := (-2)) hx hb dX7_count_167 (by decide) ?_
                                obtain rfl : (-2) = res := by (rw [← hres]) <;> (first | (unfold Mcount; rw [if_neg c_1]) | (unfold Mcount; rw [if_pos c_1, if_neg c_2]) | (unfold Mcount; rw [if_pos c_1, if_pos c_2]; simp [c_3, c_4, c_5, c_6, c_7, c_8, c_9, c_10, c_11, c_12, c_13, c_14, c_15]))
                                rw [hQ0]
                                exact x_iret hx hb hret hlocks rfl hW rfl dX7_count_169
                              · skip
                                by_cases c_16 : x = 17
                                · skip
                                  refine lv_tableIn (off := 116) (tgt := 157) hx hb dX7_count_41 (by rw [c_16]; decide) (by rw [c_16]; decide) (by rw [c_16]; decide) (by decide) ?_
                                  refine lv_aload_n hx hb dX7_count_157 rfl (lv_at hl 0 rfl) ?_
                                  refine r_get hx hb hts hown hK hW (C := RX7) (T := TX7) (xF_mo0) inlX7 rfl (by decide) 10 (by decide) (by decide +kernel) xw_674 rfl (x := f 10) rfl dX7_count_158 ?_
                                  obtain rfl : f 10 = res := by (rw [← hres]) <;> (first | (unfold Mcount; rw [if_neg c_1]) | (unfold Mcount; rw [if_pos c_1, if_neg c_2]) | (unfold Mcount; rw [if_pos c_1, if_pos c_2]; simp [c_3, c_4, c_5, c_6, c_7, c_8, c_9, c_10, c_11, c_12, c_13, c_14, c_15, c_16]))
                                  rw [hQ0]
                                  exact x_iret hx hb hret hlocks rfl hW rfl dX7_count_161
                                · skip
                                  by_cases c_17 : x = 18
                                  · skip
                                    refine lv_tableIn (off := 121) (tgt := 162) hx hb dX7_count_41 (by rw [c_17]; decide) (by rw [c_17]; decide) (by rw [c_17]; decide) (by decide) ?_
                                    refine lv_aload_n hx hb dX7_count_162 rfl (lv_at hl 0 rfl) ?_
                                    refine r_get hx hb hts hown hK hW (C := RX7) (T := TX7) (xF_mo0) inlX7 rfl (by decide) 3 (by decide) (by decide +kernel) xw_169 rfl (x := nI pm) hpm dX7_count_163 ?_
                                    obtain rfl : nI pm = res := by (rw [← hres]) <;> (first | (unfold Mcount; rw [if_neg c_1]) | (unfold Mcount; rw [if_pos c_1, if_neg c_2]) | (unfold Mcount; rw [if_pos c_1, if_pos c_2]; simp [c_3, c_4, c_5, c_6, c_7, c_8, c_9, c_10, c_11, c_12, c_13, c_14, c_15, c_16, c_17]))
                                    rw [hQ0]
                                    exact x_iret hx hb hret hlocks rfl hW rfl dX7_count_166
                                  · skip
                                    refine lv_tableOut (x := x) (tgt := 167) hx hb dX7_count_41 (x_tabout (x := x) (lo := 4) (hi := 18) (fun z h1 h2 => (fun h => h.elim (fun h => by rw [h]; exact x_nt c_3 (by decide)) (fun h => h.elim (fun h => by rw [h]; exact x_nt c_4 (by decide)) (fun h => h.elim (fun h => by rw [h]; exact x_nt c_5 (by decide)) (fun h => h.elim (fun h => by rw [h]; exact x_nt c_6 (by decide)) (fun h => h.elim (fun h => by rw [h]; exact x_nt c_7 (by decide)) (fun h => h.elim (fun h => by rw [h]; exact x_nt c_8 (by decide)) (fun h => h.elim (fun h => by rw [h]; exact x_nt c_9 (by decide)) (fun h => h.elim (fun h => by rw [h]; exact x_nt c_10 (by decide)) (fun h => h.elim (fun h => by rw [h]; exact x_nt c_11 (by decide)) (fun h => h.elim (fun h => by rw [h]; exact x_nt c_12 (by decide)) (fun h => h.elim (fun h => by rw [h]; exact x_nt c_13 (by decide)) (fun h => h.elim (fun h => by rw [h]; exact x_nt c_14 (by decide)) (fun h => h.elim (fun h => by rw [h]; exact x_nt c_15 (by decide)) (fun h => h.elim (fun h => by rw [h]; exact x_nt c_16 (by decide)) (fun h => by rw [h]; exact x_nt c_17 (by decide)))))))))))))))) (show z = 4 ∨ z = 5 ∨ z = 6 ∨ z = 7 ∨ z = 8 ∨ z = 9 ∨ z = 10 ∨ z = 11 ∨ z = 12 ∨ z = 13 ∨ z = 14 ∨ z = 15 ∨ z = 16 ∨ z = 17 ∨ z = 18 by omega))) (by decide) ?_
                                    refine lv_bipush (v := (-2)) hx hb dX7_count_167 (by decide) ?_
                                    obtain rfl : (-2) = res := by (rw [← hres]) <;> (first | (unfold Mcount; rw [if_neg c_1]) | (unfold Mcount; rw [if_pos c_1, if_neg c_2]) | (unfold Mcount; rw [if_pos c_1, if_pos c_2]; simp [c_3, c_4, c_5, c_6, c_7, c_8, c_9, c_10, c_11, c_12, c_13, c_14, c_15, c_16, c_17]))
                                    rw [hQ0]
                                    exact x_iret hx hb hret hlocks rfl hW rfl dX7_count_169
    · skip
      have hx8 := xfin11 c_2
      refine lv_aload_n hx hb dX7_count_30 rfl (lv_at hl 0 rfl) ?_
      refine r_getr (C := RX7) (T := TX7) hx hb hts hown hK hW (xF_mo0).1 (xF_mo0).2.1 inlX7 rfl (by decide) 0 (by decide) (show xro (xkey 12 0 0) 0 = some (xkey 12 1 0) from by decide +kernel) xw_79 rfl dX7_count_31 ?_
      refine lv_iload_n hx hb dX7_count_34 rfl (lv_at hl 1 rfl) ?_
      refine lv_bipush (v := 11) hx hb dX7_count_35 (by decide) ?_
      refine lv_isub hx hb dX7_count_37 ?_
      refine r_iald hx hb hK hW (N := 440) (xF_mo1) ((x - 11).toNatClampNeg) (by omega) (by decide) hx8.2 (xr_model 1 (by decide) (by decide) ((x - 11).toNatClampNeg)) (x := sg ((x - 11).toNatClampNeg)) (xat_s (sg := sg) (L := L) (O := O) (Y := Y) (k := (x - 11).toNatClampNeg) (by omega)) dX7_count_38 ?_
      obtain rfl : sg ((x - 11).toNatClampNeg) = res := by (rw [← hres]) <;> (first | (unfold Mcount; rw [if_neg c_1]) | (unfold Mcount; rw [if_pos c_1, if_neg c_2]) | (unfold Mcount; rw [if_pos c_1, if_pos c_2]; simp []))
      rw [hQ0]
      exact x_iret hx hb hret hlocks rfl hW rfl dX7_count_39
  · skip
    have hx9 := xin03 c_1
    refine lv_aload_n hx hb dX7_count_9 rfl (lv_at hl 0 rfl) ?_
    refine r_getr (C := RX7) (T := TX7) hx hb hts hown hK hW (xF_mo0).1 (xF_mo0).2.1 inlX7 rfl (by decide) 0 (by decide) (show xro (xkey 12 0 0) 0 = some (xkey 12 1 0) from by decide +kernel) xw_79 rfl dX7_count_10 ?_
    refine lv_bipush (v := nI 6) hx hb dX7_count_13 (by decide) ?_
    refine lv_iload_n hx hb dX7_count_15 rfl (lv_at hl 1 rfl) ?_
    refine lv_eqi (y := nI x.toNatClampNeg) hx9.2 ?_
    refine lv_iadd hx hb dX7_count_16 ?_
    refine lv_eqi (y := nI (6 + x.toNatClampNeg)) (nI_add 6 x.toNatClampNeg) ?_
    refine r_iald hx hb hK hW (N := 440) (xF_mo1) (6 + x.toNatClampNeg) (by omega) (by decide) rfl (xr_model 1 (by decide) (by decide) (6 + x.toNatClampNeg)) (x := sg (6 + x.toNatClampNeg)) (xat_s (sg := sg) (L := L) (O := O) (Y := Y) (k := 6 + x.toNatClampNeg) (by omega)) dX7_count_17 ?_
    obtain rfl : sg (6 + x.toNatClampNeg) = res := by (rw [← hres]) <;> (first | (unfold Mcount; rw [if_neg c_1]) | (unfold Mcount; rw [if_pos c_1, if_neg c_2]) | (unfold Mcount; rw [if_pos c_1, if_pos c_2]; simp []))
    rw [hQ0]
    exact x_iret hx hb hret hlocks rfl hW rfl dX7_count_18
set_option maxHeartbeats 4000000 in
set_option maxRecDepth 100000 in
theorem c_X7_counted (l : Launch) (X : xX) (G : xG) {f sg pb pc pd pe pg ph pp pq pt pu : Nat → Int32} {L O Y : Nat → Nat → Int32} {n nh nw : Nat} {x : Int32} (hn : sg 7 = nI n) (hn16 : n ≤ 16) (hh : sg 8 = nI nh) (hh8 : nh ≤ 8) (hw : sg 9 = nI nw) (hw8 : nw ≤ 8) {res : Int32} (hres : (Mcounted n nh nw x L O Y) = res) : XC l yX7_counted cX7_counted 2 (some .int) 2 45 0 0 X xsh [.ref (xB X + xkey 12 0 0), .int x] 603 603 (xval (xB X) (va_up G 12 (xMa f sg L O Y pb pc pd pe pg ph pp pq pt pu))) (xval (xB X) (va_up G 12 (xMa f sg L O Y pb pc pd pe pg ph pp pq pt pu))) (some (.int res)) := by
  refine XC.of RX7 "counted" [(0, .ref (xB X + xkey 12 0 0)), (1, .int x)] (by decide) rfl rfl (Nat.le_of_ble_eq_true rfl) rfl ?_
  intro p e s m args below meth c ls hx hb hret hml hts hown hlocks hnm hK hW hl
  have hW : XR X G 12 (xMa f sg L O Y pb pc pd pe pg ph pp pq pt pu) s.heap [] := hW
  obtain ⟨Q0, hQ0⟩ : ∃ z, z = MQ below (xQ X xsh 603 (xval (xB X) (va_up G 12 (xMa f sg L O Y pb pc pd pe pg ph pp pq pt pu))) (some (.int res))) args s 0 0 (fun q => xB X ≤ q) := ⟨_, rfl⟩
  rw [← hQ0]
  refine lv_iload_n hx hb dX7_counted_0 rfl (lv_at hl 1 rfl) ?_
  refine lv_if_ne (tgt := 11) hx hb dX7_counted_1 (by decide) (fun c_1 => ?_) (fun c_1 => ?_)
  · skip
    refine lv_iload_n hx hb dX7_counted_11 rfl (lv_at hl 1 rfl) ?_
    refine lv_iconst (v := 1) hx hb dX7_counted_12 (by decide) ?_
    refine lv_icmp_ne (tgt := 25) hx hb dX7_counted_13 (by decide) (fun c_2 => ?_) (fun c_2 => ?_)
    · skip
      refine lv_iload_n hx hb dX7_counted_25 rfl (lv_at hl 1 rfl) ?_
      refine lv_iconst (v := 2) hx hb dX7_counted_26 (by decide) ?_
      refine lv_icmp_ne (tgt := 37) hx hb dX7_counted_27 (by decide) (fun c_3 => ?_) (fun c_3 => ?_)
      · skip
        refine lv_aload_n hx hb dX7_counted_37 rfl (lv_at hl 0 rfl) ?_
        refine lv_bipush (v := 8) hx hb dX7_counted_38 (by decide) ?_
        refine x_callV hx hb hml hown hts hK hW hl.1 (c_X7_sumL l X G (n := n) (w := 8) (hn := (by assumption)) (hn16 := (by assumption)) (hw := (by decide)) (hres := rfl)) (xF_mo0).1 (xF_mo0).2.1 (by decide) rfl xw_683 xw_684 xw_685 xw_5 xw_686 hdV_yX7_sumL ⟨Nat.le_of_ble_eq_true rfl, Nat.le_of_ble_eq_true rfl⟩ rfl (Nat.le_of_ble_eq_true rfl) ⟨Nat.le_refl _, Nat.le_refl _⟩ dX7_counted_40 (fun H locs hW => ?_)
        obtain rfl : Msum n 8 L = res := by (rw [← hres]) <;> (simp [Mcounted, c_1, c_2, c_3])
        rw [hQ0]
        exact x_iret hx hb hret hlocks rfl hW rfl dX7_counted_43
      · skip
        refine lv_aload_n hx hb dX7_counted_30 rfl (lv_at hl 0 rfl) ?_
        refine x_callV hx hb hml hown hts hK hW hl.1 (c_X7_disturbedTicks l X G (nh := nh) (hh := (by assumption)) (hh8 := (by assumption)) (hres := rfl)) (xF_mo0).1 (xF_mo0).2.1 (by decide) rfl xw_691 xw_692 xw_693 xw_5 xw_694 hdV_yX7_disturbedTicks ⟨Nat.le_of_ble_eq_true rfl, Nat.le_of_ble_eq_true rfl⟩ rfl (Nat.le_of_ble_eq_true rfl) ⟨Nat.le_refl _, Nat.le_refl _⟩ dX7_counted_31 (fun H locs hW => ?_)
        refine lv_goto (tgt := 43) hx hb dX7_counted_34 (by decide) ?_
        obtain rfl : Msum nh 1 O = res := by (rw [← hres]) <;> (simp [Mcounted, c_1, c_2, c_3])
        rw [hQ0]
        exact x_iret hx hb hret hlocks rfl hW rfl dX7_counted_43
    · skip
      refine lv_aload_n hx hb dX7_counted_16 rfl (lv_at hl 0 rfl) ?_
      refine lv_bipush (v := 7) hx hb dX7_counted_17 (by decide) ?_
      refine x_callV hx hb hml hown hts hK hW hl.1 (c_X7_sumL l X G (n := n) (w := 7) (hn := (by assumption)) (hn16 := (by assumption)) (hw := (by decide)) (hres := rfl)) (xF_mo0).1 (xF_mo0).2.1 (by decide) rfl xw_683 xw_684 xw_685 xw_5 xw_686 hdV_yX7_sumL ⟨Nat.le_of_ble_eq_true rfl, Nat.le_of_ble_eq_true rfl⟩ rfl (Nat.le_of_ble_eq_true rfl) ⟨Nat.le_refl _, Nat.le_refl _⟩ dX7_counted_19 (fun H locs hW => ?_)
      refine lv_goto (tgt := 43) hx hb dX7_counted_22 (by decide) ?_
      obtain rfl : Msum n 7 L = res := by (rw [← hres]) <;> (simp [Mcounted, c_1, c_2])
      rw [hQ0]
      exact x_iret hx hb hret hlocks rfl hW rfl dX7_counted_43
  · skip
    refine lv_aload_n hx hb dX7_counted_4 rfl (lv_at hl 0 rfl) ?_
    refine x_callV hx hb hml hown hts hK hW hl.1 (c_X7_darkTicks l X G (nw := nw) (hw := (by assumption)) (hw8 := (by assumption)) (hres := rfl)) (xF_mo0).1 (xF_mo0).2.1 (by decide) rfl xw_687 xw_688 xw_689 xw_5 xw_690 hdV_yX7_darkTicks ⟨Nat.le_of_ble_eq_true rfl, Nat.le_of_ble_eq_true rfl⟩ rfl (Nat.le_of_ble_eq_true rfl) ⟨Nat.le_refl _, Nat.le_refl _⟩ dX7_counted_5 (fun H locs hW => ?_)
    refine lv_goto (tgt := 43) hx hb dX7_counted_8 (by decide) ?_
    obtain rfl : Msum nw 5 Y = res := by (rw [← hres]) <;> (simp [Mcounted, c_1])
    rw [hQ0]
    exact x_iret hx hb hret hlocks rfl hW rfl dX7_counted_43
