/-! ===== a street's methods, second part: changes by order, ticks, copies ===== -/
def xtest {α : Type} (b : Int32) (A B : α) : α := if b = 0 then A else B
def FsetR (x v : Int32) (sg : Nat → Int32) : Int32 := if Fin3 x 0 5 = 0 then -2 else if Fin3 v (xf1 x.toNatClampNeg) (xf2 x.toNatClampNeg) = 0 then -2 else sg x.toNatClampNeg
def FsetS (x v : Int32) (sg : Nat → Int32) : Nat → Int32 := if Fin3 x 0 5 = 0 then sg else if Fin3 v (xf1 x.toNatClampNeg) (xf2 x.toNatClampNeg) = 0 then sg else va_up sg x.toNatClampNeg v
def FmendR (n : Nat) (x h : Int32) (L : Nat → Nat → Int32) : Int32 := if Fhas n x = 0 then -1 else if Fin3 h 0 2 = 0 then -2 else L x.toNatClampNeg 3
def LMend (n : Nat) (x h : Int32) (L : Nat → Nat → Int32) : Nat → Nat → Int32 := if Fhas n x = 0 then L else if Fin3 h 0 2 = 0 then L else va_up L x.toNatClampNeg (Fbecomes h (L x.toNatClampNeg))
def FcoughR (n : Nat) (sg : Nat → Int32) (x : Int32) (L : Nat → Nat → Int32) : Int32 := if Fhas n x = 0 then -1 else if L x.toNatClampNeg 3 = 2 then -5 else (Fspread n sg x.toNatClampNeg 0 (LForget n L)).2
def LCough (n : Nat) (sg : Nat → Int32) (x : Int32) (L : Nat → Nat → Int32) : Nat → Nat → Int32 := if Fhas n x = 0 then L else if L x.toNatClampNeg 3 = 2 then L else (Fspread n sg x.toNatClampNeg 0 (LForget n L)).1
/-- a new thing's number: A where x or y is out of range, C where there is room, B where there isn't -/
def Fnew {α : Type} (x y lo hi : Int32) (n : Nat) (most : Int32) (A B C : α) : α := if Fin3 x 0 99 = 0 then A else if Fin3 y lo hi = 0 then A else if nI n < most then C else B
def FhouseR (x : Int32) (nh : Nat) : Int32 := if Fin3 x 0 99 = 0 then -2 else if nI nh < 8 then nI nh else -4
def FhouseF (x : Int32) (nh : Nat) (f : Nat → Int32) : Nat → Int32 := if Fin3 x 0 99 = 0 then f else if nI nh < 8 then va_up f 5 (nI nh + 1) else f
def OHouse (x : Int32) (nh : Nat) (O : Nat → Nat → Int32) : Nat → Nat → Int32 := if Fin3 x 0 99 = 0 then O else if nI nh < 8 then va_up O nh (va_up (va_up (O nh) 0 x) 1 0) else O
def Fwalker {α : Type} (x y : Int32) (nw : Nat) (A B C : α) : α := if Fin3 x 0 99 = 0 then A else if Fin3 y 1 4 = 0 then A else if nI nw < 8 then C else B
def Fat (n : Nat) (x : Int32) (L : Nat → Nat → Int32) : Int32 := xfind (fun i => if L i 0 = x then 1 else 0) n 0
def Flamp {α : Type} (x y : Int32) (n : Nat) (L : Nat → Nat → Int32) (A B C D : α) : α := if Fin3 x 0 99 = 0 then A else if Fin3 y 1 30 = 0 then A else if nI n < 16 then (if Fat n x L = 0 then D else C) else B
def Fgoal {α : Type} (nw : Nat) (x a b : Int32) (A B C : α) : α := if Fhas nw x = 0 then A else if Fin3 a 0 99 = 0 then B else if Fin3 b 0 20 = 0 then B else C
theorem xge8 {n : Nat} {N : Int32} (k : Nat) (hN : N = nI k) (hk : k < 2 ^ 31) (hn : n < 2 ^ 31) (c : nI n < N) : n < k := xlt_lit k hN hk hn c
theorem x11 (x : Int32) : x + 1 - 1 = x := Int32.add_sub_cancel x 1
abbrev xS6 : Type := (Nat → Int32) × (Nat → Nat → Int32) × (Nat → Nat → Int32) × (Nat → Nat → Int32) × (Nat → Nat → Int32) × (Nat → Nat → Int32)
/-- one tick: header, lamps, houses, walkers, steps, pauses -/
def Ftick (n nh nw : Nat) (sg : Nat → Int32) (q : xS6) : xS6 :=
  (va_up q.1 7 (q.1 7 + 1),
   (Fdark n nw (LUse n (LFade n (sg 3) (LSee n nw sg (FMove nw q.2.2.2.1 q.2.2.2.2.1 q.2.2.2.2.2).1 (LWaited n sg (LForget n q.2.1))))) (FMove nw q.2.2.2.1 q.2.2.2.2.1 q.2.2.2.2.2).1).1,
   ODist n nh (Fdark n nw (LUse n (LFade n (sg 3) (LSee n nw sg (FMove nw q.2.2.2.1 q.2.2.2.2.1 q.2.2.2.2.2).1 (LWaited n sg (LForget n q.2.1))))) (FMove nw q.2.2.2.1 q.2.2.2.2.1 q.2.2.2.2.2).1).1 q.2.2.1,
   (Fdark n nw (LUse n (LFade n (sg 3) (LSee n nw sg (FMove nw q.2.2.2.1 q.2.2.2.2.1 q.2.2.2.2.2).1 (LWaited n sg (LForget n q.2.1))))) (FMove nw q.2.2.2.1 q.2.2.2.2.1 q.2.2.2.2.2).1).2,
   (FMove nw q.2.2.2.1 q.2.2.2.2.1 q.2.2.2.2.2).2.1, (FMove nw q.2.2.2.1 q.2.2.2.2.1 q.2.2.2.2.2).2.2)
def Fticks (n nh nw : Nat) (sg : Nat → Int32) (k : Nat) (q : xS6) : xS6 := xloop (fun _ z => Ftick n nh nw sg z) k 0 q
def Fpass (n nh nw : Nat) (sg : Nat → Int32) (x : Int32) (q : xS6) : xS6 := if Fin3 x 1 200 = 0 then q else Fticks n nh nw sg x.toNatClampNeg q
def FpassR (n nh nw : Nat) (sg : Nat → Int32) (x : Int32) (q : xS6) : Int32 := if Fin3 x 1 200 = 0 then -2 else (Fticks n nh nw sg x.toNatClampNeg q).1 7
def Fcopy (a ℓ : Nat → Int32) : Nat → Int32 := va_up (va_up (va_up (va_up (va_up (va_up (va_up (va_up (va_up (va_up (va_up ℓ 0 (a 0)) 1 (a 1)) 2 (a 2)) 3 (a 3)) 4 (a 4)) 5 (a 5)) 6 (a 6)) 7 (a 7)) 8 (a 8)) 9 (a 9)) 10 (a 10)
def FcopyW (a ω : Nat → Int32) : Nat → Int32 := va_up (va_up (va_up (va_up (va_up (va_up (va_up ω 2 (a 2)) 3 (a 3)) 4 (a 4)) 5 (a 5)) 6 (a 6)) 7 (a 7)) 8 (a 8)
def Fcpy6 (a b : Nat → Int32) : Nat → Int32 := va_cpy a b 0 0 6
def LCopy (n : Nat) (A L : Nat → Nat → Int32) : Nat → Nat → Int32 := xloop (fun i M => va_up M i (Fcopy (A i) (M i))) n 0 L
def OCopy (nh : Nat) (A O : Nat → Nat → Int32) : Nat → Nat → Int32 := xloop (fun i M => va_up M i (va_up (va_up (M i) 0 (A i 0)) 1 (A i 1))) nh 0 O
def YCopy (nw : Nat) (A Y : Nat → Nat → Int32) : Nat → Nat → Int32 := xloop (fun i M => va_up M i (FcopyW (A i) (M i))) nw 0 Y
def PCopy (nw : Nat) (A P : Nat → Nat → Int32) : Nat → Nat → Int32 := xloop (fun i M => va_up M i (Fcpy6 (A i) (M i))) nw 0 P
def FheadC (n nh nw : Nat) (t : Int32) (f : Nat → Int32) : Nat → Int32 := va_up (va_up (va_up (va_up f 4 (nI n)) 5 (nI nh)) 6 (nI nw)) 7 t
def Fapart (n : Nat) (x : Int32) (L : Nat → Nat → Int32) : Int32 := xfind (fun i => xfind (fun j => if Fdist (L i) (L j 0) = x then 1 else 0) i 0) n 0
def FtellH (n : Nat) (L : Nat → Nat → Int32) (u : Nat → Int32) (x : Int32) : Int32 := if x = 0 then u 0 else if x = 1 then (if Fdist2 n (u 0) L = 0 then 0 else 1) else if x = 2 then u 1 else -2
def FtellW (n : Nat) (L : Nat → Nat → Int32) (ω γ : Nat → Int32) (x : Int32) : Int32 := if x = 0 then ω 3 else if x = 1 then ω 4 else if x = 2 then (if ω 5 = 0 then 0 else 1) else if x = 3 then (if 0 < ω 2 then γ 0 else -6) else if x = 4 then ω 2 else if x = 5 then ω 6 else if x = 6 then ω 7 else if x = 7 then (if ω 5 = 0 then (if Flit n (ω 3) L = 0 then 0 else 1) else 0) else if x = 8 then ω 8 else -2
def Ftotal (n nh nw : Nat) (L O Y : Nat → Nat → Int32) (x : Int32) : Int32 := if x = 0 then Fsum nw 7 Y else if x = 1 then Fsum n 7 L else if x = 2 then Fsum nh 1 O else Fsum n 8 L
theorem xloop3 {α β γ : Type} (g : Nat → α → α) (h : Nat → β → β) (w : Nat → γ → γ) : ∀ (k i : Nat) (a : α) (b : β) (c : γ), xloop (fun i (q : α × β × γ) => (g i q.1, h i q.2.1, w i q.2.2)) k i (a, b, c) = (xloop g k i a, xloop h k i b, xloop w k i c)
  | 0, _, _, _, _ => rfl
  | k + 1, i, a, b, c => by simp only [xloop]; exact xloop3 g h w k (i + 1) _ _ _
theorem xcopy3a {n : Nat} {A B C Y P Q Ya Pa Qa : Nat → Nat → Int32} (h : (Ya, Pa, Qa) = xloop (fun i (q : (Nat → Nat → Int32) × (Nat → Nat → Int32) × (Nat → Nat → Int32)) => (va_up q.1 i (FcopyW (A i) (q.1 i)), va_up q.2.1 i (Fcpy6 (B i) (q.2.1 i)), va_up q.2.2 i (Fcpy6 (C i) (q.2.2 i)))) n 0 (Y, P, Q)) : Ya = YCopy n A Y ∧ Pa = PCopy n B P ∧ Qa = PCopy n C Q := by
  rw [xloop3 (fun i M => va_up M i (FcopyW (A i) (M i))) (fun i M => va_up M i (Fcpy6 (B i) (M i))) (fun i M => va_up M i (Fcpy6 (C i) (M i)))] at h
  simp only [Prod.mk.injEq] at h
  exact h
theorem hdV_yX2_copyFrom : yX2_copyFrom.cls = RX2 ∧ yX2_copyFrom.cls ≠ "java/lang/invoke/MethodHandle" ∧ yX2_copyFrom.cls ≠ "java/lang/invoke/VarHandle" ∧ (parseMethodDescriptor yX2_copyFrom.desc).map (fun d => d.parameters.length) = some 1 := by decide +kernel
theorem hdV_yX1_copyFrom : yX1_copyFrom.cls = RX1 ∧ yX1_copyFrom.cls ≠ "java/lang/invoke/MethodHandle" ∧ yX1_copyFrom.cls ≠ "java/lang/invoke/VarHandle" ∧ (parseMethodDescriptor yX1_copyFrom.desc).map (fun d => d.parameters.length) = some 1 := by decide +kernel
theorem hdV_yX5_copyFrom : yX5_copyFrom.cls = RX5 ∧ yX5_copyFrom.cls ≠ "java/lang/invoke/MethodHandle" ∧ yX5_copyFrom.cls ≠ "java/lang/invoke/VarHandle" ∧ (parseMethodDescriptor yX5_copyFrom.desc).map (fun d => d.parameters.length) = some 1 := by decide +kernel
theorem hdV_yX4_changeSetting : yX4_changeSetting.cls = RX4 ∧ yX4_changeSetting.cls ≠ "java/lang/invoke/MethodHandle" ∧ yX4_changeSetting.cls ≠ "java/lang/invoke/VarHandle" ∧ (parseMethodDescriptor yX4_changeSetting.desc).map (fun d => d.parameters.length) = some 2 := by decide +kernel
theorem hdV_yX4_mendLamp : yX4_mendLamp.cls = RX4 ∧ yX4_mendLamp.cls ≠ "java/lang/invoke/MethodHandle" ∧ yX4_mendLamp.cls ≠ "java/lang/invoke/VarHandle" ∧ (parseMethodDescriptor yX4_mendLamp.desc).map (fun d => d.parameters.length) = some 2 := by decide +kernel
theorem hdV_yX4_coughByOrder : yX4_coughByOrder.cls = RX4 ∧ yX4_coughByOrder.cls ≠ "java/lang/invoke/MethodHandle" ∧ yX4_coughByOrder.cls ≠ "java/lang/invoke/VarHandle" ∧ (parseMethodDescriptor yX4_coughByOrder.desc).map (fun d => d.parameters.length) = some 1 := by decide +kernel
theorem hdV_yX4_addHouse : yX4_addHouse.cls = RX4 ∧ yX4_addHouse.cls ≠ "java/lang/invoke/MethodHandle" ∧ yX4_addHouse.cls ≠ "java/lang/invoke/VarHandle" ∧ (parseMethodDescriptor yX4_addHouse.desc).map (fun d => d.parameters.length) = some 1 := by decide +kernel
theorem hdV_yX4_addWalker : yX4_addWalker.cls = RX4 ∧ yX4_addWalker.cls ≠ "java/lang/invoke/MethodHandle" ∧ yX4_addWalker.cls ≠ "java/lang/invoke/VarHandle" ∧ (parseMethodDescriptor yX4_addWalker.desc).map (fun d => d.parameters.length) = some 2 := by decide +kernel
theorem hdV_yX4_addLamp : yX4_addLamp.cls = RX4 ∧ yX4_addLamp.cls ≠ "java/lang/invoke/MethodHandle" ∧ yX4_addLamp.cls ≠ "java/lang/invoke/VarHandle" ∧ (parseMethodDescriptor yX4_addLamp.desc).map (fun d => d.parameters.length) = some 2 := by decide +kernel
theorem hdV_yX4_giveGoal : yX4_giveGoal.cls = RX4 ∧ yX4_giveGoal.cls ≠ "java/lang/invoke/MethodHandle" ∧ yX4_giveGoal.cls ≠ "java/lang/invoke/VarHandle" ∧ (parseMethodDescriptor yX4_giveGoal.desc).map (fun d => d.parameters.length) = some 3 := by decide +kernel
theorem hdV_yX4_hasLampsApart : yX4_hasLampsApart.cls = RX4 ∧ yX4_hasLampsApart.cls ≠ "java/lang/invoke/MethodHandle" ∧ yX4_hasLampsApart.cls ≠ "java/lang/invoke/VarHandle" ∧ (parseMethodDescriptor yX4_hasLampsApart.desc).map (fun d => d.parameters.length) = some 1 := by decide +kernel
theorem hdV_yX4_tellOfHouse : yX4_tellOfHouse.cls = RX4 ∧ yX4_tellOfHouse.cls ≠ "java/lang/invoke/MethodHandle" ∧ yX4_tellOfHouse.cls ≠ "java/lang/invoke/VarHandle" ∧ (parseMethodDescriptor yX4_tellOfHouse.desc).map (fun d => d.parameters.length) = some 2 := by decide +kernel
theorem hdV_yX4_tellOfWalker : yX4_tellOfWalker.cls = RX4 ∧ yX4_tellOfWalker.cls ≠ "java/lang/invoke/MethodHandle" ∧ yX4_tellOfWalker.cls ≠ "java/lang/invoke/VarHandle" ∧ (parseMethodDescriptor yX4_tellOfWalker.desc).map (fun d => d.parameters.length) = some 2 := by decide +kernel
theorem hdV_yX4_total : yX4_total.cls = RX4 ∧ yX4_total.cls ≠ "java/lang/invoke/MethodHandle" ∧ yX4_total.cls ≠ "java/lang/invoke/VarHandle" ∧ (parseMethodDescriptor yX4_total.desc).map (fun d => d.parameters.length) = some 1 := by decide +kernel
theorem hdV_yX4_letPass : yX4_letPass.cls = RX4 ∧ yX4_letPass.cls ≠ "java/lang/invoke/MethodHandle" ∧ yX4_letPass.cls ≠ "java/lang/invoke/VarHandle" ∧ (parseMethodDescriptor yX4_letPass.desc).map (fun d => d.parameters.length) = some 1 := by decide +kernel
theorem hdV_yX4_become : yX4_become.cls = RX4 ∧ yX4_become.cls ≠ "java/lang/invoke/MethodHandle" ∧ yX4_become.cls ≠ "java/lang/invoke/VarHandle" ∧ (parseMethodDescriptor yX4_become.desc).map (fun d => d.parameters.length) = some 1 := by decide +kernel
set_option maxHeartbeats 4000000 in
set_option maxRecDepth 100000 in
theorem c_X2_copyFrom (l : Launch) (X : xX) (G : xG) {r i : Nat} {f sg : Nat → Int32} {L O Y P Q : Nat → Nat → Int32} {ℓ : Nat → Int32} {r2 : Nat} (hr : r < 11) (hi : i < 16) (hr2 : r2 < 11) (hne : r2 ≠ r) {ℓ' : Nat → Int32} (ho0 : (Fcopy (G r2 2 i) ℓ) = ℓ') : XC l yX2_copyFrom cX2_copyFrom 2 none 0 0 0 0 X xsh [.ref (xB X + xkey r 2 i), .ref (xB X + xkey r2 2 i)] 603 603 (xval (xB X) (va_up G r (xSt f sg (va_up L i ℓ) O Y P Q))) (xval (xB X) (va_up G r (xSt f sg (va_up L i ℓ') O Y P Q))) none := by
  refine XC.of RX2 "copyFrom" [(0, .ref (xB X + xkey r 2 i)), (1, .ref (xB X + xkey r2 2 i))] (by decide) rfl rfl (Nat.le_of_ble_eq_true rfl) rfl ?_
  intro p e s m args below meth c ls hx hb hret hml hts hown hlocks hnm hK hW hl
  have hW : XR X G r (xSt f sg (va_up L i ℓ) O Y P Q) s.heap [] := hW
  obtain ⟨Q0, hQ0⟩ : ∃ z, z = MQ below (xQ X xsh 603 (xval (xB X) (va_up G r (xSt f sg (va_up L i ℓ') O Y P Q))) none) args s 0 0 (fun q => xB X ≤ q) := ⟨_, rfl⟩
  rw [← hQ0]
  refine lv_aload_n hx hb dX2_copyFrom_0 rfl (lv_at hl 0 rfl) ?_
  refine lv_aload_n hx hb dX2_copyFrom_1 rfl (lv_at hl 1 rfl) ?_
  refine r_geto hx hb hts hown hK hne hW (C := RX2) (T := TX2) (xF_lamp r2 hr2 i hi) inlX2 rfl (by decide) 0 (by decide) (xr_lamp r2 hr2 i hi 0 (by decide)) xw_111 rfl (x := G r2 2 i 0) rfl dX2_copyFrom_2 ?_
  refine r_put hx hb hts hown hK hW (C := RX2) (T := TX2) (xF_lamp r hr i hi) inlX2 tyX2 tyX2_ok nmX2 rfl (by decide) 0 (by decide) (xr_lamp r hr i hi 0 (by decide)) xw_111 rfl rfl rfl rfl xSt2f dX2_copyFrom_5 (fun H locs hW => ?_)
  refine lv_aload_n hx hb dX2_copyFrom_8 rfl (lv_at hl 0 rfl) ?_
  refine lv_aload_n hx hb dX2_copyFrom_9 rfl (lv_at hl 1 rfl) ?_
  refine r_geto hx hb hts hown hK hne hW (C := RX2) (T := TX2) (xF_lamp r2 hr2 i hi) inlX2 rfl (by decide) 1 (by decide) (xr_lamp r2 hr2 i hi 1 (by decide)) xw_112 rfl (x := G r2 2 i 1) rfl dX2_copyFrom_10 ?_
  refine r_put hx hb hts hown hK hW (C := RX2) (T := TX2) (xF_lamp r hr i hi) inlX2 tyX2 tyX2_ok nmX2 rfl (by decide) 1 (by decide) (xr_lamp r hr i hi 1 (by decide)) xw_112 rfl rfl rfl rfl xSt2f dX2_copyFrom_13 (fun H locs hW => ?_)
  refine lv_aload_n hx hb dX2_copyFrom_16 rfl (lv_at hl 0 rfl) ?_
  refine lv_aload_n hx hb dX2_copyFrom_17 rfl (lv_at hl 1 rfl) ?_
  refine r_geto hx hb hts hown hK hne hW (C := RX2) (T := TX2) (xF_lamp r2 hr2 i hi) inlX2 rfl (by decide) 2 (by decide) (xr_lamp r2 hr2 i hi 2 (by decide)) xw_113 rfl (x := G r2 2 i 2) rfl dX2_copyFrom_18 ?_
  refine r_put hx hb hts hown hK hW (C := RX2) (T := TX2) (xF_lamp r hr i hi) inlX2 tyX2 tyX2_ok nmX2 rfl (by decide) 2 (by decide) (xr_lamp r hr i hi 2 (by decide)) xw_113 rfl rfl rfl rfl xSt2f dX2_copyFrom_21 (fun H locs hW => ?_)
  refine lv_aload_n hx hb dX2_copyFrom_24 rfl (lv_at hl 0 rfl) ?_
  refine lv_aload_n hx hb dX2_copyFrom_25 rfl (lv_at hl 1 rfl) ?_
  refine r_geto hx hb hts hown hK hne hW (C := RX2) (T := TX2) (xF_lamp r2 hr2 i hi) inlX2 rfl (by decide) 3 (by decide) (xr_lamp r2 hr2 i hi 3 (by decide)) xw_114 rfl (x := G r2 2 i 3) rfl dX2_copyFrom_26 ?_
  refine r_put hx hb hts hown hK hW (C := RX2) (T := TX2) (xF_lamp r hr i hi) inlX2 tyX2 tyX2_ok nmX2 rfl (by decide) 3 (by decide) (xr_lamp r hr i hi 3 (by decide)) xw_114 rfl rfl rfl rfl xSt2f dX2_copyFrom_29 (fun H locs hW => ?_)
  refine lv_aload_n hx hb dX2_copyFrom_32 rfl (lv_at hl 0 rfl) ?_
  refine lv_aload_n hx hb dX2_copyFrom_33 rfl (lv_at hl 1 rfl) ?_
  refine r_geto hx hb hts hown hK hne hW (C := RX2) (T := TX2) (xF_lamp r2 hr2 i hi) inlX2 rfl (by decide) 4 (by decide) (xr_lamp r2 hr2 i hi 4 (by decide)) xw_115 rfl (x := G r2 2 i 4) rfl dX2_copyFrom_34 ?_
  refine r_put hx hb hts hown hK hW (C := RX2) (T := TX2) (xF_lamp r hr i hi) inlX2 tyX2 tyX2_ok nmX2 rfl (by decide) 4 (by decide) (xr_lamp r hr i hi 4 (by decide)) xw_115 rfl rfl rfl rfl xSt2f dX2_copyFrom_37 (fun H locs hW => ?_)
  refine lv_aload_n hx hb dX2_copyFrom_40 rfl (lv_at hl 0 rfl) ?_
  refine lv_aload_n hx hb dX2_copyFrom_41 rfl (lv_at hl 1 rfl) ?_
  refine r_geto hx hb hts hown hK hne hW (C := RX2) (T := TX2) (xF_lamp r2 hr2 i hi) inlX2 rfl (by decide) 5 (by decide) (xr_lamp r2 hr2 i hi 5 (by decide)) xw_116 rfl (x := G r2 2 i 5) rfl dX2_copyFrom_42 ?_
  refine r_put hx hb hts hown hK hW (C := RX2) (T := TX2) (xF_lamp r hr i hi) inlX2 tyX2 tyX2_ok nmX2 rfl (by decide) 5 (by decide) (xr_lamp r hr i hi 5 (by decide)) xw_116 rfl rfl rfl rfl xSt2f dX2_copyFrom_45 (fun H locs hW => ?_)
  refine lv_aload_n hx hb dX2_copyFrom_48 rfl (lv_at hl 0 rfl) ?_
  refine lv_aload_n hx hb dX2_copyFrom_49 rfl (lv_at hl 1 rfl) ?_
  refine r_geto hx hb hts hown hK hne hW (C := RX2) (T := TX2) (xF_lamp r2 hr2 i hi) inlX2 rfl (by decide) 6 (by decide) (xr_lamp r2 hr2 i hi 6 (by decide)) xw_117 rfl (x := G r2 2 i 6) rfl dX2_copyFrom_50 ?_
  refine r_put hx hb hts hown hK hW (C := RX2) (T := TX2) (xF_lamp r hr i hi) inlX2 tyX2 tyX2_ok nmX2 rfl (by decide) 6 (by decide) (xr_lamp r hr i hi 6 (by decide)) xw_117 rfl rfl rfl rfl xSt2f dX2_copyFrom_53 (fun H locs hW => ?_)
  refine lv_aload_n hx hb dX2_copyFrom_56 rfl (lv_at hl 0 rfl) ?_
  refine lv_aload_n hx hb dX2_copyFrom_57 rfl (lv_at hl 1 rfl) ?_
  refine r_geto hx hb hts hown hK hne hW (C := RX2) (T := TX2) (xF_lamp r2 hr2 i hi) inlX2 rfl (by decide) 7 (by decide) (xr_lamp r2 hr2 i hi 7 (by decide)) xw_118 rfl (x := G r2 2 i 7) rfl dX2_copyFrom_58 ?_
  refine r_put hx hb hts hown hK hW (C := RX2) (T := TX2) (xF_lamp r hr i hi) inlX2 tyX2 tyX2_ok nmX2 rfl (by decide) 7 (by decide) (xr_lamp r hr i hi 7 (by decide)) xw_118 rfl rfl rfl rfl xSt2f dX2_copyFrom_61 (fun H locs hW => ?_)
  refine lv_aload_n hx hb dX2_copyFrom_64 rfl (lv_at hl 0 rfl) ?_
  refine lv_aload_n hx hb dX2_copyFrom_65 rfl (lv_at hl 1 rfl) ?_
  refine r_geto hx hb hts hown hK hne hW (C := RX2) (T := TX2) (xF_lamp r2 hr2 i hi) inlX2 rfl (by decide) 8 (by decide) (xr_lamp r2 hr2 i hi 8 (by decide)) xw_119 rfl (x := G r2 2 i 8) rfl dX2_copyFrom_66 ?_
  refine r_put hx hb hts hown hK hW (C := RX2) (T := TX2) (xF_lamp r hr i hi) inlX2 tyX2 tyX2_ok nmX2 rfl (by decide) 8 (by decide) (xr_lamp r hr i hi 8 (by decide)) xw_119 rfl rfl rfl rfl xSt2f dX2_copyFrom_69 (fun H locs hW => ?_)
  refine lv_aload_n hx hb dX2_copyFrom_72 rfl (lv_at hl 0 rfl) ?_
  refine lv_aload_n hx hb dX2_copyFrom_73 rfl (lv_at hl 1 rfl) ?_
  refine r_geto hx hb hts hown hK hne hW (C := RX2) (T := TX2) (xF_lamp r2 hr2 i hi) inlX2 rfl (by decide) 9 (by decide) (xr_lamp r2 hr2 i hi 9 (by decide)) xw_120 rfl (x := G r2 2 i 9) rfl dX2_copyFrom_74 ?_
  refine r_put hx hb hts hown hK hW (C := RX2) (T := TX2) (xF_lamp r hr i hi) inlX2 tyX2 tyX2_ok nmX2 rfl (by decide) 9 (by decide) (xr_lamp r hr i hi 9 (by decide)) xw_120 rfl rfl rfl rfl xSt2f dX2_copyFrom_77 (fun H locs hW => ?_)
  refine lv_aload_n hx hb dX2_copyFrom_80 rfl (lv_at hl 0 rfl) ?_
  refine lv_aload_n hx hb dX2_copyFrom_81 rfl (lv_at hl 1 rfl) ?_
  refine r_geto hx hb hts hown hK hne hW (C := RX2) (T := TX2) (xF_lamp r2 hr2 i hi) inlX2 rfl (by decide) 10 (by decide) (xr_lamp r2 hr2 i hi 10 (by decide)) xw_121 rfl (x := G r2 2 i 10) rfl dX2_copyFrom_82 ?_
  refine r_put hx hb hts hown hK hW (C := RX2) (T := TX2) (xF_lamp r hr i hi) inlX2 tyX2 tyX2_ok nmX2 rfl (by decide) 10 (by decide) (xr_lamp r hr i hi 10 (by decide)) xw_121 rfl rfl rfl rfl xSt2f dX2_copyFrom_85 (fun H locs hW => ?_)
  obtain rfl : (va_up (va_up (va_up (va_up (va_up (va_up (va_up (va_up (va_up (va_up (va_up ℓ 0 (G r2 2 i 0)) 1 (G r2 2 i 1)) 2 (G r2 2 i 2)) 3 (G r2 2 i 3)) 4 (G r2 2 i 4)) 5 (G r2 2 i 5)) 6 (G r2 2 i 6)) 7 (G r2 2 i 7)) 8 (G r2 2 i 8)) 9 (G r2 2 i 9)) 10 (G r2 2 i 10)) = ℓ' := by (rw [← ho0]) <;> (simp [Fcopy])
  rw [hQ0]
  exact x_vret hx hb hret hlocks hW rfl dX2_copyFrom_88
set_option maxHeartbeats 4000000 in
set_option maxRecDepth 100000 in
theorem c_X1_copyFrom (l : Launch) (X : xX) (G : xG) {r i : Nat} {f sg : Nat → Int32} {L O Y P Q : Nat → Nat → Int32} {ℓ : Nat → Int32} {r2 : Nat} (hr : r < 11) (hi : i < 8) (hr2 : r2 < 11) (hne : r2 ≠ r)  : XC l yX1_copyFrom cX1_copyFrom 2 none 0 0 0 0 X xsh [.ref (xB X + xkey r 3 i), .ref (xB X + xkey r2 3 i)] 603 603 (xval (xB X) (va_up G r (xSt f sg L (va_up O i ℓ) Y P Q))) (xval (xB X) (va_up G r (xSt f sg L (va_up O i (va_up (va_up ℓ 0 (G r2 3 i 0)) 1 (G r2 3 i 1))) Y P Q))) none := by
  refine XC.of RX1 "copyFrom" [(0, .ref (xB X + xkey r 3 i)), (1, .ref (xB X + xkey r2 3 i))] (by decide) rfl rfl (Nat.le_of_ble_eq_true rfl) rfl ?_
  intro p e s m args below meth c ls hx hb hret hml hts hown hlocks hnm hK hW hl
  have hW : XR X G r (xSt f sg L (va_up O i ℓ) Y P Q) s.heap [] := hW
  obtain ⟨Q0, hQ0⟩ : ∃ z, z = MQ below (xQ X xsh 603 (xval (xB X) (va_up G r (xSt f sg L (va_up O i (va_up (va_up ℓ 0 (G r2 3 i 0)) 1 (G r2 3 i 1))) Y P Q))) none) args s 0 0 (fun q => xB X ≤ q) := ⟨_, rfl⟩
  rw [← hQ0]
  refine lv_aload_n hx hb dX1_copyFrom_0 rfl (lv_at hl 0 rfl) ?_
  refine lv_aload_n hx hb dX1_copyFrom_1 rfl (lv_at hl 1 rfl) ?_
  refine r_geto hx hb hts hown hK hne hW (C := RX1) (T := TX1) (xF_house r2 hr2 i hi) inlX1 rfl (by decide) 0 (by decide) (xr_house r2 hr2 i hi 0 (by decide)) xw_126 rfl (x := G r2 3 i 0) rfl dX1_copyFrom_2 ?_
  refine r_put hx hb hts hown hK hW (C := RX1) (T := TX1) (xF_house r hr i hi) inlX1 tyX1 tyX1_ok nmX1 rfl (by decide) 0 (by decide) (xr_house r hr i hi 0 (by decide)) xw_126 rfl rfl rfl rfl xSt3f dX1_copyFrom_5 (fun H locs hW => ?_)
  refine lv_aload_n hx hb dX1_copyFrom_8 rfl (lv_at hl 0 rfl) ?_
  refine lv_aload_n hx hb dX1_copyFrom_9 rfl (lv_at hl 1 rfl) ?_
  refine r_geto hx hb hts hown hK hne hW (C := RX1) (T := TX1) (xF_house r2 hr2 i hi) inlX1 rfl (by decide) 1 (by decide) (xr_house r2 hr2 i hi 1 (by decide)) xw_127 rfl (x := G r2 3 i 1) rfl dX1_copyFrom_10 ?_
  refine r_put hx hb hts hown hK hW (C := RX1) (T := TX1) (xF_house r hr i hi) inlX1 tyX1 tyX1_ok nmX1 rfl (by decide) 1 (by decide) (xr_house r hr i hi 1 (by decide)) xw_127 rfl rfl rfl rfl xSt3f dX1_copyFrom_13 (fun H locs hW => ?_)
  rw [hQ0]
  exact x_vret hx hb hret hlocks hW rfl dX1_copyFrom_16
set_option maxHeartbeats 4000000 in
set_option maxRecDepth 100000 in
theorem c_X5_copyFrom (l : Launch) (X : xX) (G : xG) {r i : Nat} {f sg : Nat → Int32} {L O Y P Q : Nat → Nat → Int32} {ω γ π : Nat → Int32} {r2 : Nat} (hr : r < 11) (hi : i < 8) (hr2 : r2 < 11) (hne : r2 ≠ r) (hbo : G r2 4 i 5 = 0 ∨ G r2 4 i 5 = 1) {ω' : Nat → Int32} (ho0 : (FcopyW (G r2 4 i) ω) = ω') {γ' : Nat → Int32} (ho1 : (Fcpy6 (G r2 5 i) γ) = γ') {π' : Nat → Int32} (ho2 : (Fcpy6 (G r2 6 i) π) = π') : XC l yX5_copyFrom cX5_copyFrom 2 none 1 40 0 0 X xsh [.ref (xB X + xkey r 4 i), .ref (xB X + xkey r2 4 i)] 603 603 (xval (xB X) (va_up G r (xSt f sg L O (va_up Y i ω) (va_up P i γ) (va_up Q i π)))) (xval (xB X) (va_up G r (xSt f sg L O (va_up Y i ω') (va_up P i γ') (va_up Q i π')))) none := by
  refine XC.of RX5 "copyFrom" [(0, .ref (xB X + xkey r 4 i)), (1, .ref (xB X + xkey r2 4 i))] (by decide) rfl rfl (Nat.le_of_ble_eq_true rfl) rfl ?_
  intro p e s m args below meth c ls hx hb hret hml hts hown hlocks hnm hK hW hl
  have hW : XR X G r (xSt f sg L O (va_up Y i ω) (va_up P i γ) (va_up Q i π)) s.heap [] := hW
  obtain ⟨Q0, hQ0⟩ : ∃ z, z = MQ below (xQ X xsh 603 (xval (xB X) (va_up G r (xSt f sg L O (va_up Y i ω') (va_up P i γ') (va_up Q i π')))) none) args s 0 0 (fun q => xB X ≤ q) := ⟨_, rfl⟩
  rw [← hQ0]
  refine lv_aload_n hx hb dX5_copyFrom_0 rfl (lv_at hl 1 rfl) ?_
  refine r_getr (C := RX5) (T := TX5) hx hb hts hown hK hW (xF_walker r2 hr2 i hi).1 (xF_walker r2 hr2 i hi).2.1 inlX5 rfl (by decide) 0 (by decide) (xr_walker r2 hr2 i hi).1 xw_60 rfl dX5_copyFrom_1 ?_
  refine lv_iconst (v := 0) hx hb dX5_copyFrom_4 (by decide) ?_
  refine lv_aload_n hx hb dX5_copyFrom_5 rfl (lv_at hl 0 rfl) ?_
  refine r_getr (C := RX5) (T := TX5) hx hb hts hown hK hW (xF_walker r hr i hi).1 (xF_walker r hr i hi).2.1 inlX5 rfl (by decide) 0 (by decide) (xr_walker r hr i hi).1 xw_60 rfl dX5_copyFrom_6 ?_
  refine lv_iconst (v := 0) hx hb dX5_copyFrom_9 (by decide) ?_
  refine lv_bipush (v := 6) hx hb dX5_copyFrom_10 (by decide) ?_
  refine r_copy hx hb (hml.trans hl.1.symm) hown hts xw_132 xw_42 xw_43 xw_44 hK hW (xF_gsteps r2 hr2 i hi) (xF_gsteps r hr i hi) (fun w hw => (xr_gsteps r2 hr2 i hi w hw)) (fun w hw => (xr_gsteps r hr i hi w hw)) 0 0 6 (by decide) (by decide) (by decide) ⟨by decide, by decide⟩ (by decide) (by decide) (Nat.le_of_ble_eq_true rfl) (Nat.le_of_ble_eq_true rfl) dX5_copyFrom_12 (fun H locs hW => ?_)
  have hW : XR X G r (xSt f sg L O (va_up Y i ω) (va_up P i (va_cpy (G r2 5 i) γ 0 0 6)) (va_up Q i π)) H locs := by have h := hW; simp only [xcpO hne, xrow5, xat5] at h; exact h
  refine lv_aload_n hx hb dX5_copyFrom_15 rfl (lv_at hl 1 rfl) ?_
  refine r_getr (C := RX5) (T := TX5) hx hb hts hown hK hW (xF_walker r2 hr2 i hi).1 (xF_walker r2 hr2 i hi).2.1 inlX5 rfl (by decide) 1 (by decide) (xr_walker r2 hr2 i hi).2.1 xw_61 rfl dX5_copyFrom_16 ?_
  refine lv_iconst (v := 0) hx hb dX5_copyFrom_19 (by decide) ?_
  refine lv_aload_n hx hb dX5_copyFrom_20 rfl (lv_at hl 0 rfl) ?_
  refine r_getr (C := RX5) (T := TX5) hx hb hts hown hK hW (xF_walker r hr i hi).1 (xF_walker r hr i hi).2.1 inlX5 rfl (by decide) 1 (by decide) (xr_walker r hr i hi).2.1 xw_61 rfl dX5_copyFrom_21 ?_
  refine lv_iconst (v := 0) hx hb dX5_copyFrom_24 (by decide) ?_
  refine lv_bipush (v := 6) hx hb dX5_copyFrom_25 (by decide) ?_
  refine r_copy hx hb (hml.trans hl.1.symm) hown hts xw_132 xw_42 xw_43 xw_44 hK hW (xF_gpauses r2 hr2 i hi) (xF_gpauses r hr i hi) (fun w hw => (xr_gpauses r2 hr2 i hi w hw)) (fun w hw => (xr_gpauses r hr i hi w hw)) 0 0 6 (by decide) (by decide) (by decide) ⟨by decide, by decide⟩ (by decide) (by decide) (Nat.le_of_ble_eq_true rfl) (Nat.le_of_ble_eq_true rfl) dX5_copyFrom_27 (fun H locs hW => ?_)
  have hW : XR X G r (xSt f sg L O (va_up Y i ω) (va_up P i (va_cpy (G r2 5 i) γ 0 0 6)) (va_up Q i (va_cpy (G r2 6 i) π 0 0 6))) H locs := by have h := hW; simp only [xcpO hne, xrow6, xat6] at h; exact h
  refine lv_aload_n hx hb dX5_copyFrom_30 rfl (lv_at hl 0 rfl) ?_
  refine lv_aload_n hx hb dX5_copyFrom_31 rfl (lv_at hl 1 rfl) ?_
  refine r_geto hx hb hts hown hK hne hW (C := RX5) (T := TX5) (xF_walker r2 hr2 i hi) inlX5 rfl (by decide) 2 (by decide) ((xr_walker r2 hr2 i hi).2.2 2 (by decide) (by decide)) xw_133 rfl (x := G r2 4 i 2) rfl dX5_copyFrom_32 ?_
  refine r_put hx hb hts hown hK hW (C := RX5) (T := TX5) (xF_walker r hr i hi) inlX5 tyX5 tyX5_ok nmX5 rfl (by decide) 2 (by decide) ((xr_walker r hr i hi).2.2 2 (by decide) (by decide)) xw_133 rfl rfl rfl rfl xSt4f dX5_copyFrom_35 (fun H locs hW => ?_)
  refine lv_aload_n hx hb dX5_copyFrom_38 rfl (lv_at hl 0 rfl) ?_
  refine lv_aload_n hx hb dX5_copyFrom_39 rfl (lv_at hl 1 rfl) ?_
  refine r_geto hx hb hts hown hK hne hW (C := RX5) (T := TX5) (xF_walker r2 hr2 i hi) inlX5 rfl (by decide) 3 (by decide) ((xr_walker r2 hr2 i hi).2.2 3 (by decide) (by decide)) xw_134 rfl (x := G r2 4 i 3) rfl dX5_copyFrom_40 ?_
  refine r_put hx hb hts hown hK hW (C := RX5) (T := TX5) (xF_walker r hr i hi) inlX5 tyX5 tyX5_ok nmX5 rfl (by decide) 3 (by decide) ((xr_walker r hr i hi).2.2 3 (by decide) (by decide)) xw_134 rfl rfl rfl rfl xSt4f dX5_copyFrom_43 (fun H locs hW => ?_)
  refine lv_aload_n hx hb dX5_copyFrom_46 rfl (lv_at hl 0 rfl) ?_
  refine lv_aload_n hx hb dX5_copyFrom_47 rfl (lv_at hl 1 rfl) ?_
  refine r_geto hx hb hts hown hK hne hW (C := RX5) (T := TX5) (xF_walker r2 hr2 i hi) inlX5 rfl (by decide) 4 (by decide) ((xr_walker r2 hr2 i hi).2.2 4 (by decide) (by decide)) xw_135 rfl (x := G r2 4 i 4) rfl dX5_copyFrom_48 ?_
  refine r_put hx hb hts hown hK hW (C := RX5) (T := TX5) (xF_walker r hr i hi) inlX5 tyX5 tyX5_ok nmX5 rfl (by decide) 4 (by decide) ((xr_walker r hr i hi).2.2 4 (by decide) (by decide)) xw_135 rfl rfl rfl rfl xSt4f dX5_copyFrom_51 (fun H locs hW => ?_)
  refine lv_aload_n hx hb dX5_copyFrom_54 rfl (lv_at hl 0 rfl) ?_
  refine lv_aload_n hx hb dX5_copyFrom_55 rfl (lv_at hl 1 rfl) ?_
  refine r_geto hx hb hts hown hK hne hW (C := RX5) (T := TX5) (xF_walker r2 hr2 i hi) inlX5 rfl (by decide) 5 (by decide) ((xr_walker r2 hr2 i hi).2.2 5 (by decide) (by decide)) xw_136 rfl (x := G r2 4 i 5) rfl dX5_copyFrom_56 ?_
  refine r_put hx hb hts hown hK hW (C := RX5) (T := TX5) (xF_walker r hr i hi) inlX5 tyX5 tyX5_ok nmX5 rfl (by decide) 5 (by decide) ((xr_walker r hr i hi).2.2 5 (by decide) (by decide)) xw_136 rfl rfl (xb_nar hbo) (xb_fit hbo) xSt4f dX5_copyFrom_59 (fun H locs hW => ?_)
  refine lv_aload_n hx hb dX5_copyFrom_62 rfl (lv_at hl 0 rfl) ?_
  refine lv_aload_n hx hb dX5_copyFrom_63 rfl (lv_at hl 1 rfl) ?_
  refine r_geto hx hb hts hown hK hne hW (C := RX5) (T := TX5) (xF_walker r2 hr2 i hi) inlX5 rfl (by decide) 6 (by decide) ((xr_walker r2 hr2 i hi).2.2 6 (by decide) (by decide)) xw_137 rfl (x := G r2 4 i 6) rfl dX5_copyFrom_64 ?_
  refine r_put hx hb hts hown hK hW (C := RX5) (T := TX5) (xF_walker r hr i hi) inlX5 tyX5 tyX5_ok nmX5 rfl (by decide) 6 (by decide) ((xr_walker r hr i hi).2.2 6 (by decide) (by decide)) xw_137 rfl rfl rfl rfl xSt4f dX5_copyFrom_67 (fun H locs hW => ?_)
  refine lv_aload_n hx hb dX5_copyFrom_70 rfl (lv_at hl 0 rfl) ?_
  refine lv_aload_n hx hb dX5_copyFrom_71 rfl (lv_at hl 1 rfl) ?_
  refine r_geto hx hb hts hown hK hne hW (C := RX5) (T := TX5) (xF_walker r2 hr2 i hi) inlX5 rfl (by decide) 7 (by decide) ((xr_walker r2 hr2 i hi).2.2 7 (by decide) (by decide)) xw_138 rfl (x := G r2 4 i 7) rfl dX5_copyFrom_72 ?_
  refine r_put hx hb hts hown hK hW (C := RX5) (T := TX5) (xF_walker r hr i hi) inlX5 tyX5 tyX5_ok nmX5 rfl (by decide) 7 (by decide) ((xr_walker r hr i hi).2.2 7 (by decide) (by decide)) xw_138 rfl rfl rfl rfl xSt4f dX5_copyFrom_75 (fun H locs hW => ?_)
  refine lv_aload_n hx hb dX5_copyFrom_78 rfl (lv_at hl 0 rfl) ?_
  refine lv_aload_n hx hb dX5_copyFrom_79 rfl (lv_at hl 1 rfl) ?_
  refine r_geto hx hb hts hown hK hne hW (C := RX5) (T := TX5) (xF_walker r2 hr2 i hi) inlX5 rfl (by decide) 8 (by decide) ((xr_walker r2 hr2 i hi).2.2 8 (by decide) (by decide)) xw_139 rfl (x := G r2 4 i 8) rfl dX5_copyFrom_80 ?_
  refine r_put hx hb hts hown hK hW (C := RX5) (T := TX5) (xF_walker r hr i hi) inlX5 tyX5 tyX5_ok nmX5 rfl (by decide) 8 (by decide) ((xr_walker r hr i hi).2.2 8 (by decide) (by decide)) xw_139 rfl rfl rfl rfl xSt4f dX5_copyFrom_83 (fun H locs hW => ?_)
  obtain rfl : (va_up (va_up (va_up (va_up (va_up (va_up (va_up ω 2 (G r2 4 i 2)) 3 (G r2 4 i 3)) 4 (G r2 4 i 4)) 5 (G r2 4 i 5)) 6 (G r2 4 i 6)) 7 (G r2 4 i 7)) 8 (G r2 4 i 8)) = ω' := by (rw [← ho0]) <;> (simp [FcopyW, Fcpy6])
  obtain rfl : (va_cpy (G r2 5 i) γ 0 0 6) = γ' := by (rw [← ho1]) <;> (simp [FcopyW, Fcpy6])
  obtain rfl : (va_cpy (G r2 6 i) π 0 0 6) = π' := by (rw [← ho2]) <;> (simp [FcopyW, Fcpy6])
  rw [hQ0]
  exact x_vret hx hb hret hlocks hW rfl dX5_copyFrom_86
set_option maxHeartbeats 4000000 in
set_option maxRecDepth 100000 in
theorem c_X4_changeSetting (l : Launch) (X : xX) (G : xG) {r : Nat} {f sg : Nat → Int32} {L O Y P Q : Nat → Nat → Int32} {x v : Int32} (hr : r < 11) {sg' : Nat → Int32} (ho0 : (FsetS x v sg) = sg') {res : Int32} (hres : (FsetR x v sg) = res) : XC l yX4_changeSetting cX4_changeSetting 4 (some .int) 1 22 0 0 X xsh [.ref (xB X + xkey r 0 0), .int x, .int v] 603 603 (xval (xB X) (va_up G r (xSt f sg L O Y P Q))) (xval (xB X) (va_up G r (xSt f sg' L O Y P Q))) (some (.int res)) := by
  refine XC.of RX4 "changeSetting" [(0, .ref (xB X + xkey r 0 0)), (1, .int x), (2, .int v)] (by decide) rfl rfl (Nat.le_of_ble_eq_true rfl) rfl ?_
  intro p e s m args below meth c ls hx hb hret hml hts hown hlocks hnm hK hW hl
  have hW : XR X G r (xSt f sg L O Y P Q) s.heap [] := hW
  obtain ⟨Q0, hQ0⟩ : ∃ z, z = MQ below (xQ X xsh 603 (xval (xB X) (va_up G r (xSt f sg' L O Y P Q))) (some (.int res))) args s 0 0 (fun q => xB X ≤ q) := ⟨_, rfl⟩
  rw [← hQ0]
  refine lv_iload_n hx hb dX4_changeSetting_0 rfl (lv_at hl 1 rfl) ?_
  refine lv_iconst (v := 0) hx hb dX4_changeSetting_1 (by decide) ?_
  refine lv_iconst (v := 5) hx hb dX4_changeSetting_2 (by decide) ?_
  refine x_callSN hx hb hml hown hts hK hW hl.1 (c_X6_within l X _ (v := x) (lo := 0) (hi := 5) (hres := rfl)) (by simp [xNestM]) xw_144 xw_2 xw_145 hdS_yX6_within ⟨Nat.le_of_ble_eq_true rfl, Nat.le_of_ble_eq_true rfl⟩ rfl (Nat.le_of_ble_eq_true rfl) ⟨Nat.le_refl _, Nat.le_refl _⟩ dX4_changeSetting_3 (fun H locs hW => ?_)
  refine lv_if_eq (tgt := 26) hx hb dX4_changeSetting_6 (by decide) (fun c_1 => ?_) (fun c_1 => ?_)
  · skip
    refine lv_bipush (v := (-2)) hx hb dX4_changeSetting_26 (by decide) ?_
    obtain rfl : sg = sg' := by (rw [← ho0]) <;> (simp [FsetS, FsetR, c_1])
    obtain rfl : (-2) = res := by (rw [← hres]) <;> (simp [FsetS, FsetR, c_1])
    rw [hQ0]
    exact x_iret hx hb hret hlocks rfl hW rfl dX4_changeSetting_28
  · skip
    refine lv_iload_n hx hb dX4_changeSetting_9 rfl (lv_at hl 2 rfl) ?_
    refine x_getsN hx hb hown hK hK.2.2.1 hW (by simp [xNestF]) dX4_changeSetting_10 ?_
    refine lv_iload_n hx hb dX4_changeSetting_13 rfl (lv_at hl 1 rfl) ?_
    refine x_tald hx hb hK.2.2.1 hW x.toNatClampNeg (xfin 5 rfl (by decide) c_1).1 (by decide) (xfin 5 rfl (by decide) c_1).2 dX4_changeSetting_14 ?_
    refine x_getsN hx hb hown hK hK.2.2.2.1 hW (by simp [xNestF]) dX4_changeSetting_15 ?_
    refine lv_iload_n hx hb dX4_changeSetting_18 rfl (lv_at hl 1 rfl) ?_
    refine x_tald hx hb hK.2.2.2.1 hW x.toNatClampNeg (xfin 5 rfl (by decide) c_1).1 (by decide) (xfin 5 rfl (by decide) c_1).2 dX4_changeSetting_19 ?_
    refine x_callSN hx hb hml hown hts hK hW hl.1 (c_X6_within l X _ (v := v) (lo := xf1 x.toNatClampNeg) (hi := xf2 x.toNatClampNeg) (hres := rfl)) (by simp [xNestM]) xw_144 xw_2 xw_145 hdS_yX6_within ⟨Nat.le_of_ble_eq_true rfl, Nat.le_of_ble_eq_true rfl⟩ rfl (Nat.le_of_ble_eq_true rfl) ⟨Nat.le_refl _, Nat.le_refl _⟩ dX4_changeSetting_20 (fun H locs hW => ?_)
    refine lv_if_ne (tgt := 29) hx hb dX4_changeSetting_23 (by decide) (fun c_2 => ?_) (fun c_2 => ?_)
    · skip
      refine lv_aload_n hx hb dX4_changeSetting_29 rfl (lv_at hl 0 rfl) ?_
      refine r_getr (C := RX4) (T := TX4) hx hb hts hown hK hW (xF_street r hr).1 (xF_street r hr).2.1 inlX4 rfl (by decide) 0 (by decide) (xr_street r hr).1 xw_34 rfl dX4_changeSetting_30 ?_
      refine lv_iload_n hx hb dX4_changeSetting_33 rfl (lv_at hl 1 rfl) ?_
      refine r_iald hx hb hK hW (N := 6) (xF_sett r hr) x.toNatClampNeg (xfin 5 rfl (by decide) c_1).1 (by decide) (xfin 5 rfl (by decide) c_1).2 (xr_sett r hr x.toNatClampNeg (xfin 5 rfl (by decide) c_1).1) (x := sg x.toNatClampNeg) rfl dX4_changeSetting_34 ?_
      refine lv_istore_n (lv' := [(3, .int (sg x.toNatClampNeg)), (0, .ref (xB X + xkey r 0 0)), (1, .int x), (2, .int v)]) hx hb dX4_changeSetting_35 rfl hl (by decide) rfl (fun ls hl => ?_)
      refine lv_aload_n hx hb dX4_changeSetting_36 rfl (lv_at hl 1 rfl) ?_
      refine r_getr (C := RX4) (T := TX4) hx hb hts hown hK hW (xF_street r hr).1 (xF_street r hr).2.1 inlX4 rfl (by decide) 0 (by decide) (xr_street r hr).1 xw_34 rfl dX4_changeSetting_37 ?_
      refine lv_iload_n hx hb dX4_changeSetting_40 rfl (lv_at hl 2 rfl) ?_
      refine lv_iload_n hx hb dX4_changeSetting_41 rfl (lv_at hl 3 rfl) ?_
      refine r_iast hx hb hK hW (N := 6) (xF_sett r hr) x.toNatClampNeg (xfin 5 rfl (by decide) c_1).1 (by decide) (xfin 5 rfl (by decide) c_1).2 (xr_sett r hr x.toNatClampNeg (xfin 5 rfl (by decide) c_1).1) xSt1 dX4_changeSetting_42 (fun H locs hW => ?_)
      refine lv_iload_n hx hb dX4_changeSetting_43 rfl (lv_at hl 0 rfl) ?_
      obtain rfl : (va_up sg x.toNatClampNeg v) = sg' := by (rw [← ho0]) <;> (simp [FsetS, FsetR, c_1, c_2])
      obtain rfl : sg x.toNatClampNeg = res := by (rw [← hres]) <;> (simp [FsetS, FsetR, c_1, c_2])
      rw [hQ0]
      exact x_iret hx hb hret hlocks rfl hW rfl dX4_changeSetting_44
    · skip
      refine lv_bipush (v := (-2)) hx hb dX4_changeSetting_26 (by decide) ?_
      obtain rfl : sg = sg' := by (rw [← ho0]) <;> (simp [FsetS, FsetR, c_1, c_2])
      obtain rfl : (-2) = res := by (rw [← hres]) <;> (simp [FsetS, FsetR, c_1, c_2])
      rw [hQ0]
      exact x_iret hx hb hret hlocks rfl hW rfl dX4_changeSetting_28
set_option maxHeartbeats 4000000 in
set_option maxRecDepth 100000 in
theorem c_X4_mendLamp (l : Launch) (X : xX) (G : xG) {r : Nat} {f sg : Nat → Int32} {L O Y P Q : Nat → Nat → Int32} {n : Nat} {x h : Int32} (hr : r < 11) (hn : f 4 = nI n) (hn16 : n ≤ 16) {L' : Nat → Nat → Int32} (ho0 : (LMend n x h L) = L') {res : Int32} (hres : (FmendR n x h L) = res) : XC l yX4_mendLamp cX4_mendLamp 4 (some .int) 1 22 0 0 X xsh [.ref (xB X + xkey r 0 0), .int x, .int h] 603 603 (xval (xB X) (va_up G r (xSt f sg L O Y P Q))) (xval (xB X) (va_up G r (xSt f sg L' O Y P Q))) (some (.int res)) := by
  refine XC.of RX4 "mendLamp" [(0, .ref (xB X + xkey r 0 0)), (1, .int x), (2, .int h)] (by decide) rfl rfl (Nat.le_of_ble_eq_true rfl) rfl ?_
  intro p e s m args below meth c ls hx hb hret hml hts hown hlocks hnm hK hW hl
  have hW : XR X G r (xSt f sg L O Y P Q) s.heap [] := hW
  obtain ⟨Q0, hQ0⟩ : ∃ z, z = MQ below (xQ X xsh 603 (xval (xB X) (va_up G r (xSt f sg L' O Y P Q))) (some (.int res))) args s 0 0 (fun q => xB X ≤ q) := ⟨_, rfl⟩
  rw [← hQ0]
  refine lv_aload_n hx hb dX4_mendLamp_0 rfl (lv_at hl 0 rfl) ?_
  refine lv_iload_n hx hb dX4_mendLamp_1 rfl (lv_at hl 1 rfl) ?_
  refine x_callV hx hb hml hown hts hK hW hl.1 (c_X4_hasLamp l X G (r := r) (n := n) (x := x) (hr := hr) (hn := (by assumption)) (hn16 := (by assumption)) (hres := rfl)) (xF_street r hr).1 (xF_street r hr).2.1 (by decide) rfl xw_295 xw_296 xw_297 xw_15 xw_298 hdV_yX4_hasLamp ⟨Nat.le_of_ble_eq_true rfl, Nat.le_of_ble_eq_true rfl⟩ rfl (Nat.le_of_ble_eq_true rfl) ⟨Nat.le_refl _, Nat.le_refl _⟩ dX4_mendLamp_2 (fun H locs hW => ?_)
  refine lv_if_ne (tgt := 10) hx hb dX4_mendLamp_5 (by decide) (fun c_1 => ?_) (fun c_1 => ?_)
  · skip
    have hx9 := xhas (x := x) (n := n) (by omega) c_1
    have hx8 : x.toNatClampNeg < n := hx9.1
    refine lv_iload_n hx hb dX4_mendLamp_10 rfl (lv_at hl 2 rfl) ?_
    refine lv_iconst (v := 0) hx hb dX4_mendLamp_11 (by decide) ?_
    refine lv_iconst (v := 2) hx hb dX4_mendLamp_12 (by decide) ?_
    refine x_callSN hx hb hml hown hts hK hW hl.1 (c_X6_within l X _ (v := h) (lo := 0) (hi := 2) (hres := rfl)) (by simp [xNestM]) xw_144 xw_2 xw_145 hdS_yX6_within ⟨Nat.le_of_ble_eq_true rfl, Nat.le_of_ble_eq_true rfl⟩ rfl (Nat.le_of_ble_eq_true rfl) ⟨Nat.le_refl _, Nat.le_refl _⟩ dX4_mendLamp_13 (fun H locs hW => ?_)
    refine lv_if_ne (tgt := 22) hx hb dX4_mendLamp_16 (by decide) (fun c_2 => ?_) (fun c_2 => ?_)
    · skip
      refine lv_aload_n hx hb dX4_mendLamp_22 rfl (lv_at hl 0 rfl) ?_
      refine r_getr (C := RX4) (T := TX4) hx hb hts hown hK hW (xF_street r hr).1 (xF_street r hr).2.1 inlX4 rfl (by decide) 1 (by decide) (xr_street r hr).2.1 xw_36 rfl dX4_mendLamp_23 ?_
      refine lv_iload_n hx hb dX4_mendLamp_26 rfl (lv_at hl 1 rfl) ?_
      refine r_aald hx hb hK hW (xF_lamps r hr).1 (xF_lamps r hr).2 (by decide) 4 rfl x.toNatClampNeg (by omega) (by decide) hx9.2 (xr_lamps r hr x.toNatClampNeg (by omega)) dX4_mendLamp_27 ?_
      refine r_get hx hb hts hown hK hW (C := RX2) (T := TX2) (xF_lamp r hr x.toNatClampNeg (by omega)) inlX2 rfl (by decide) 3 (by decide) (xr_lamp r hr x.toNatClampNeg (by omega) 3 (by decide)) xw_294 rfl (x := L x.toNatClampNeg 3) rfl dX4_mendLamp_28 ?_
      refine lv_istore_n (lv' := [(3, .int (L x.toNatClampNeg 3)), (0, .ref (xB X + xkey r 0 0)), (1, .int x), (2, .int h)]) hx hb dX4_mendLamp_31 rfl hl (by decide) rfl (fun ls hl => ?_)
      refine lv_aload_n hx hb dX4_mendLamp_32 rfl (lv_at hl 1 rfl) ?_
      refine r_getr (C := RX4) (T := TX4) hx hb hts hown hK hW (xF_street r hr).1 (xF_street r hr).2.1 inlX4 rfl (by decide) 1 (by decide) (xr_street r hr).2.1 xw_36 rfl dX4_mendLamp_33 ?_
      refine lv_iload_n hx hb dX4_mendLamp_36 rfl (lv_at hl 2 rfl) ?_
      refine r_aald hx hb hK hW (xF_lamps r hr).1 (xF_lamps r hr).2 (by decide) 4 rfl x.toNatClampNeg (by omega) (by decide) hx9.2 (xr_lamps r hr x.toNatClampNeg (by omega)) dX4_mendLamp_37 ?_
      refine lv_iload_n hx hb dX4_mendLamp_38 rfl (lv_at hl 3 rfl) ?_
      have hW := XR.foc2 hW x.toNatClampNeg
      refine x_callV hx hb hml hown hts hK hW hl.1 (c_X2_becomes l X G (r := r) (i := x.toNatClampNeg) (how := h) (hr := hr) (hi := (by omega)) (ho0 := rfl)) (xF_lamp r hr x.toNatClampNeg (by omega)).1 (xF_lamp r hr x.toNatClampNeg (by omega)).2.1 (by decide) rfl xw_299 xw_300 xw_301 xw_46 xw_302 hdV_yX2_becomes ⟨Nat.le_of_ble_eq_true rfl, Nat.le_of_ble_eq_true rfl⟩ rfl (Nat.le_of_ble_eq_true rfl) ⟨Nat.le_refl _, Nat.le_refl _⟩ dX4_mendLamp_39 (fun H locs hW => ?_)
      have hW : XR X G r (xSt f sg (va_up L x.toNatClampNeg (Fbecomes h (L x.toNatClampNeg))) O Y P Q) H locs := hW
      refine lv_iload_n hx hb dX4_mendLamp_42 rfl (lv_at hl 0 rfl) ?_
      obtain rfl : (va_up L x.toNatClampNeg (Fbecomes h (L x.toNatClampNeg))) = L' := by (rw [← ho0]) <;> (simp [LMend, FmendR, c_1, c_2])
      obtain rfl : L x.toNatClampNeg 3 = res := by (rw [← hres]) <;> (simp [LMend, FmendR, c_1, c_2])
      rw [hQ0]
      exact x_iret hx hb hret hlocks rfl hW rfl dX4_mendLamp_43
    · skip
      refine lv_bipush (v := (-2)) hx hb dX4_mendLamp_19 (by decide) ?_
      obtain rfl : L = L' := by (rw [← ho0]) <;> (simp [LMend, FmendR, c_1, c_2])
      obtain rfl : (-2) = res := by (rw [← hres]) <;> (simp [LMend, FmendR, c_1, c_2])
      rw [hQ0]
      exact x_iret hx hb hret hlocks rfl hW rfl dX4_mendLamp_21
  · skip
    refine lv_iconst (v := (-1)) hx hb dX4_mendLamp_8 (by decide) ?_
    obtain rfl : L = L' := by (rw [← ho0]) <;> (simp [LMend, FmendR, c_1])
    obtain rfl : (-1) = res := by (rw [← hres]) <;> (simp [LMend, FmendR, c_1])
    rw [hQ0]
    exact x_iret hx hb hret hlocks rfl hW rfl dX4_mendLamp_9
set_option maxHeartbeats 4000000 in
set_option maxRecDepth 100000 in
theorem c_X4_coughByOrder (l : Launch) (X : xX) (G : xG) {r : Nat} {f sg : Nat → Int32} {L O Y P Q : Nat → Nat → Int32} {n : Nat} {x : Int32} (hr : r < 11) (hn : f 4 = nI n) (hn16 : n ≤ 16) {L' : Nat → Nat → Int32} (ho0 : (LCough n sg x L) = L') {res : Int32} (hres : (FcoughR n sg x L) = res) : XC l yX4_coughByOrder cX4_coughByOrder 2 (some .int) 4 88 0 0 X xsh [.ref (xB X + xkey r 0 0), .int x] 603 603 (xval (xB X) (va_up G r (xSt f sg L O Y P Q))) (xval (xB X) (va_up G r (xSt f sg L' O Y P Q))) (some (.int res)) := by
  refine XC.of RX4 "coughByOrder" [(0, .ref (xB X + xkey r 0 0)), (1, .int x)] (by decide) rfl rfl (Nat.le_of_ble_eq_true rfl) rfl ?_
  intro p e s m args below meth c ls hx hb hret hml hts hown hlocks hnm hK hW hl
  have hW : XR X G r (xSt f sg L O Y P Q) s.heap [] := hW
  obtain ⟨Q0, hQ0⟩ : ∃ z, z = MQ below (xQ X xsh 603 (xval (xB X) (va_up G r (xSt f sg L' O Y P Q))) (some (.int res))) args s 0 0 (fun q => xB X ≤ q) := ⟨_, rfl⟩
  rw [← hQ0]
  refine lv_aload_n hx hb dX4_coughByOrder_0 rfl (lv_at hl 0 rfl) ?_
  refine lv_iload_n hx hb dX4_coughByOrder_1 rfl (lv_at hl 1 rfl) ?_
  refine x_callV hx hb hml hown hts hK hW hl.1 (c_X4_hasLamp l X G (r := r) (n := n) (x := x) (hr := hr) (hn := (by assumption)) (hn16 := (by assumption)) (hres := rfl)) (xF_street r hr).1 (xF_street r hr).2.1 (by decide) rfl xw_295 xw_296 xw_297 xw_15 xw_298 hdV_yX4_hasLamp ⟨Nat.le_of_ble_eq_true rfl, Nat.le_of_ble_eq_true rfl⟩ rfl (Nat.le_of_ble_eq_true rfl) ⟨Nat.le_refl _, Nat.le_refl _⟩ dX4_coughByOrder_2 (fun H locs hW => ?_)
  refine lv_if_ne (tgt := 10) hx hb dX4_coughByOrder_5 (by decide) (fun c_1 => ?_) (fun c_1 => ?_)
  · skip
    have hx9 := xhas (x := x) (n := n) (by omega) c_1
    have hx8 : x.toNatClampNeg < n := hx9.1
    refine lv_aload_n hx hb dX4_coughByOrder_10 rfl (lv_at hl 0 rfl) ?_
    refine r_getr (C := RX4) (T := TX4) hx hb hts hown hK hW (xF_street r hr).1 (xF_street r hr).2.1 inlX4 rfl (by decide) 1 (by decide) (xr_street r hr).2.1 xw_36 rfl dX4_coughByOrder_11 ?_
    refine lv_iload_n hx hb dX4_coughByOrder_14 rfl (lv_at hl 1 rfl) ?_
    refine r_aald hx hb hK hW (xF_lamps r hr).1 (xF_lamps r hr).2 (by decide) 4 rfl x.toNatClampNeg (by omega) (by decide) hx9.2 (xr_lamps r hr x.toNatClampNeg (by omega)) dX4_coughByOrder_15 ?_
    refine r_get hx hb hts hown hK hW (C := RX2) (T := TX2) (xF_lamp r hr x.toNatClampNeg (by omega)) inlX2 rfl (by decide) 3 (by decide) (xr_lamp r hr x.toNatClampNeg (by omega) 3 (by decide)) xw_294 rfl (x := L x.toNatClampNeg 3) rfl dX4_coughByOrder_16 ?_
    refine lv_iconst (v := 2) hx hb dX4_coughByOrder_19 (by decide) ?_
    refine lv_icmp_ne (tgt := 26) hx hb dX4_coughByOrder_20 (by decide) (fun c_2 => ?_) (fun c_2 => ?_)
    · skip
      refine lv_aload_n hx hb dX4_coughByOrder_26 rfl (lv_at hl 0 rfl) ?_
      refine x_callV hx hb hml hown hts hK hW hl.1 (c_X4_forgetLastTick l X G (r := r) (n := n) (hr := hr) (hn := (by assumption)) (hn16 := (by assumption)) (ho0 := rfl)) (xF_street r hr).1 (xF_street r hr).2.1 (by decide) rfl xw_331 xw_332 xw_333 xw_15 xw_334 hdV_yX4_forgetLastTick ⟨Nat.le_of_ble_eq_true rfl, Nat.le_of_ble_eq_true rfl⟩ rfl (Nat.le_of_ble_eq_true rfl) ⟨Nat.le_refl _, Nat.le_refl _⟩ dX4_coughByOrder_27 (fun H locs hW => ?_)
      have hW : XR X G r (xSt f sg (LForget n L) O Y P Q) H locs := hW
      refine lv_aload_n hx hb dX4_coughByOrder_30 rfl (lv_at hl 0 rfl) ?_
      refine lv_iload_n hx hb dX4_coughByOrder_31 rfl (lv_at hl 1 rfl) ?_
      refine lv_eqi (y := nI x.toNatClampNeg) hx9.2 ?_
      refine lv_iconst (v := 0) hx hb dX4_coughByOrder_32 (by decide) ?_
      refine x_callV hx hb hml hown hts hK hW hl.1 (c_X4_spreadCough l X G (r := r) (n := n) (a := x.toNatClampNeg) (rk := 0) (hr := hr) (hn := (by assumption)) (hn16 := (by assumption)) (ha := (by omega)) (ho0 := rfl) (hres := rfl)) (xF_street r hr).1 (xF_street r hr).2.1 (by decide) rfl xw_341 xw_342 xw_343 xw_15 xw_344 hdV_yX4_spreadCough ⟨Nat.le_of_ble_eq_true rfl, Nat.le_of_ble_eq_true rfl⟩ rfl (Nat.le_of_ble_eq_true rfl) ⟨Nat.le_refl _, Nat.le_refl _⟩ dX4_coughByOrder_33 (fun H locs hW => ?_)
      have hW : XR X G r (xSt f sg ((Fspread n sg x.toNatClampNeg 0 (LForget n L)).1) O Y P Q) H locs := hW
      obtain rfl : ((Fspread n sg x.toNatClampNeg 0 (LForget n L)).1) = L' := by (rw [← ho0]) <;> (simp [LCough, FcoughR, c_1, c_2])
      obtain rfl : (Fspread n sg x.toNatClampNeg 0 (LForget n L)).2 = res := by (rw [← hres]) <;> (simp [LCough, FcoughR, c_1, c_2])
      rw [hQ0]
      exact x_iret hx hb hret hlocks rfl hW rfl dX4_coughByOrder_36
    · skip
      refine lv_bipush (v := (-5)) hx hb dX4_coughByOrder_23 (by decide) ?_
      obtain rfl : L = L' := by (rw [← ho0]) <;> (simp [LCough, FcoughR, c_1, c_2])
      obtain rfl : (-5) = res := by (rw [← hres]) <;> (simp [LCough, FcoughR, c_1, c_2])
      rw [hQ0]
      exact x_iret hx hb hret hlocks rfl hW rfl dX4_coughByOrder_25
  · skip
    refine lv_iconst (v := (-1)) hx hb dX4_coughByOrder_8 (by decide) ?_
    obtain rfl : L = L' := by (rw [← ho0]) <;> (simp [LCough, FcoughR, c_1])
    obtain rfl : (-1) = res := by (rw [← hres]) <;> (simp [LCough, FcoughR, c_1])
    rw [hQ0]
    exact x_iret hx hb hret hlocks rfl hW rfl dX4_coughByOrder_9
set_option maxHeartbeats 4000000 in
set_option maxRecDepth 100000 in
theorem c_X4_addHouse (l : Launch) (X : xX) (G : xG) {r : Nat} {f sg : Nat → Int32} {L O Y P Q : Nat → Nat → Int32} {nh : Nat} {x : Int32} (hr : r < 11) (hh : f 5 = nI nh) (hh8 : nh ≤ 8) {f' : Nat → Int32} (ho0 : (FhouseF x nh f) = f') {O' : Nat → Nat → Int32} (ho1 : (OHouse x nh O) = O') {res : Int32} (hres : (FhouseR x nh) = res) : XC l yX4_addHouse cX4_addHouse 2 (some .int) 2 42 0 0 X xsh [.ref (xB X + xkey r 0 0), .int x] 603 603 (xval (xB X) (va_up G r (xSt f sg L O Y P Q))) (xval (xB X) (va_up G r (xSt f' sg L O' Y P Q))) (some (.int res)) := by
  refine XC.of RX4 "addHouse" [(0, .ref (xB X + xkey r 0 0)), (1, .int x)] (by decide) rfl rfl (Nat.le_of_ble_eq_true rfl) rfl ?_
  intro p e s m args below meth c ls hx hb hret hml hts hown hlocks hnm hK hW hl
  have hW : XR X G r (xSt f sg L O Y P Q) s.heap [] := hW
  obtain ⟨Q0, hQ0⟩ : ∃ z, z = MQ below (xQ X xsh 603 (xval (xB X) (va_up G r (xSt f' sg L O' Y P Q))) (some (.int res))) args s 0 0 (fun q => xB X ≤ q) := ⟨_, rfl⟩
  rw [← hQ0]
  refine lv_iload_n hx hb dX4_addHouse_0 rfl (lv_at hl 1 rfl) ?_
  refine x_callSN hx hb hml hown hts hK hW hl.1 (c_X6_isStep l X _ (v := x) (hres := rfl)) (by simp [xNestM]) xw_180 xw_2 xw_181 hdS_yX6_isStep ⟨Nat.le_of_ble_eq_true rfl, Nat.le_of_ble_eq_true rfl⟩ rfl (Nat.le_of_ble_eq_true rfl) ⟨Nat.le_refl _, Nat.le_refl _⟩ dX4_addHouse_1 (fun H locs hW => ?_)
  refine lv_if_ne (tgt := 10) hx hb dX4_addHouse_4 (by decide) (fun c_1 => ?_) (fun c_1 => ?_)
  · skip
    refine lv_aload_n hx hb dX4_addHouse_10 rfl (lv_at hl 0 rfl) ?_
    refine r_get hx hb hts hown hK hW (C := RX4) (T := TX4) (xF_street r hr) inlX4 rfl (by decide) 5 (by decide) (xr_street r hr).2.2.2.2.2.1 xw_104 rfl (x := nI nh) hh dX4_addHouse_11 ?_
    refine lv_bipush (v := 8) hx hb dX4_addHouse_14 (by decide) ?_
    refine lv_icmp_lt (tgt := 22) hx hb dX4_addHouse_16 (by decide) (fun c_2 => ?_) (fun c_2 => ?_)
    · skip
      have hlt9 : nh < 8 := xge8 8 rfl (by decide) (by omega) c_2
      refine lv_aload_n hx hb dX4_addHouse_22 rfl (lv_at hl 0 rfl) ?_
      refine r_getr (C := RX4) (T := TX4) hx hb hts hown hK hW (xF_street r hr).1 (xF_street r hr).2.1 inlX4 rfl (by decide) 2 (by decide) (xr_street r hr).2.2.1 xw_38 rfl dX4_addHouse_23 ?_
      refine lv_aload_n hx hb dX4_addHouse_26 rfl (lv_at hl 0 rfl) ?_
      refine r_get hx hb hts hown hK hW (C := RX4) (T := TX4) (xF_street r hr) inlX4 rfl (by decide) 5 (by decide) (xr_street r hr).2.2.2.2.2.1 xw_104 rfl (x := nI nh) hh dX4_addHouse_27 ?_
      refine r_aald hx hb hK hW (xF_houses r hr).1 (xF_houses r hr).2 (by decide) 5 rfl nh hlt9 (by decide) rfl (xr_houses r hr nh hlt9) dX4_addHouse_30 ?_
      refine lv_iload_n hx hb dX4_addHouse_31 rfl (lv_at hl 1 rfl) ?_
      have hW := XR.foc3 hW nh
      refine x_callV hx hb hml hown hts hK hW hl.1 (c_X1_place l X G (r := r) (i := nh) (a := x) (hr := hr) (hi := hlt9) ) (xF_house r hr nh hlt9).1 (xF_house r hr nh hlt9).2.1 (by decide) rfl xw_214 xw_215 xw_216 xw_48 xw_217 hdV_yX1_place ⟨Nat.le_of_ble_eq_true rfl, Nat.le_of_ble_eq_true rfl⟩ rfl (Nat.le_of_ble_eq_true rfl) ⟨Nat.le_refl _, Nat.le_refl _⟩ dX4_addHouse_32 (fun H locs hW => ?_)
      have hW : XR X G r (xSt f sg L (va_up O nh (va_up (va_up (O nh) 0 x) 1 0)) Y P Q) H locs := hW
      refine lv_aload_n hx hb dX4_addHouse_35 rfl (lv_at hl 0 rfl) ?_
      refine lv_dup hx hb dX4_addHouse_36 rfl ?_
      refine r_get hx hb hts hown hK hW (C := RX4) (T := TX4) (xF_street r hr) inlX4 rfl (by decide) 5 (by decide) (xr_street r hr).2.2.2.2.2.1 xw_104 rfl (x := nI nh) hh dX4_addHouse_37 ?_
      refine lv_iconst (v := 1) hx hb dX4_addHouse_40 (by decide) ?_
      refine lv_iadd hx hb dX4_addHouse_41 ?_
      refine r_put hx hb hts hown hK hW (C := RX4) (T := TX4) (xF_street r hr) inlX4 tyX4 tyX4_ok nmX4 rfl (by decide) 5 (by decide) (xr_street r hr).2.2.2.2.2.1 xw_104 rfl rfl rfl rfl xSt0 dX4_addHouse_42 (fun H locs hW => ?_)
      refine lv_aload_n hx hb dX4_addHouse_45 rfl (lv_at hl 0 rfl) ?_
      refine r_get hx hb hts hown hK hW (C := RX4) (T := TX4) (xF_street r hr) inlX4 rfl (by decide) 5 (by decide) (xr_street r hr).2.2.2.2.2.1 xw_104 rfl (x := (nI nh) + 1) rfl dX4_addHouse_46 ?_
      refine lv_iconst (v := 1) hx hb dX4_addHouse_49 (by decide) ?_
      refine lv_isub hx hb dX4_addHouse_50 ?_
      obtain rfl : (va_up f 5 ((nI nh) + 1)) = f' := by (rw [← ho0]) <;> (simp [FhouseF, OHouse, FhouseR, x11, c_1, c_2, Int32.not_le.mpr c_2])
      obtain rfl : (va_up O nh (va_up (va_up (O nh) 0 x) 1 0)) = O' := by (rw [← ho1]) <;> (simp [FhouseF, OHouse, FhouseR, x11, c_1, c_2, Int32.not_le.mpr c_2])
      obtain rfl : ((nI nh) + 1) - 1 = res := by (rw [← hres]) <;> (simp [FhouseF, OHouse, FhouseR, x11, c_1, c_2, Int32.not_le.mpr c_2])
      rw [hQ0]
      exact x_iret hx hb hret hlocks rfl hW rfl dX4_addHouse_51
    · skip
      refine lv_bipush (v := (-4)) hx hb dX4_addHouse_19 (by decide) ?_
      obtain rfl : f = f' := by (rw [← ho0]) <;> (simp [FhouseF, OHouse, FhouseR, x11, c_1, c_2, Int32.not_lt.mp c_2])
      obtain rfl : O = O' := by (rw [← ho1]) <;> (simp [FhouseF, OHouse, FhouseR, x11, c_1, c_2, Int32.not_lt.mp c_2])
      obtain rfl : (-4) = res := by (rw [← hres]) <;> (simp [FhouseF, OHouse, FhouseR, x11, c_1, c_2, Int32.not_lt.mp c_2])
      rw [hQ0]
      exact x_iret hx hb hret hlocks rfl hW rfl dX4_addHouse_21
  · skip
    refine lv_bipush (v := (-2)) hx hb dX4_addHouse_7 (by decide) ?_
    obtain rfl : f = f' := by (rw [← ho0]) <;> (simp [FhouseF, OHouse, FhouseR, x11, c_1])
    obtain rfl : O = O' := by (rw [← ho1]) <;> (simp [FhouseF, OHouse, FhouseR, x11, c_1])
    obtain rfl : (-2) = res := by (rw [← hres]) <;> (simp [FhouseF, OHouse, FhouseR, x11, c_1])
    rw [hQ0]
    exact x_iret hx hb hret hlocks rfl hW rfl dX4_addHouse_9
set_option maxHeartbeats 4000000 in
set_option maxRecDepth 100000 in
theorem c_X4_addWalker (l : Launch) (X : xX) (G : xG) {r : Nat} {f sg : Nat → Int32} {L O Y P Q : Nat → Nat → Int32} {nw : Nat} {x y : Int32} (hr : r < 11) (hw : f 6 = nI nw) (hw8 : nw ≤ 8) {f' : Nat → Int32} (ho0 : (Fwalker x y nw f f (va_up f 6 (nI nw + 1))) = f') {Y' : Nat → Nat → Int32} (ho1 : (Fwalker x y nw Y Y (va_up Y nw (FplaceW x y (Y nw)))) = Y') {res : Int32} (hres : (Fwalker x y nw (-2) (-4) (nI nw)) = res) : XC l yX4_addWalker cX4_addWalker 3 (some .int) 2 42 0 0 X xsh [.ref (xB X + xkey r 0 0), .int x, .int y] 603 603 (xval (xB X) (va_up G r (xSt f sg L O Y P Q))) (xval (xB X) (va_up G r (xSt f' sg L O Y' P Q))) (some (.int res)) := by
  refine XC.of RX4 "addWalker" [(0, .ref (xB X + xkey r 0 0)), (1, .int x), (2, .int y)] (by decide) rfl rfl (Nat.le_of_ble_eq_true rfl) rfl ?_
  intro p e s m args below meth c ls hx hb hret hml hts hown hlocks hnm hK hW hl
  have hW : XR X G r (xSt f sg L O Y P Q) s.heap [] := hW
  obtain ⟨Q0, hQ0⟩ : ∃ z, z = MQ below (xQ X xsh 603 (xval (xB X) (va_up G r (xSt f' sg L O Y' P Q))) (some (.int res))) args s 0 0 (fun q => xB X ≤ q) := ⟨_, rfl⟩
  rw [← hQ0]
  refine lv_iload_n hx hb dX4_addWalker_0 rfl (lv_at hl 1 rfl) ?_
  refine x_callSN hx hb hml hown hts hK hW hl.1 (c_X6_isStep l X _ (v := x) (hres := rfl)) (by simp [xNestM]) xw_180 xw_2 xw_181 hdS_yX6_isStep ⟨Nat.le_of_ble_eq_true rfl, Nat.le_of_ble_eq_true rfl⟩ rfl (Nat.le_of_ble_eq_true rfl) ⟨Nat.le_refl _, Nat.le_refl _⟩ dX4_addWalker_1 (fun H locs hW => ?_)
  refine lv_if_eq (tgt := 16) hx hb dX4_addWalker_4 (by decide) (fun c_1 => ?_) (fun c_1 => ?_)
  · skip
    refine lv_bipush (v := (-2)) hx hb dX4_addWalker_16 (by decide) ?_
    obtain rfl : f = f' := by (rw [← ho0]) <;> (simp [Fwalker, x11, c_1])
    obtain rfl : Y = Y' := by (rw [← ho1]) <;> (simp [Fwalker, x11, c_1])
    obtain rfl : (-2) = res := by (rw [← hres]) <;> (simp [Fwalker, x11, c_1])
    rw [hQ0]
    exact x_iret hx hb hret hlocks rfl hW rfl dX4_addWalker_18
  · skip
    refine lv_iload_n hx hb dX4_addWalker_7 rfl (lv_at hl 2 rfl) ?_
    refine lv_iconst (v := 1) hx hb dX4_addWalker_8 (by decide) ?_
    refine lv_iconst (v := 4) hx hb dX4_addWalker_9 (by decide) ?_
    refine x_callSN hx hb hml hown hts hK hW hl.1 (c_X6_within l X _ (v := y) (lo := 1) (hi := 4) (hres := rfl)) (by simp [xNestM]) xw_144 xw_2 xw_145 hdS_yX6_within ⟨Nat.le_of_ble_eq_true rfl, Nat.le_of_ble_eq_true rfl⟩ rfl (Nat.le_of_ble_eq_true rfl) ⟨Nat.le_refl _, Nat.le_refl _⟩ dX4_addWalker_10 (fun H locs hW => ?_)
    refine lv_if_ne (tgt := 19) hx hb dX4_addWalker_13 (by decide) (fun c_2 => ?_) (fun c_2 => ?_)
    · skip
      refine lv_aload_n hx hb dX4_addWalker_19 rfl (lv_at hl 0 rfl) ?_
      refine r_get hx hb hts hown hK hW (C := RX4) (T := TX4) (xF_street r hr) inlX4 rfl (by decide) 6 (by decide) (xr_street r hr).2.2.2.2.2.2.1 xw_105 rfl (x := nI nw) hw dX4_addWalker_20 ?_
      refine lv_bipush (v := 8) hx hb dX4_addWalker_23 (by decide) ?_
      refine lv_icmp_lt (tgt := 31) hx hb dX4_addWalker_25 (by decide) (fun c_3 => ?_) (fun c_3 => ?_)
      · skip
        have hlt9 : nw < 8 := xge8 8 rfl (by decide) (by omega) c_3
        refine lv_aload_n hx hb dX4_addWalker_31 rfl (lv_at hl 0 rfl) ?_
        refine r_getr (C := RX4) (T := TX4) hx hb hts hown hK hW (xF_street r hr).1 (xF_street r hr).2.1 inlX4 rfl (by decide) 3 (by decide) (xr_street r hr).2.2.2.1 xw_40 rfl dX4_addWalker_32 ?_
        refine lv_aload_n hx hb dX4_addWalker_35 rfl (lv_at hl 0 rfl) ?_
        refine r_get hx hb hts hown hK hW (C := RX4) (T := TX4) (xF_street r hr) inlX4 rfl (by decide) 6 (by decide) (xr_street r hr).2.2.2.2.2.2.1 xw_105 rfl (x := nI nw) hw dX4_addWalker_36 ?_
        refine r_aald hx hb hK hW (xF_walkers r hr).1 (xF_walkers r hr).2 (by decide) 6 rfl nw hlt9 (by decide) rfl (xr_walkers r hr nw hlt9) dX4_addWalker_39 ?_
        refine lv_iload_n hx hb dX4_addWalker_40 rfl (lv_at hl 1 rfl) ?_
        refine lv_iload_n hx hb dX4_addWalker_41 rfl (lv_at hl 2 rfl) ?_
        have hW := XR.foc4 hW nw
        have hW := XR.foc5 hW nw
        have hW := XR.foc6 hW nw
        refine x_callV hx hb hml hown hts hK hW hl.1 (c_X5_place l X G (r := r) (i := nw) (a := x) (b := y) (hr := hr) (hi := hlt9) (ho0 := rfl)) (xF_walker r hr nw hlt9).1 (xF_walker r hr nw hlt9).2.1 (by decide) rfl xw_230 xw_231 xw_232 xw_50 xw_233 hdV_yX5_place ⟨Nat.le_of_ble_eq_true rfl, Nat.le_of_ble_eq_true rfl⟩ rfl (Nat.le_of_ble_eq_true rfl) ⟨Nat.le_refl _, Nat.le_refl _⟩ dX4_addWalker_42 (fun H locs hW => ?_)
        have hW : XR X G r (xSt f sg L O (va_up Y nw (FplaceW x y (Y nw))) (va_up P nw (P nw)) (va_up Q nw (Q nw))) H locs := hW
        have hW : XR X G r (xSt f sg L O (va_up Y nw (FplaceW x y (Y nw))) P (va_up Q nw (Q nw))) H locs := XR.unf5 hW
        have hW : XR X G r (xSt f sg L O (va_up Y nw (FplaceW x y (Y nw))) P Q) H locs := XR.unf6 hW
        refine lv_aload_n hx hb dX4_addWalker_45 rfl (lv_at hl 0 rfl) ?_
        refine lv_dup hx hb dX4_addWalker_46 rfl ?_
        refine r_get hx hb hts hown hK hW (C := RX4) (T := TX4) (xF_street r hr) inlX4 rfl (by decide) 6 (by decide) (xr_street r hr).2.2.2.2.2.2.1 xw_105 rfl (x := nI nw) hw dX4_addWalker_47 ?_
        refine lv_iconst (v := 1) hx hb dX4_addWalker_50 (by decide) ?_
        refine lv_iadd hx hb dX4_addWalker_51 ?_
        refine r_put hx hb hts hown hK hW (C := RX4) (T := TX4) (xF_street r hr) inlX4 tyX4 tyX4_ok nmX4 rfl (by decide) 6 (by decide) (xr_street r hr).2.2.2.2.2.2.1 xw_105 rfl rfl rfl rfl xSt0 dX4_addWalker_52 (fun H locs hW => ?_)
        refine lv_aload_n hx hb dX4_addWalker_55 rfl (lv_at hl 0 rfl) ?_
        refine r_get hx hb hts hown hK hW (C := RX4) (T := TX4) (xF_street r hr) inlX4 rfl (by decide) 6 (by decide) (xr_street r hr).2.2.2.2.2.2.1 xw_105 rfl (x := (nI nw) + 1) rfl dX4_addWalker_56 ?_
        refine lv_iconst (v := 1) hx hb dX4_addWalker_59 (by decide) ?_
        refine lv_isub hx hb dX4_addWalker_60 ?_
        obtain rfl : (va_up f 6 ((nI nw) + 1)) = f' := by (rw [← ho0]) <;> (simp [Fwalker, x11, c_1, c_2, c_3, Int32.not_le.mpr c_3])
        obtain rfl : (va_up Y nw (FplaceW x y (Y nw))) = Y' := by (rw [← ho1]) <;> (simp [Fwalker, x11, c_1, c_2, c_3, Int32.not_le.mpr c_3])
        obtain rfl : ((nI nw) + 1) - 1 = res := by (rw [← hres]) <;> (simp [Fwalker, x11, c_1, c_2, c_3, Int32.not_le.mpr c_3])
        rw [hQ0]
        exact x_iret hx hb hret hlocks rfl hW rfl dX4_addWalker_61
      · skip
        refine lv_bipush (v := (-4)) hx hb dX4_addWalker_28 (by decide) ?_
        obtain rfl : f = f' := by (rw [← ho0]) <;> (simp [Fwalker, x11, c_1, c_2, c_3, Int32.not_lt.mp c_3])
        obtain rfl : Y = Y' := by (rw [← ho1]) <;> (simp [Fwalker, x11, c_1, c_2, c_3, Int32.not_lt.mp c_3])
        obtain rfl : (-4) = res := by (rw [← hres]) <;> (simp [Fwalker, x11, c_1, c_2, c_3, Int32.not_lt.mp c_3])
        rw [hQ0]
        exact x_iret hx hb hret hlocks rfl hW rfl dX4_addWalker_30
    · skip
      refine lv_bipush (v := (-2)) hx hb dX4_addWalker_16 (by decide) ?_
      obtain rfl : f = f' := by (rw [← ho0]) <;> (simp [Fwalker, x11, c_1, c_2])
      obtain rfl : Y = Y' := by (rw [← ho1]) <;> (simp [Fwalker, x11, c_1, c_2])
      obtain rfl : (-2) = res := by (rw [← hres]) <;> (simp [Fwalker, x11, c_1, c_2])
      rw [hQ0]
      exact x_iret hx hb hret hlocks rfl hW rfl dX4_addWalker_18
set_option maxHeartbeats 4000000 in
set_option maxRecDepth 100000 in
theorem c_X4_addLamp (l : Launch) (X : xX) (G : xG) {r : Nat} {f sg : Nat → Int32} {L O Y P Q : Nat → Nat → Int32} {n : Nat} {x y : Int32} (hr : r < 11) (hn : f 4 = nI n) (hn16 : n ≤ 16) {f' : Nat → Int32} (ho0 : (Flamp x y n L f f f (va_up f 4 (nI n + 1))) = f') {L' : Nat → Nat → Int32} (ho1 : (Flamp x y n L L L L (va_up L n (Fplace x y (L n)))) = L') {res : Int32} (hres : (Flamp x y n L (-2) (-4) (-5) (nI n)) = res) : XC l yX4_addLamp cX4_addLamp 4 (some .int) 2 42 0 0 X xsh [.ref (xB X + xkey r 0 0), .int x, .int y] 603 603 (xval (xB X) (va_up G r (xSt f sg L O Y P Q))) (xval (xB X) (va_up G r (xSt f' sg L' O Y P Q))) (some (.int res)) := by
  refine XC.of RX4 "addLamp" [(0, .ref (xB X + xkey r 0 0)), (1, .int x), (2, .int y)] (by decide) rfl rfl (Nat.le_of_ble_eq_true rfl) rfl ?_
  intro p e s m args below meth c ls hx hb hret hml hts hown hlocks hnm hK hW hl
  have hW : XR X G r (xSt f sg L O Y P Q) s.heap [] := hW
  obtain ⟨Q0, hQ0⟩ : ∃ z, z = MQ below (xQ X xsh 603 (xval (xB X) (va_up G r (xSt f' sg L' O Y P Q))) (some (.int res))) args s 0 0 (fun q => xB X ≤ q) := ⟨_, rfl⟩
  rw [← hQ0]
  refine lv_iload_n hx hb dX4_addLamp_0 rfl (lv_at hl 1 rfl) ?_
  refine x_callSN hx hb hml hown hts hK hW hl.1 (c_X6_isStep l X _ (v := x) (hres := rfl)) (by simp [xNestM]) xw_180 xw_2 xw_181 hdS_yX6_isStep ⟨Nat.le_of_ble_eq_true rfl, Nat.le_of_ble_eq_true rfl⟩ rfl (Nat.le_of_ble_eq_true rfl) ⟨Nat.le_refl _, Nat.le_refl _⟩ dX4_addLamp_1 (fun H locs hW => ?_)
  refine lv_if_eq (tgt := 17) hx hb dX4_addLamp_4 (by decide) (fun c_1 => ?_) (fun c_1 => ?_)
  · skip
    refine lv_bipush (v := (-2)) hx hb dX4_addLamp_17 (by decide) ?_
    obtain rfl : f = f' := by (rw [← ho0]) <;> (simp [Flamp, x11, c_1])
    obtain rfl : L = L' := by (rw [← ho1]) <;> (simp [Flamp, x11, c_1])
    obtain rfl : (-2) = res := by (rw [← hres]) <;> (simp [Flamp, x11, c_1])
    rw [hQ0]
    exact x_iret hx hb hret hlocks rfl hW rfl dX4_addLamp_19
  · skip
    refine lv_iload_n hx hb dX4_addLamp_7 rfl (lv_at hl 2 rfl) ?_
    refine lv_iconst (v := 1) hx hb dX4_addLamp_8 (by decide) ?_
    refine lv_bipush (v := 30) hx hb dX4_addLamp_9 (by decide) ?_
    refine x_callSN hx hb hml hown hts hK hW hl.1 (c_X6_within l X _ (v := y) (lo := 1) (hi := 30) (hres := rfl)) (by simp [xNestM]) xw_144 xw_2 xw_145 hdS_yX6_within ⟨Nat.le_of_ble_eq_true rfl, Nat.le_of_ble_eq_true rfl⟩ rfl (Nat.le_of_ble_eq_true rfl) ⟨Nat.le_refl _, Nat.le_refl _⟩ dX4_addLamp_11 (fun H locs hW => ?_)
    refine lv_if_ne (tgt := 20) hx hb dX4_addLamp_14 (by decide) (fun c_2 => ?_) (fun c_2 => ?_)
    · skip
      refine lv_aload_n hx hb dX4_addLamp_20 rfl (lv_at hl 0 rfl) ?_
      refine r_get hx hb hts hown hK hW (C := RX4) (T := TX4) (xF_street r hr) inlX4 rfl (by decide) 4 (by decide) (xr_street r hr).2.2.2.2.1 xw_103 rfl (x := nI n) hn dX4_addLamp_21 ?_
      refine lv_bipush (v := 16) hx hb dX4_addLamp_24 (by decide) ?_
      refine lv_icmp_lt (tgt := 32) hx hb dX4_addLamp_26 (by decide) (fun c_3 => ?_) (fun c_3 => ?_)
      · skip
        have hlt9 : n < 16 := xge8 16 rfl (by decide) (by omega) c_3
        refine lv_iconst (v := nI 0) hx hb dX4_addLamp_32 (by decide) ?_
        refine lv_istore_n (lv' := [(3, .int (nI 0)), (0, .ref (xB X + xkey r 0 0)), (1, .int x), (2, .int y)]) hx hb dX4_addLamp_33 rfl hl (by decide) rfl (fun ls hl => ?_)
        have loop_34 : ∀ (k_34 i : Nat) , i + k_34 = n → xfind (fun i => if L i 0 = x then 1 else 0) k_34 i = xfind (fun i => if L i 0 = x then 1 else 0) n 0 → ∀ (H : Heap) (locs : List Loc) (ls : Array Slot), XR X G r (xSt f sg L O Y P Q) H locs → lv_has ls 4 [(0, .ref (xB X + xkey r 0 0)), (1, .int x), (2, .int y), (3, .int (nI i))] → W p l e { frames := 2, cells := 0, slots := 0, locals := 42 } s m args below meth c H locs 0 0 Q0 (F0 m 34 ls []) := by
          intro k_34
          induction k_34 with
          | zero =>
            intro i  hik_34  hsp_34 H locs ls hW hl
            refine lv_iload_n hx hb dX4_addLamp_34 rfl (lv_at hl 3 rfl) ?_
            refine lv_aload_n hx hb dX4_addLamp_35 rfl (lv_at hl 0 rfl) ?_
            refine r_get hx hb hts hown hK hW (C := RX4) (T := TX4) (xF_street r hr) inlX4 rfl (by decide) 4 (by decide) (xr_street r hr).2.2.2.2.1 xw_103 rfl (x := nI n) hn dX4_addLamp_36 ?_
            refine lv_icmp_ge (tgt := 64) hx hb dX4_addLamp_39 (by decide) (fun c_4 => ?_) (fun c_4 => absurd (xge_refl (by omega)) c_4)
            refine lv_aload_n hx hb dX4_addLamp_64 rfl (lv_at hl 0 rfl) ?_
            refine r_getr (C := RX4) (T := TX4) hx hb hts hown hK hW (xF_street r hr).1 (xF_street r hr).2.1 inlX4 rfl (by decide) 1 (by decide) (xr_street r hr).2.1 xw_36 rfl dX4_addLamp_65 ?_
            refine lv_aload_n hx hb dX4_addLamp_68 rfl (lv_at hl 0 rfl) ?_
            refine r_get hx hb hts hown hK hW (C := RX4) (T := TX4) (xF_street r hr) inlX4 rfl (by decide) 4 (by decide) (xr_street r hr).2.2.2.2.1 xw_103 rfl (x := nI n) hn dX4_addLamp_69 ?_
            refine r_aald hx hb hK hW (xF_lamps r hr).1 (xF_lamps r hr).2 (by decide) 4 rfl n hlt9 (by decide) rfl (xr_lamps r hr n hlt9) dX4_addLamp_72 ?_
            refine lv_iload_n hx hb dX4_addLamp_73 rfl (lv_at hl 1 rfl) ?_
            refine lv_iload_n hx hb dX4_addLamp_74 rfl (lv_at hl 2 rfl) ?_
            have hW := XR.foc2 hW n
            refine x_callV hx hb hml hown hts hK hW hl.1 (c_X2_place l X G (r := r) (i := n) (a := x) (b := y) (hr := hr) (hi := hlt9) (ho0 := rfl)) (xF_lamp r hr n hlt9).1 (xF_lamp r hr n hlt9).2.1 (by decide) rfl xw_183 xw_184 xw_185 xw_46 xw_186 hdV_yX2_place ⟨Nat.le_of_ble_eq_true rfl, Nat.le_of_ble_eq_true rfl⟩ rfl (Nat.le_of_ble_eq_true rfl) ⟨Nat.le_refl _, Nat.le_refl _⟩ dX4_addLamp_75 (fun H locs hW => ?_)
            have hW : XR X G r (xSt f sg (va_up L n (Fplace x y (L n))) O Y P Q) H locs := hW
            refine lv_aload_n hx hb dX4_addLamp_78 rfl (lv_at hl 0 rfl) ?_
            refine lv_dup hx hb dX4_addLamp_79 rfl ?_
            refine r_get hx hb hts hown hK hW (C := RX4) (T := TX4) (xF_street r hr) inlX4 rfl (by decide) 4 (by decide) (xr_street r hr).2.2.2.2.1 xw_103 rfl (x := nI n) hn dX4_addLamp_80 ?_
            refine lv_iconst (v := 1) hx hb dX4_addLamp_83 (by decide) ?_
            refine lv_iadd hx hb dX4_addLamp_84 ?_
            refine r_put hx hb hts hown hK hW (C := RX4) (T := TX4) (xF_street r hr) inlX4 tyX4 tyX4_ok nmX4 rfl (by decide) 4 (by decide) (xr_street r hr).2.2.2.2.1 xw_103 rfl rfl rfl rfl xSt0 dX4_addLamp_85 (fun H locs hW => ?_)
            refine lv_aload_n hx hb dX4_addLamp_88 rfl (lv_at hl 0 rfl) ?_
            refine r_get hx hb hts hown hK hW (C := RX4) (T := TX4) (xF_street r hr) inlX4 rfl (by decide) 4 (by decide) (xr_street r hr).2.2.2.2.1 xw_103 rfl (x := (nI n) + 1) rfl dX4_addLamp_89 ?_
            refine lv_iconst (v := 1) hx hb dX4_addLamp_92 (by decide) ?_
            refine lv_isub hx hb dX4_addLamp_93 ?_
            obtain rfl : (va_up f 4 ((nI n) + 1)) = f' := by (rw [← ho0]) <;> (have e9 : Fat n x L = 0 := hsp_34.symm; simp [Flamp, x11, c_1, c_2, c_3, Int32.not_le.mpr c_3, c_4, e9])
            obtain rfl : (va_up L n (Fplace x y (L n))) = L' := by (rw [← ho1]) <;> (have e9 : Fat n x L = 0 := hsp_34.symm; simp [Flamp, x11, c_1, c_2, c_3, Int32.not_le.mpr c_3, c_4, e9])
            obtain rfl : ((nI n) + 1) - 1 = res := by (rw [← hres]) <;> (have e9 : Fat n x L = 0 := hsp_34.symm; simp [Flamp, x11, c_1, c_2, c_3, Int32.not_le.mpr c_3, c_4, e9])
            rw [hQ0]
            exact x_iret hx hb hret hlocks rfl hW rfl dX4_addLamp_94
          | succ k_34 ih_34 =>
            intro i  hik_34  hsp_34 H locs ls hW hl
            refine lv_iload_n hx hb dX4_addLamp_34 rfl (lv_at hl 3 rfl) ?_
            refine lv_aload_n hx hb dX4_addLamp_35 rfl (lv_at hl 0 rfl) ?_
            refine r_get hx hb hts hown hK hW (C := RX4) (T := TX4) (xF_street r hr) inlX4 rfl (by decide) 4 (by decide) (xr_street r hr).2.2.2.2.1 xw_103 rfl (x := nI n) hn dX4_addLamp_36 ?_
            refine lv_icmp_ge (tgt := 64) hx hb dX4_addLamp_39 (by decide) (fun c_5 => absurd c_5 (nI_ge (by omega) (by omega))) (fun c_5 => ?_)
            refine lv_aload_n hx hb dX4_addLamp_42 rfl (lv_at hl 0 rfl) ?_
            refine r_getr (C := RX4) (T := TX4) hx hb hts hown hK hW (xF_street r hr).1 (xF_street r hr).2.1 inlX4 rfl (by decide) 1 (by decide) (xr_street r hr).2.1 xw_36 rfl dX4_addLamp_43 ?_
            refine lv_iload_n hx hb dX4_addLamp_46 rfl (lv_at hl 3 rfl) ?_
            refine r_aald hx hb hK hW (xF_lamps r hr).1 (xF_lamps r hr).2 (by decide) 4 rfl i (by omega) (by decide) rfl (xr_lamps r hr i (by omega)) dX4_addLamp_47 ?_
            refine r_get hx hb hts hown hK hW (C := RX2) (T := TX2) (xF_lamp r hr i (by omega)) inlX2 rfl (by decide) 0 (by decide) (xr_lamp r hr i (by omega) 0 (by decide)) xw_179 rfl (x := L i 0) rfl dX4_addLamp_48 ?_
            refine lv_iload_n hx hb dX4_addLamp_51 rfl (lv_at hl 1 rfl) ?_
            refine lv_icmp_ne (tgt := 58) hx hb dX4_addLamp_52 (by decide) (fun c_6 => ?_) (fun c_6 => ?_)
            · skip
              refine lv_iinc (v := nI (i + 1)) (lv' := [(3, .int (nI (i + 1))), (0, .ref (xB X + xkey r 0 0)), (1, .int x), (2, .int y)]) hx hb dX4_addLamp_58 hl (k := 3) rfl (nI_1 i) (by decide) rfl (fun ls hl => ?_)
              refine lv_goto (tgt := 34) hx hb dX4_addLamp_61 (by decide) ?_
              refine ih_34 (i + 1)  (by omega)  ?_ H locs ls hW (lv_sub hl [1, 2, 3, 0] rfl)
              rw [← hsp_34]; simp [xloop, xfind, Flamp, x11, c_1, c_2, c_3, Int32.not_le.mpr c_3, c_5, c_6]
            · skip
              refine lv_bipush (v := (-5)) hx hb dX4_addLamp_55 (by decide) ?_
              obtain rfl : f = f' := by (rw [← ho0]) <;> (have e9 : ¬ Fat n x L = 0 := (by show ¬ xfind _ n 0 = 0; rw [← hsp_34]; simp [xfind, c_1, c_2, c_3, Int32.not_le.mpr c_3, c_5, c_6]); simp [Flamp, x11, c_1, c_2, c_3, Int32.not_le.mpr c_3, c_5, c_6, e9])
              obtain rfl : L = L' := by (rw [← ho1]) <;> (have e9 : ¬ Fat n x L = 0 := (by show ¬ xfind _ n 0 = 0; rw [← hsp_34]; simp [xfind, c_1, c_2, c_3, Int32.not_le.mpr c_3, c_5, c_6]); simp [Flamp, x11, c_1, c_2, c_3, Int32.not_le.mpr c_3, c_5, c_6, e9])
              obtain rfl : (-5) = res := by (rw [← hres]) <;> (have e9 : ¬ Fat n x L = 0 := (by show ¬ xfind _ n 0 = 0; rw [← hsp_34]; simp [xfind, c_1, c_2, c_3, Int32.not_le.mpr c_3, c_5, c_6]); simp [Flamp, x11, c_1, c_2, c_3, Int32.not_le.mpr c_3, c_5, c_6, e9])
              rw [hQ0]
              exact x_iret hx hb hret hlocks rfl hW rfl dX4_addLamp_57
        exact loop_34 n 0  (by omega)  rfl _ _ _ hW (lv_sub hl [1, 2, 3, 0] rfl)
      · skip
        refine lv_bipush (v := (-4)) hx hb dX4_addLamp_29 (by decide) ?_
        obtain rfl : f = f' := by (rw [← ho0]) <;> (simp [Flamp, x11, c_1, c_2, c_3, Int32.not_lt.mp c_3])
        obtain rfl : L = L' := by (rw [← ho1]) <;> (simp [Flamp, x11, c_1, c_2, c_3, Int32.not_lt.mp c_3])
        obtain rfl : (-4) = res := by (rw [← hres]) <;> (simp [Flamp, x11, c_1, c_2, c_3, Int32.not_lt.mp c_3])
        rw [hQ0]
        exact x_iret hx hb hret hlocks rfl hW rfl dX4_addLamp_31
    · skip
      refine lv_bipush (v := (-2)) hx hb dX4_addLamp_17 (by decide) ?_
      obtain rfl : f = f' := by (rw [← ho0]) <;> (simp [Flamp, x11, c_1, c_2])
      obtain rfl : L = L' := by (rw [← ho1]) <;> (simp [Flamp, x11, c_1, c_2])
      obtain rfl : (-2) = res := by (rw [← hres]) <;> (simp [Flamp, x11, c_1, c_2])
      rw [hQ0]
      exact x_iret hx hb hret hlocks rfl hW rfl dX4_addLamp_19
set_option maxHeartbeats 4000000 in
set_option maxRecDepth 100000 in
theorem c_X4_giveGoal (l : Launch) (X : xX) (G : xG) {r : Nat} {f sg : Nat → Int32} {L O Y P Q : Nat → Nat → Int32} {nw : Nat} {x a b : Int32} {gq : Nat → Nat} (hr : r < 11) (hw : f 6 = nI nw) (hw8 : nw ≤ 8) (hgq : ∀ j, j < 8 → gq j ≤ 6 ∧ Y j 2 = nI (gq j)) {Y' : Nat → Nat → Int32} (ho0 : (Fgoal nw x a b Y Y (va_up Y x.toNatClampNeg (FaddW (Y x.toNatClampNeg)))) = Y') {P' : Nat → Nat → Int32} (ho1 : (Fgoal nw x a b P P (va_up P x.toNatClampNeg (FaddP (gq x.toNatClampNeg) a (Y x.toNatClampNeg) (P x.toNatClampNeg)))) = P') {Q' : Nat → Nat → Int32} (ho2 : (Fgoal nw x a b Q Q (va_up Q x.toNatClampNeg (FaddP (gq x.toNatClampNeg) b (Y x.toNatClampNeg) (Q x.toNatClampNeg)))) = Q') {res : Int32} (hres : (Fgoal nw x a b (-1) (-2) (FaddR (Y x.toNatClampNeg))) = res) : XC l yX4_giveGoal cX4_giveGoal 4 (some .int) 2 42 0 0 X xsh [.ref (xB X + xkey r 0 0), .int x, .int a, .int b] 603 603 (xval (xB X) (va_up G r (xSt f sg L O Y P Q))) (xval (xB X) (va_up G r (xSt f sg L O Y' P' Q'))) (some (.int res)) := by
  refine XC.of RX4 "giveGoal" [(0, .ref (xB X + xkey r 0 0)), (1, .int x), (2, .int a), (3, .int b)] (by decide) rfl rfl (Nat.le_of_ble_eq_true rfl) rfl ?_
  intro p e s m args below meth c ls hx hb hret hml hts hown hlocks hnm hK hW hl
  have hW : XR X G r (xSt f sg L O Y P Q) s.heap [] := hW
  obtain ⟨Q0, hQ0⟩ : ∃ z, z = MQ below (xQ X xsh 603 (xval (xB X) (va_up G r (xSt f sg L O Y' P' Q'))) (some (.int res))) args s 0 0 (fun q => xB X ≤ q) := ⟨_, rfl⟩
  rw [← hQ0]
  refine lv_aload_n hx hb dX4_giveGoal_0 rfl (lv_at hl 0 rfl) ?_
  refine lv_iload_n hx hb dX4_giveGoal_1 rfl (lv_at hl 1 rfl) ?_
  refine x_callV hx hb hml hown hts hK hW hl.1 (c_X4_hasWalker l X G (r := r) (nw := nw) (x := x) (hr := hr) (hw := (by assumption)) (hw8 := (by assumption)) (hres := rfl)) (xF_street r hr).1 (xF_street r hr).2.1 (by decide) rfl xw_258 xw_259 xw_260 xw_15 xw_261 hdV_yX4_hasWalker ⟨Nat.le_of_ble_eq_true rfl, Nat.le_of_ble_eq_true rfl⟩ rfl (Nat.le_of_ble_eq_true rfl) ⟨Nat.le_refl _, Nat.le_refl _⟩ dX4_giveGoal_2 (fun H locs hW => ?_)
  refine lv_if_ne (tgt := 10) hx hb dX4_giveGoal_5 (by decide) (fun c_1 => ?_) (fun c_1 => ?_)
  · skip
    have hx9 := xhas (x := x) (n := nw) (by omega) c_1
    have hx8 : x.toNatClampNeg < nw := hx9.1
    refine lv_iload_n hx hb dX4_giveGoal_10 rfl (lv_at hl 2 rfl) ?_
    refine x_callSN hx hb hml hown hts hK hW hl.1 (c_X6_isStep l X _ (v := a) (hres := rfl)) (by simp [xNestM]) xw_180 xw_2 xw_181 hdS_yX6_isStep ⟨Nat.le_of_ble_eq_true rfl, Nat.le_of_ble_eq_true rfl⟩ rfl (Nat.le_of_ble_eq_true rfl) ⟨Nat.le_refl _, Nat.le_refl _⟩ dX4_giveGoal_11 (fun H locs hW => ?_)
    refine lv_if_eq (tgt := 27) hx hb dX4_giveGoal_14 (by decide) (fun c_2 => ?_) (fun c_2 => ?_)
    · skip
      refine lv_bipush (v := (-2)) hx hb dX4_giveGoal_27 (by decide) ?_
      obtain rfl : Y = Y' := by (rw [← ho0]) <;> (simp [Fgoal, c_1, c_2])
      obtain rfl : P = P' := by (rw [← ho1]) <;> (simp [Fgoal, c_1, c_2])
      obtain rfl : Q = Q' := by (rw [← ho2]) <;> (simp [Fgoal, c_1, c_2])
      obtain rfl : (-2) = res := by (rw [← hres]) <;> (simp [Fgoal, c_1, c_2])
      rw [hQ0]
      exact x_iret hx hb hret hlocks rfl hW rfl dX4_giveGoal_29
    · skip
      refine lv_iload_n hx hb dX4_giveGoal_17 rfl (lv_at hl 3 rfl) ?_
      refine lv_iconst (v := 0) hx hb dX4_giveGoal_18 (by decide) ?_
      refine lv_bipush (v := 20) hx hb dX4_giveGoal_19 (by decide) ?_
      refine x_callSN hx hb hml hown hts hK hW hl.1 (c_X6_within l X _ (v := b) (lo := 0) (hi := 20) (hres := rfl)) (by simp [xNestM]) xw_144 xw_2 xw_145 hdS_yX6_within ⟨Nat.le_of_ble_eq_true rfl, Nat.le_of_ble_eq_true rfl⟩ rfl (Nat.le_of_ble_eq_true rfl) ⟨Nat.le_refl _, Nat.le_refl _⟩ dX4_giveGoal_21 (fun H locs hW => ?_)
      refine lv_if_ne (tgt := 30) hx hb dX4_giveGoal_24 (by decide) (fun c_3 => ?_) (fun c_3 => ?_)
      · skip
        refine lv_aload_n hx hb dX4_giveGoal_30 rfl (lv_at hl 0 rfl) ?_
        refine r_getr (C := RX4) (T := TX4) hx hb hts hown hK hW (xF_street r hr).1 (xF_street r hr).2.1 inlX4 rfl (by decide) 3 (by decide) (xr_street r hr).2.2.2.1 xw_40 rfl dX4_giveGoal_31 ?_
        refine lv_iload_n hx hb dX4_giveGoal_34 rfl (lv_at hl 1 rfl) ?_
        refine r_aald hx hb hK hW (xF_walkers r hr).1 (xF_walkers r hr).2 (by decide) 6 rfl x.toNatClampNeg (by omega) (by decide) hx9.2 (xr_walkers r hr x.toNatClampNeg (by omega)) dX4_giveGoal_35 ?_
        refine lv_iload_n hx hb dX4_giveGoal_36 rfl (lv_at hl 2 rfl) ?_
        refine lv_iload_n hx hb dX4_giveGoal_37 rfl (lv_at hl 3 rfl) ?_
        have hW := XR.foc4 hW x.toNatClampNeg
        have hW := XR.foc5 hW x.toNatClampNeg
        have hW := XR.foc6 hW x.toNatClampNeg
        refine x_callV hx hb hml hown hts hK hW hl.1 (c_X5_addGoal l X G (r := r) (i := x.toNatClampNeg) (a := a) (b := b) (g := gq x.toNatClampNeg) (hr := hr) (hi := (by omega)) (hg := (hgq _ (by omega)).2) (hg6 := (hgq _ (by omega)).1) (ho0 := rfl) (ho1 := rfl) (ho2 := rfl) (hres := rfl)) (xF_walker r hr x.toNatClampNeg (by omega)).1 (xF_walker r hr x.toNatClampNeg (by omega)).2.1 (by decide) rfl xw_262 xw_263 xw_264 xw_50 xw_265 hdV_yX5_addGoal ⟨Nat.le_of_ble_eq_true rfl, Nat.le_of_ble_eq_true rfl⟩ rfl (Nat.le_of_ble_eq_true rfl) ⟨Nat.le_refl _, Nat.le_refl _⟩ dX4_giveGoal_38 (fun H locs hW => ?_)
        have hW : XR X G r (xSt f sg L O (va_up Y x.toNatClampNeg (FaddW (Y x.toNatClampNeg))) (va_up P x.toNatClampNeg (FaddP (gq x.toNatClampNeg) a (Y x.toNatClampNeg) (P x.toNatClampNeg))) (va_up Q x.toNatClampNeg (FaddP (gq x.toNatClampNeg) b (Y x.toNatClampNeg) (Q x.toNatClampNeg)))) H locs := hW
        obtain rfl : (va_up Y x.toNatClampNeg (FaddW (Y x.toNatClampNeg))) = Y' := by (rw [← ho0]) <;> (simp [Fgoal, c_1, c_2, c_3])
        obtain rfl : (va_up P x.toNatClampNeg (FaddP (gq x.toNatClampNeg) a (Y x.toNatClampNeg) (P x.toNatClampNeg))) = P' := by (rw [← ho1]) <;> (simp [Fgoal, c_1, c_2, c_3])
        obtain rfl : (va_up Q x.toNatClampNeg (FaddP (gq x.toNatClampNeg) b (Y x.toNatClampNeg) (Q x.toNatClampNeg))) = Q' := by (rw [← ho2]) <;> (simp [Fgoal, c_1, c_2, c_3])
        obtain rfl : FaddR (Y x.toNatClampNeg) = res := by (rw [← hres]) <;> (simp [Fgoal, c_1, c_2, c_3])
        rw [hQ0]
        exact x_iret hx hb hret hlocks rfl hW rfl dX4_giveGoal_41
      · skip
        refine lv_bipush (v := (-2)) hx hb dX4_giveGoal_27 (by decide) ?_
        obtain rfl : Y = Y' := by (rw [← ho0]) <;> (simp [Fgoal, c_1, c_2, c_3])
        obtain rfl : P = P' := by (rw [← ho1]) <;> (simp [Fgoal, c_1, c_2, c_3])
        obtain rfl : Q = Q' := by (rw [← ho2]) <;> (simp [Fgoal, c_1, c_2, c_3])
        obtain rfl : (-2) = res := by (rw [← hres]) <;> (simp [Fgoal, c_1, c_2, c_3])
        rw [hQ0]
        exact x_iret hx hb hret hlocks rfl hW rfl dX4_giveGoal_29
  · skip
    refine lv_iconst (v := (-1)) hx hb dX4_giveGoal_8 (by decide) ?_
    obtain rfl : Y = Y' := by (rw [← ho0]) <;> (simp [Fgoal, c_1])
    obtain rfl : P = P' := by (rw [← ho1]) <;> (simp [Fgoal, c_1])
    obtain rfl : Q = Q' := by (rw [← ho2]) <;> (simp [Fgoal, c_1])
    obtain rfl : (-1) = res := by (rw [← hres]) <;> (simp [Fgoal, c_1])
    rw [hQ0]
    exact x_iret hx hb hret hlocks rfl hW rfl dX4_giveGoal_9
set_option maxHeartbeats 4000000 in
set_option maxRecDepth 100000 in
theorem c_X4_hasLampsApart (l : Launch) (X : xX) (G : xG) {r : Nat} {f sg : Nat → Int32} {L O Y P Q : Nat → Nat → Int32} {n : Nat} {x : Int32} (hr : r < 11) (hn : f 4 = nI n) (hn16 : n ≤ 16) {res : Int32} (hres : (Fapart n x L) = res) : XC l yX4_hasLampsApart cX4_hasLampsApart 4 (some .boolean) 2 42 0 0 X xsh [.ref (xB X + xkey r 0 0), .int x] 603 603 (xval (xB X) (va_up G r (xSt f sg L O Y P Q))) (xval (xB X) (va_up G r (xSt f sg L O Y P Q))) (some (.int res)) := by
  refine XC.of RX4 "hasLampsApart" [(0, .ref (xB X + xkey r 0 0)), (1, .int x)] (by decide) rfl rfl (Nat.le_of_ble_eq_true rfl) rfl ?_
  intro p e s m args below meth c ls hx hb hret hml hts hown hlocks hnm hK hW hl
  have hW : XR X G r (xSt f sg L O Y P Q) s.heap [] := hW
  obtain ⟨Q0, hQ0⟩ : ∃ z, z = MQ below (xQ X xsh 603 (xval (xB X) (va_up G r (xSt f sg L O Y P Q))) (some (.int res))) args s 0 0 (fun q => xB X ≤ q) := ⟨_, rfl⟩
  rw [← hQ0]
  refine lv_iconst (v := nI 0) hx hb dX4_hasLampsApart_0 (by decide) ?_
  refine lv_istore_n (lv' := [(2, .int (nI 0)), (0, .ref (xB X + xkey r 0 0)), (1, .int x)]) hx hb dX4_hasLampsApart_1 rfl hl (by decide) rfl (fun ls hl => ?_)
  have loop_2 : ∀ (k_2 i : Nat) , i + k_2 = n → xfind (fun i => xfind (fun j => if Fdist (L i) (L j 0) = x then 1 else 0) i 0) k_2 i = xfind (fun i => xfind (fun j => if Fdist (L i) (L j 0) = x then 1 else 0) i 0) n 0 → ∀ (H : Heap) (locs : List Loc) (ls : Array Slot), XR X G r (xSt f sg L O Y P Q) H locs → lv_has ls 4 [(0, .ref (xB X + xkey r 0 0)), (1, .int x), (2, .int (nI i))] → W p l e { frames := 2, cells := 0, slots := 0, locals := 42 } s m args below meth c H locs 0 0 Q0 (F0 m 2 ls []) := by
    intro k_2
    induction k_2 with
    | zero =>
      intro i  hik_2  hsp_2 H locs ls hW hl
      refine lv_iload_n hx hb dX4_hasLampsApart_2 rfl (lv_at hl 2 rfl) ?_
      refine lv_aload_n hx hb dX4_hasLampsApart_3 rfl (lv_at hl 0 rfl) ?_
      refine r_get hx hb hts hown hK hW (C := RX4) (T := TX4) (xF_street r hr) inlX4 rfl (by decide) 4 (by decide) (xr_street r hr).2.2.2.2.1 xw_103 rfl (x := nI n) hn dX4_hasLampsApart_4 ?_
      refine lv_icmp_ge (tgt := 53) hx hb dX4_hasLampsApart_7 (by decide) (fun c_1 => ?_) (fun c_1 => absurd (xge_refl (by omega)) c_1)
      refine lv_iconst (v := 0) hx hb dX4_hasLampsApart_53 (by decide) ?_
      obtain rfl : 0 = res := by (rw [← hres]) <;> (exact hsp_2)
      rw [hQ0]
      exact x_iret hx hb hret hlocks rfl hW rfl dX4_hasLampsApart_54
    | succ k_2 ih_2 =>
      intro i  hik_2  hsp_2 H locs ls hW hl
      refine lv_iload_n hx hb dX4_hasLampsApart_2 rfl (lv_at hl 2 rfl) ?_
      refine lv_aload_n hx hb dX4_hasLampsApart_3 rfl (lv_at hl 0 rfl) ?_
      refine r_get hx hb hts hown hK hW (C := RX4) (T := TX4) (xF_street r hr) inlX4 rfl (by decide) 4 (by decide) (xr_street r hr).2.2.2.2.1 xw_103 rfl (x := nI n) hn dX4_hasLampsApart_4 ?_
      refine lv_icmp_ge (tgt := 53) hx hb dX4_hasLampsApart_7 (by decide) (fun c_2 => absurd c_2 (nI_ge (by omega) (by omega))) (fun c_2 => ?_)
      refine lv_iconst (v := nI 0) hx hb dX4_hasLampsApart_10 (by decide) ?_
      refine lv_istore_n (lv' := [(3, .int (nI 0)), (0, .ref (xB X + xkey r 0 0)), (1, .int x), (2, .int (nI i))]) hx hb dX4_hasLampsApart_11 rfl hl (by decide) rfl (fun ls hl => ?_)
      have loop_12 : ∀ (k_12 j : Nat) , j + k_12 = i → xfind (fun j => if Fdist (L i) (L j 0) = x then 1 else 0) k_12 j = xfind (fun j => if Fdist (L i) (L j 0) = x then 1 else 0) i 0 → ∀ (H : Heap) (locs : List Loc) (ls : Array Slot), XR X G r (xSt f sg L O Y P Q) H locs → lv_has ls 4 [(0, .ref (xB X + xkey r 0 0)), (1, .int x), (2, .int (nI i)), (3, .int (nI j))] → W p l e { frames := 2, cells := 0, slots := 0, locals := 42 } s m args below meth c H locs 0 0 Q0 (F0 m 12 ls []) := by
        intro k_12
        induction k_12 with
        | zero =>
          intro j  hik_12  hsp_12 H locs ls hW hl
          refine lv_iload_n hx hb dX4_hasLampsApart_12 rfl (lv_at hl 3 rfl) ?_
          refine lv_iload_n hx hb dX4_hasLampsApart_13 rfl (lv_at hl 2 rfl) ?_
          refine lv_icmp_ge (tgt := 47) hx hb dX4_hasLampsApart_14 (by decide) (fun c_3 => ?_) (fun c_3 => absurd (xge_refl (by omega)) c_3)
          refine lv_iinc (v := nI (i + 1)) (lv' := [(2, .int (nI (i + 1))), (0, .ref (xB X + xkey r 0 0)), (1, .int x), (3, .int (nI j))]) hx hb dX4_hasLampsApart_47 hl (k := 2) rfl (nI_1 i) (by decide) rfl (fun ls hl => ?_)
          refine lv_goto (tgt := 2) hx hb dX4_hasLampsApart_50 (by decide) ?_
          refine ih_2 (i + 1)  (by omega)  ?_ H locs ls hW (lv_sub hl [1, 2, 0] rfl)
          rw [← hsp_2]; simp [xfind, ← hsp_12]
        | succ k_12 ih_12 =>
          intro j  hik_12  hsp_12 H locs ls hW hl
          refine lv_iload_n hx hb dX4_hasLampsApart_12 rfl (lv_at hl 3 rfl) ?_
          refine lv_iload_n hx hb dX4_hasLampsApart_13 rfl (lv_at hl 2 rfl) ?_
          refine lv_icmp_ge (tgt := 47) hx hb dX4_hasLampsApart_14 (by decide) (fun c_4 => absurd c_4 (nI_ge (by omega) (by omega))) (fun c_4 => ?_)
          refine lv_aload_n hx hb dX4_hasLampsApart_17 rfl (lv_at hl 0 rfl) ?_
          refine r_getr (C := RX4) (T := TX4) hx hb hts hown hK hW (xF_street r hr).1 (xF_street r hr).2.1 inlX4 rfl (by decide) 1 (by decide) (xr_street r hr).2.1 xw_36 rfl dX4_hasLampsApart_18 ?_
          refine lv_iload_n hx hb dX4_hasLampsApart_21 rfl (lv_at hl 2 rfl) ?_
          refine r_aald hx hb hK hW (xF_lamps r hr).1 (xF_lamps r hr).2 (by decide) 4 rfl i (by omega) (by decide) rfl (xr_lamps r hr i (by omega)) dX4_hasLampsApart_22 ?_
          refine lv_aload_n hx hb dX4_hasLampsApart_23 rfl (lv_at hl 0 rfl) ?_
          refine r_getr (C := RX4) (T := TX4) hx hb hts hown hK hW (xF_street r hr).1 (xF_street r hr).2.1 inlX4 rfl (by decide) 1 (by decide) (xr_street r hr).2.1 xw_36 rfl dX4_hasLampsApart_24 ?_
          refine lv_iload_n hx hb dX4_hasLampsApart_27 rfl (lv_at hl 3 rfl) ?_
          refine r_aald hx hb hK hW (xF_lamps r hr).1 (xF_lamps r hr).2 (by decide) 4 rfl j (by omega) (by decide) rfl (xr_lamps r hr j (by omega)) dX4_hasLampsApart_28 ?_
          refine r_get hx hb hts hown hK hW (C := RX2) (T := TX2) (xF_lamp r hr j (by omega)) inlX2 rfl (by decide) 0 (by decide) (xr_lamp r hr j (by omega) 0 (by decide)) xw_179 rfl (x := L j 0) rfl dX4_hasLampsApart_29 ?_
          have hW := XR.foc2 hW i
          refine x_callV hx hb hml hown hts hK hW hl.1 (c_X2_distanceTo l X G (r := r) (i := i) (x := L j 0) (hr := hr) (hi := (by omega)) (hres := rfl)) (xF_lamp r hr i (by omega)).1 (xF_lamp r hr i (by omega)).2.1 (by decide) rfl xw_350 xw_351 xw_352 xw_46 xw_353 hdV_yX2_distanceTo ⟨Nat.le_of_ble_eq_true rfl, Nat.le_of_ble_eq_true rfl⟩ rfl (Nat.le_of_ble_eq_true rfl) ⟨Nat.le_refl _, Nat.le_refl _⟩ dX4_hasLampsApart_32 (fun H locs hW => ?_)
          have hW : XR X G r (xSt f sg L O Y P Q) H locs := XR.unf2 hW
          refine lv_iload_n hx hb dX4_hasLampsApart_35 rfl (lv_at hl 1 rfl) ?_
          refine lv_icmp_ne (tgt := 41) hx hb dX4_hasLampsApart_36 (by decide) (fun c_5 => ?_) (fun c_5 => ?_)
          · skip
            refine lv_iinc (v := nI (j + 1)) (lv' := [(3, .int (nI (j + 1))), (0, .ref (xB X + xkey r 0 0)), (1, .int x), (2, .int (nI i))]) hx hb dX4_hasLampsApart_41 hl (k := 3) rfl (nI_1 j) (by decide) rfl (fun ls hl => ?_)
            refine lv_goto (tgt := 12) hx hb dX4_hasLampsApart_44 (by decide) ?_
            refine ih_12 (j + 1)  (by omega)  ?_ H locs ls hW (lv_sub hl [1, 2, 3, 0] rfl)
            rw [← hsp_12]; simp [xloop, xfind, Fapart, c_2, c_4, c_5]
          · skip
            refine lv_iconst (v := 1) hx hb dX4_hasLampsApart_39 (by decide) ?_
            obtain rfl : 1 = res := by (rw [← hres]) <;> (show _ = xfind _ n 0; rw [← hsp_2]; simp [xfind, ← hsp_12, c_2, c_4, c_5])
            rw [hQ0]
            exact x_iret hx hb hret hlocks rfl hW rfl dX4_hasLampsApart_40
      exact loop_12 i 0  (by omega)  rfl _ _ _ hW (lv_sub hl [1, 2, 3, 0] rfl)
  exact loop_2 n 0  (by omega)  rfl _ _ _ hW (lv_sub hl [1, 2, 0] rfl)
set_option maxHeartbeats 4000000 in
set_option maxRecDepth 100000 in
theorem c_X4_tellOfHouse (l : Launch) (X : xX) (G : xG) {r : Nat} {f sg : Nat → Int32} {L O Y P Q : Nat → Nat → Int32} {n : Nat} {a : Nat} {x : Int32} (hr : r < 11) (hn : f 4 = nI n) (hn16 : n ≤ 16) (ha : a < 8) {res : Int32} (hres : (FtellH n L (O a) x) = res) : XC l yX4_tellOfHouse cX4_tellOfHouse 3 (some .int) 4 85 0 0 X xsh [.ref (xB X + xkey r 0 0), .ref (xB X + xkey r 3 a), .int x] 603 603 (xval (xB X) (va_up G r (xSt f sg L O Y P Q))) (xval (xB X) (va_up G r (xSt f sg L O Y P Q))) (some (.int res)) := by
  refine XC.of RX4 "tellOfHouse" [(0, .ref (xB X + xkey r 0 0)), (1, .ref (xB X + xkey r 3 a)), (2, .int x)] (by decide) rfl rfl (Nat.le_of_ble_eq_true rfl) rfl ?_
  intro p e s m args below meth c ls hx hb hret hml hts hown hlocks hnm hK hW hl
  have hW : XR X G r (xSt f sg L O Y P Q) s.heap [] := hW
  obtain ⟨Q0, hQ0⟩ : ∃ z, z = MQ below (xQ X xsh 603 (xval (xB X) (va_up G r (xSt f sg L O Y P Q))) (some (.int res))) args s 0 0 (fun q => xB X ≤ q) := ⟨_, rfl⟩
  rw [← hQ0]
  refine lv_iload_n hx hb dX4_tellOfHouse_0 rfl (lv_at hl 2 rfl) ?_
  by_cases c_1 : x = 0
  · skip
    refine lv_tableIn (off := 27) (tgt := 28) hx hb dX4_tellOfHouse_1 (by rw [c_1]; decide) (by rw [c_1]; decide) (by rw [c_1]; decide) (by decide) ?_
    refine lv_aload_n hx hb dX4_tellOfHouse_28 rfl (lv_at hl 1 rfl) ?_
    refine r_get hx hb hts hown hK hW (C := RX1) (T := TX1) (xF_house r hr a ha) inlX1 rfl (by decide) 0 (by decide) (xr_house r hr a ha 0 (by decide)) xw_485 rfl (x := O a 0) rfl dX4_tellOfHouse_29 ?_
    obtain rfl : O a 0 = res := by (rw [← hres]) <;> (simp [FtellH, c_1])
    rw [hQ0]
    exact x_iret hx hb hret hlocks rfl hW rfl dX4_tellOfHouse_32
  · skip
    by_cases c_2 : x = 1
    · skip
      refine lv_tableIn (off := 32) (tgt := 33) hx hb dX4_tellOfHouse_1 (by rw [c_2]; decide) (by rw [c_2]; decide) (by rw [c_2]; decide) (by decide) ?_
      refine lv_aload_n hx hb dX4_tellOfHouse_33 rfl (lv_at hl 0 rfl) ?_
      refine lv_aload_n hx hb dX4_tellOfHouse_34 rfl (lv_at hl 1 rfl) ?_
      refine x_callV hx hb hml hown hts hK hW hl.1 (c_X4_isDisturbed l X G (r := r) (n := n) (a := a) (hr := hr) (hn := (by assumption)) (hn16 := (by assumption)) (ha := ha) (hres := rfl)) (xF_street r hr).1 (xF_street r hr).2.1 (by decide) rfl xw_481 xw_482 xw_483 xw_15 xw_484 hdV_yX4_isDisturbed ⟨Nat.le_of_ble_eq_true rfl, Nat.le_of_ble_eq_true rfl⟩ rfl (Nat.le_of_ble_eq_true rfl) ⟨Nat.le_refl _, Nat.le_refl _⟩ dX4_tellOfHouse_35 (fun H locs hW => ?_)
      refine lv_if_eq (tgt := 45) hx hb dX4_tellOfHouse_38 (by decide) (fun c_3 => ?_) (fun c_3 => ?_)
      · skip
        refine lv_iconst (v := 0) hx hb dX4_tellOfHouse_45 (by decide) ?_
        obtain rfl : 0 = res := by (rw [← hres]) <;> (simp [FtellH, c_1, c_2, c_3])
        rw [hQ0]
        exact x_iret hx hb hret hlocks rfl hW rfl dX4_tellOfHouse_46
      · skip
        refine lv_iconst (v := 1) hx hb dX4_tellOfHouse_41 (by decide) ?_
        refine lv_goto (tgt := 46) hx hb dX4_tellOfHouse_42 (by decide) ?_
        obtain rfl : 1 = res := by (rw [← hres]) <;> (simp [FtellH, c_1, c_2, c_3])
        rw [hQ0]
        exact x_iret hx hb hret hlocks rfl hW rfl dX4_tellOfHouse_46
    · skip
      by_cases c_4 : x = 2
      · skip
        refine lv_tableIn (off := 46) (tgt := 47) hx hb dX4_tellOfHouse_1 (by rw [c_4]; decide) (by rw [c_4]; decide) (by rw [c_4]; decide) (by decide) ?_
        refine lv_aload_n hx hb dX4_tellOfHouse_47 rfl (lv_at hl 1 rfl) ?_
        refine r_get hx hb hts hown hK hW (C := RX1) (T := TX1) (xF_house r hr a ha) inlX1 rfl (by decide) 1 (by decide) (xr_house r hr a ha 1 (by decide)) xw_462 rfl (x := O a 1) rfl dX4_tellOfHouse_48 ?_
        obtain rfl : O a 1 = res := by (rw [← hres]) <;> (simp [FtellH, c_1, c_2, c_4])
        rw [hQ0]
        exact x_iret hx hb hret hlocks rfl hW rfl dX4_tellOfHouse_51
      · skip
        refine lv_tableOut (x := x) (tgt := 52) hx hb dX4_tellOfHouse_1 (x_tabout (x := x) (lo := 0) (hi := 2) (fun z h1 h2 => (fun h => h.elim (fun h => by rw [h]; exact x_nt c_1 (by decide)) (fun h => h.elim (fun h => by rw [h]; exact x_nt c_2 (by decide)) (fun h => by rw [h]; exact x_nt c_4 (by decide)))) (show z = 0 ∨ z = 1 ∨ z = 2 by omega))) (by decide) ?_
        refine lv_bipush (v := (-2)) hx hb dX4_tellOfHouse_52 (by decide) ?_
        obtain rfl : (-2) = res := by (rw [← hres]) <;> (simp [FtellH, c_1, c_2, c_4])
        rw [hQ0]
        exact x_iret hx hb hret hlocks rfl hW rfl dX4_tellOfHouse_54
set_option maxHeartbeats 4000000 in
set_option maxRecDepth 100000 in
theorem c_X4_tellOfWalker (l : Launch) (X : xX) (G : xG) {r : Nat} {f sg : Nat → Int32} {L O Y P Q : Nat → Nat → Int32} {n : Nat} {a : Nat} {x : Int32} (hr : r < 11) (hn : f 4 = nI n) (hn16 : n ≤ 16) (ha : a < 8) {res : Int32} (hres : (FtellW n L (Y a) (P a) x) = res) : XC l yX4_tellOfWalker cX4_tellOfWalker 3 (some .int) 4 86 0 0 X xsh [.ref (xB X + xkey r 0 0), .ref (xB X + xkey r 4 a), .int x] 603 603 (xval (xB X) (va_up G r (xSt f sg L O Y P Q))) (xval (xB X) (va_up G r (xSt f sg L O Y P Q))) (some (.int res)) := by
  refine XC.of RX4 "tellOfWalker" [(0, .ref (xB X + xkey r 0 0)), (1, .ref (xB X + xkey r 4 a)), (2, .int x)] (by decide) rfl rfl (Nat.le_of_ble_eq_true rfl) rfl ?_
  intro p e s m args below meth c ls hx hb hret hml hts hown hlocks hnm hK hW hl
  have hW : XR X G r (xSt f sg L O Y P Q) s.heap [] := hW
  obtain ⟨Q0, hQ0⟩ : ∃ z, z = MQ below (xQ X xsh 603 (xval (xB X) (va_up G r (xSt f sg L O Y P Q))) (some (.int res))) args s 0 0 (fun q => xB X ≤ q) := ⟨_, rfl⟩
  rw [← hQ0]
  refine lv_iload_n hx hb dX4_tellOfWalker_0 rfl (lv_at hl 2 rfl) ?_
  by_cases c_1 : x = 0
  · skip
    refine lv_tableIn (off := 51) (tgt := 52) hx hb dX4_tellOfWalker_1 (by rw [c_1]; decide) (by rw [c_1]; decide) (by rw [c_1]; decide) (by decide) ?_
    refine lv_aload_n hx hb dX4_tellOfWalker_52 rfl (lv_at hl 1 rfl) ?_
    refine r_get hx hb hts hown hK hW (C := RX5) (T := TX5) (xF_walker r hr a ha) inlX5 rfl (by decide) 3 (by decide) ((xr_walker r hr a ha).2.2 3 (by decide) (by decide)) xw_447 rfl (x := Y a 3) rfl dX4_tellOfWalker_53 ?_
    obtain rfl : Y a 3 = res := by (rw [← hres]) <;> (simp [FtellW, c_1])
    rw [hQ0]
    exact x_iret hx hb hret hlocks rfl hW rfl dX4_tellOfWalker_56
  · skip
    by_cases c_2 : x = 1
    · skip
      refine lv_tableIn (off := 56) (tgt := 57) hx hb dX4_tellOfWalker_1 (by rw [c_2]; decide) (by rw [c_2]; decide) (by rw [c_2]; decide) (by decide) ?_
      refine lv_aload_n hx hb dX4_tellOfWalker_57 rfl (lv_at hl 1 rfl) ?_
      refine r_get hx hb hts hown hK hW (C := RX5) (T := TX5) (xF_walker r hr a ha) inlX5 rfl (by decide) 4 (by decide) ((xr_walker r hr a ha).2.2 4 (by decide) (by decide)) xw_578 rfl (x := Y a 4) rfl dX4_tellOfWalker_58 ?_
      obtain rfl : Y a 4 = res := by (rw [← hres]) <;> (simp [FtellW, c_1, c_2])
      rw [hQ0]
      exact x_iret hx hb hret hlocks rfl hW rfl dX4_tellOfWalker_61
    · skip
      by_cases c_3 : x = 2
      · skip
        refine lv_tableIn (off := 61) (tgt := 62) hx hb dX4_tellOfWalker_1 (by rw [c_3]; decide) (by rw [c_3]; decide) (by rw [c_3]; decide) (by decide) ?_
        refine lv_aload_n hx hb dX4_tellOfWalker_62 rfl (lv_at hl 1 rfl) ?_
        refine r_get hx hb hts hown hK hW (C := RX5) (T := TX5) (xF_walker r hr a ha) inlX5 rfl (by decide) 5 (by decide) ((xr_walker r hr a ha).2.2 5 (by decide) (by decide)) xw_446 rfl (x := Y a 5) rfl dX4_tellOfWalker_63 ?_
        refine lv_if_eq (tgt := 73) hx hb dX4_tellOfWalker_66 (by decide) (fun c_4 => ?_) (fun c_4 => ?_)
        · skip
          refine lv_iconst (v := 0) hx hb dX4_tellOfWalker_73 (by decide) ?_
          obtain rfl : 0 = res := by (rw [← hres]) <;> (simp [FtellW, c_1, c_2, c_3, c_4])
          rw [hQ0]
          exact x_iret hx hb hret hlocks rfl hW rfl dX4_tellOfWalker_74
        · skip
          refine lv_iconst (v := 1) hx hb dX4_tellOfWalker_69 (by decide) ?_
          refine lv_goto (tgt := 74) hx hb dX4_tellOfWalker_70 (by decide) ?_
          obtain rfl : 1 = res := by (rw [← hres]) <;> (simp [FtellW, c_1, c_2, c_3, c_4])
          rw [hQ0]
          exact x_iret hx hb hret hlocks rfl hW rfl dX4_tellOfWalker_74
      · skip
        by_cases c_5 : x = 3
        · skip
          refine lv_tableIn (off := 74) (tgt := 75) hx hb dX4_tellOfWalker_1 (by rw [c_5]; decide) (by rw [c_5]; decide) (by rw [c_5]; decide) (by decide) ?_
          refine lv_aload_n hx hb dX4_tellOfWalker_75 rfl (lv_at hl 1 rfl) ?_
          refine r_get hx hb hts hown hK hW (C := RX5) (T := TX5) (xF_walker r hr a ha) inlX5 rfl (by decide) 2 (by decide) ((xr_walker r hr a ha).2.2 2 (by decide) (by decide)) xw_579 rfl (x := Y a 2) rfl dX4_tellOfWalker_76 ?_
          refine lv_if_le (tgt := 91) hx hb dX4_tellOfWalker_79 (by decide) (fun c_6 => ?_) (fun c_6 => ?_)
          · skip
            refine lv_bipush (v := (-6)) hx hb dX4_tellOfWalker_91 (by decide) ?_
            obtain rfl : (-6) = res := by (rw [← hres]) <;> (simp [FtellW, c_1, c_2, c_3, c_5, c_6, Int32.not_lt.mpr c_6])
            rw [hQ0]
            exact x_iret hx hb hret hlocks rfl hW rfl dX4_tellOfWalker_93
          · skip
            refine lv_aload_n hx hb dX4_tellOfWalker_82 rfl (lv_at hl 1 rfl) ?_
            refine r_getr (C := RX5) (T := TX5) hx hb hts hown hK hW (xF_walker r hr a ha).1 (xF_walker r hr a ha).2.1 inlX5 rfl (by decide) 0 (by decide) (xr_walker r hr a ha).1 xw_580 rfl dX4_tellOfWalker_83 ?_
            refine lv_iconst (v := 0) hx hb dX4_tellOfWalker_86 (by decide) ?_
            refine r_iald hx hb hK hW (N := 6) (xF_gsteps r hr a ha) 0 (by decide) (by decide) (by decide) (xr_gsteps r hr a ha 0 (by decide)) (x := P a 0) rfl dX4_tellOfWalker_87 ?_
            refine lv_goto (tgt := 93) hx hb dX4_tellOfWalker_88 (by decide) ?_
            obtain rfl : P a 0 = res := by (rw [← hres]) <;> (simp [FtellW, c_1, c_2, c_3, c_5, c_6, Int32.not_le.mp c_6])
            rw [hQ0]
            exact x_iret hx hb hret hlocks rfl hW rfl dX4_tellOfWalker_93
        · skip
          by_cases c_7 : x = 4
          · skip
            refine lv_tableIn (off := 93) (tgt := 94) hx hb dX4_tellOfWalker_1 (by rw [c_7]; decide) (by rw [c_7]; decide) (by rw [c_7]; decide) (by decide) ?_
            refine lv_aload_n hx hb dX4_tellOfWalker_94 rfl (lv_at hl 1 rfl) ?_
            refine r_get hx hb hts hown hK hW (C := RX5) (T := TX5) (xF_walker r hr a ha) inlX5 rfl (by decide) 2 (by decide) ((xr_walker r hr a ha).2.2 2 (by decide) (by decide)) xw_579 rfl (x := Y a 2) rfl dX4_tellOfWalker_95 ?_
            obtain rfl : Y a 2 = res := by (rw [← hres]) <;> (simp [FtellW, c_1, c_2, c_3, c_5, c_7])
            rw [hQ0]
            exact x_iret hx hb hret hlocks rfl hW rfl dX4_tellOfWalker_98
          · skip
            by_cases c_8 : x = 5
            · skip
              refine lv_tableIn (off := 98) (tgt := 99) hx hb dX4_tellOfWalker_1 (by rw [c_8]; decide) (by rw [c_8]; decide) (by rw [c_8]; decide) (by decide) ?_
              refine lv_aload_n hx hb dX4_tellOfWalker_99 rfl (lv_at hl 1 rfl) ?_
              refine r_get hx hb hts hown hK hW (C := RX5) (T := TX5) (xF_walker r hr a ha) inlX5 rfl (by decide) 6 (by decide) ((xr_walker r hr a ha).2.2 6 (by decide) (by decide)) xw_581 rfl (x := Y a 6) rfl dX4_tellOfWalker_100 ?_
              obtain rfl : Y a 6 = res := by (rw [← hres]) <;> (simp [FtellW, c_1, c_2, c_3, c_5, c_7, c_8])
              rw [hQ0]
              exact x_iret hx hb hret hlocks rfl hW rfl dX4_tellOfWalker_103
            · skip
              by_cases c_9 : x = 6
              · skip
                refine lv_tableIn (off := 103) (tgt := 104) hx hb dX4_tellOfWalker_1 (by rw [c_9]; decide) (by rw [c_9]; decide) (by rw [c_9]; decide) (by decide) ?_
                refine lv_aload_n hx hb dX4_tellOfWalker_104 rfl (lv_at hl 1 rfl) ?_
                refine r_get hx hb hts hown hK hW (C := RX5) (T := TX5) (xF_walker r hr a ha) inlX5 rfl (by decide) 7 (by decide) ((xr_walker r hr a ha).2.2 7 (by decide) (by decide)) xw_461 rfl (x := Y a 7) rfl dX4_tellOfWalker_105 ?_
                obtain rfl : Y a 7 = res := by (rw [← hres]) <;> (simp [FtellW, c_1, c_2, c_3, c_5, c_7, c_8, c_9])
                rw [hQ0]
                exact x_iret hx hb hret hlocks rfl hW rfl dX4_tellOfWalker_108
              · skip
                by_cases c_10 : x = 7
                · skip
                  refine lv_tableIn (off := 108) (tgt := 109) hx hb dX4_tellOfWalker_1 (by rw [c_10]; decide) (by rw [c_10]; decide) (by rw [c_10]; decide) (by decide) ?_
                  refine lv_aload_n hx hb dX4_tellOfWalker_109 rfl (lv_at hl 1 rfl) ?_
                  refine r_get hx hb hts hown hK hW (C := RX5) (T := TX5) (xF_walker r hr a ha) inlX5 rfl (by decide) 5 (by decide) ((xr_walker r hr a ha).2.2 5 (by decide) (by decide)) xw_446 rfl (x := Y a 5) rfl dX4_tellOfWalker_110 ?_
                  refine lv_if_ne (tgt := 131) hx hb dX4_tellOfWalker_113 (by decide) (fun c_11 => ?_) (fun c_11 => ?_)
                  · skip
                    refine lv_iconst (v := 0) hx hb dX4_tellOfWalker_131 (by decide) ?_
                    obtain rfl : 0 = res := by (rw [← hres]) <;> (simp [FtellW, c_1, c_2, c_3, c_5, c_7, c_8, c_9, c_10, c_11])
                    rw [hQ0]
                    exact x_iret hx hb hret hlocks rfl hW rfl dX4_tellOfWalker_132
                  · skip
                    refine lv_aload_n hx hb dX4_tellOfWalker_116 rfl (lv_at hl 0 rfl) ?_
                    refine lv_aload_n hx hb dX4_tellOfWalker_117 rfl (lv_at hl 1 rfl) ?_
                    refine r_get hx hb hts hown hK hW (C := RX5) (T := TX5) (xF_walker r hr a ha) inlX5 rfl (by decide) 3 (by decide) ((xr_walker r hr a ha).2.2 3 (by decide) (by decide)) xw_447 rfl (x := Y a 3) rfl dX4_tellOfWalker_118 ?_
                    refine x_callV hx hb hml hown hts hK hW hl.1 (c_X4_lampsThatLight l X G (r := r) (n := n) (x := Y a 3) (hr := hr) (hn := (by assumption)) (hn16 := (by assumption)) (hres := rfl)) (xF_street r hr).1 (xF_street r hr).2.1 (by decide) rfl xw_467 xw_468 xw_469 xw_15 xw_470 hdV_yX4_lampsThatLight ⟨Nat.le_of_ble_eq_true rfl, Nat.le_of_ble_eq_true rfl⟩ rfl (Nat.le_of_ble_eq_true rfl) ⟨Nat.le_refl _, Nat.le_refl _⟩ dX4_tellOfWalker_121 (fun H locs hW => ?_)
                    refine lv_if_eq (tgt := 131) hx hb dX4_tellOfWalker_124 (by decide) (fun c_12 => ?_) (fun c_12 => ?_)
                    · skip
                      refine lv_iconst (v := 0) hx hb dX4_tellOfWalker_131 (by decide) ?_
                      obtain rfl : 0 = res := by (rw [← hres]) <;> (simp [FtellW, c_1, c_2, c_3, c_5, c_7, c_8, c_9, c_10, c_11, c_12])
                      rw [hQ0]
                      exact x_iret hx hb hret hlocks rfl hW rfl dX4_tellOfWalker_132
                    · skip
                      refine lv_iconst (v := 1) hx hb dX4_tellOfWalker_127 (by decide) ?_
                      refine lv_goto (tgt := 132) hx hb dX4_tellOfWalker_128 (by decide) ?_
                      obtain rfl : 1 = res := by (rw [← hres]) <;> (simp [FtellW, c_1, c_2, c_3, c_5, c_7, c_8, c_9, c_10, c_11, c_12])
                      rw [hQ0]
                      exact x_iret hx hb hret hlocks rfl hW rfl dX4_tellOfWalker_132
                · skip
                  by_cases c_13 : x = 8
                  · skip
                    refine lv_tableIn (off := 132) (tgt := 133) hx hb dX4_tellOfWalker_1 (by rw [c_13]; decide) (by rw [c_13]; decide) (by rw [c_13]; decide) (by decide) ?_
                    refine lv_aload_n hx hb dX4_tellOfWalker_133 rfl (lv_at hl 1 rfl) ?_
                    refine r_get hx hb hts hown hK hW (C := RX5) (T := TX5) (xF_walker r hr a ha) inlX5 rfl (by decide) 8 (by decide) ((xr_walker r hr a ha).2.2 8 (by decide) (by decide)) xw_582 rfl (x := Y a 8) rfl dX4_tellOfWalker_134 ?_
                    obtain rfl : Y a 8 = res := by (rw [← hres]) <;> (simp [FtellW, c_1, c_2, c_3, c_5, c_7, c_8, c_9, c_10, c_13])
                    rw [hQ0]
                    exact x_iret hx hb hret hlocks rfl hW rfl dX4_tellOfWalker_137
                  · skip
                    refine lv_tableOut (x := x) (tgt := 138) hx hb dX4_tellOfWalker_1 (x_tabout (x := x) (lo := 0) (hi := 8) (fun z h1 h2 => (fun h => h.elim (fun h => by rw [h]; exact x_nt c_1 (by decide)) (fun h => h.elim (fun h => by rw [h]; exact x_nt c_2 (by decide)) (fun h => h.elim (fun h => by rw [h]; exact x_nt c_3 (by decide)) (fun h => h.elim (fun h => by rw [h]; exact x_nt c_5 (by decide)) (fun h => h.elim (fun h => by rw [h]; exact x_nt c_7 (by decide)) (fun h => h.elim (fun h => by rw [h]; exact x_nt c_8 (by decide)) (fun h => h.elim (fun h => by rw [h]; exact x_nt c_9 (by decide)) (fun h => h.elim (fun h => by rw [h]; exact x_nt c_10 (by decide)) (fun h => by rw [h]; exact x_nt c_13 (by decide)))))))))) (show z = 0 ∨ z = 1 ∨ z = 2 ∨ z = 3 ∨ z = 4 ∨ z = 5 ∨ z = 6 ∨ z = 7 ∨ z = 8 by omega))) (by decide) ?_
                    refine lv_bipush (v := (-2)) hx hb dX4_tellOfWalker_138 (by decide) ?_
                    obtain rfl : (-2) = res := by (rw [← hres]) <;> (simp [FtellW, c_1, c_2, c_3, c_5, c_7, c_8, c_9, c_10, c_13])
                    rw [hQ0]
                    exact x_iret hx hb hret hlocks rfl hW rfl dX4_tellOfWalker_140
set_option maxHeartbeats 4000000 in
set_option maxRecDepth 100000 in
theorem c_X4_total (l : Launch) (X : xX) (G : xG) {r : Nat} {f sg : Nat → Int32} {L O Y P Q : Nat → Nat → Int32} {n : Nat} {nh : Nat} {nw : Nat} {x : Int32} (hr : r < 11) (hn : f 4 = nI n) (hn16 : n ≤ 16) (hh : f 5 = nI nh) (hh8 : nh ≤ 8) (hw : f 6 = nI nw) (hw8 : nw ≤ 8) {res : Int32} (hres : (Ftotal n nh nw L O Y x) = res) : XC l yX4_total cX4_total 2 (some .int) 1 22 0 0 X xsh [.ref (xB X + xkey r 0 0), .int x] 603 603 (xval (xB X) (va_up G r (xSt f sg L O Y P Q))) (xval (xB X) (va_up G r (xSt f sg L O Y P Q))) (some (.int res)) := by
  refine XC.of RX4 "total" [(0, .ref (xB X + xkey r 0 0)), (1, .int x)] (by decide) rfl rfl (Nat.le_of_ble_eq_true rfl) rfl ?_
  intro p e s m args below meth c ls hx hb hret hml hts hown hlocks hnm hK hW hl
  have hW : XR X G r (xSt f sg L O Y P Q) s.heap [] := hW
  obtain ⟨Q0, hQ0⟩ : ∃ z, z = MQ below (xQ X xsh 603 (xval (xB X) (va_up G r (xSt f sg L O Y P Q))) (some (.int res))) args s 0 0 (fun q => xB X ≤ q) := ⟨_, rfl⟩
  rw [← hQ0]
  refine lv_iload_n hx hb dX4_total_0 rfl (lv_at hl 1 rfl) ?_
  by_cases c_1 : x = 0
  · skip
    refine lv_tableIn (off := 27) (tgt := 28) hx hb dX4_total_1 (by rw [c_1]; decide) (by rw [c_1]; decide) (by rw [c_1]; decide) (by decide) ?_
    refine lv_aload_n hx hb dX4_total_28 rfl (lv_at hl 0 rfl) ?_
    refine x_callV hx hb hml hown hts hK hW hl.1 (c_X4_darkTicks l X G (r := r) (nw := nw) (hr := hr) (hw := (by assumption)) (hw8 := (by assumption)) (hres := rfl)) (xF_street r hr).1 (xF_street r hr).2.1 (by decide) rfl xw_653 xw_654 xw_655 xw_15 xw_656 hdV_yX4_darkTicks ⟨Nat.le_of_ble_eq_true rfl, Nat.le_of_ble_eq_true rfl⟩ rfl (Nat.le_of_ble_eq_true rfl) ⟨Nat.le_refl _, Nat.le_refl _⟩ dX4_total_29 (fun H locs hW => ?_)
    obtain rfl : Fsum nw 7 Y = res := by (rw [← hres]) <;> (simp [Ftotal, c_1])
    rw [hQ0]
    exact x_iret hx hb hret hlocks rfl hW rfl dX4_total_32
  · skip
    by_cases c_2 : x = 1
    · skip
      refine lv_tableIn (off := 32) (tgt := 33) hx hb dX4_total_1 (by rw [c_2]; decide) (by rw [c_2]; decide) (by rw [c_2]; decide) (by decide) ?_
      refine lv_aload_n hx hb dX4_total_33 rfl (lv_at hl 0 rfl) ?_
      refine x_callV hx hb hml hown hts hK hW hl.1 (c_X4_lightUnits l X G (r := r) (n := n) (hr := hr) (hn := (by assumption)) (hn16 := (by assumption)) (hres := rfl)) (xF_street r hr).1 (xF_street r hr).2.1 (by decide) rfl xw_657 xw_658 xw_659 xw_15 xw_660 hdV_yX4_lightUnits ⟨Nat.le_of_ble_eq_true rfl, Nat.le_of_ble_eq_true rfl⟩ rfl (Nat.le_of_ble_eq_true rfl) ⟨Nat.le_refl _, Nat.le_refl _⟩ dX4_total_34 (fun H locs hW => ?_)
      obtain rfl : Fsum n 7 L = res := by (rw [← hres]) <;> (simp [Ftotal, c_1, c_2])
      rw [hQ0]
      exact x_iret hx hb hret hlocks rfl hW rfl dX4_total_37
    · skip
      by_cases c_3 : x = 2
      · skip
        refine lv_tableIn (off := 37) (tgt := 38) hx hb dX4_total_1 (by rw [c_3]; decide) (by rw [c_3]; decide) (by rw [c_3]; decide) (by decide) ?_
        refine lv_aload_n hx hb dX4_total_38 rfl (lv_at hl 0 rfl) ?_
        refine x_callV hx hb hml hown hts hK hW hl.1 (c_X4_disturbedTicks l X G (r := r) (nh := nh) (hr := hr) (hh := (by assumption)) (hh8 := (by assumption)) (hres := rfl)) (xF_street r hr).1 (xF_street r hr).2.1 (by decide) rfl xw_662 xw_663 xw_664 xw_15 xw_665 hdV_yX4_disturbedTicks ⟨Nat.le_of_ble_eq_true rfl, Nat.le_of_ble_eq_true rfl⟩ rfl (Nat.le_of_ble_eq_true rfl) ⟨Nat.le_refl _, Nat.le_refl _⟩ dX4_total_39 (fun H locs hW => ?_)
        obtain rfl : Fsum nh 1 O = res := by (rw [← hres]) <;> (simp [Ftotal, c_1, c_2, c_3])
        rw [hQ0]
        exact x_iret hx hb hret hlocks rfl hW rfl dX4_total_42
      · skip
        refine lv_tableOut (x := x) (tgt := 43) hx hb dX4_total_1 (x_tabout (x := x) (lo := 0) (hi := 2) (fun z h1 h2 => (fun h => h.elim (fun h => by rw [h]; exact x_nt c_1 (by decide)) (fun h => h.elim (fun h => by rw [h]; exact x_nt c_2 (by decide)) (fun h => by rw [h]; exact x_nt c_3 (by decide)))) (show z = 0 ∨ z = 1 ∨ z = 2 by omega))) (by decide) ?_
        refine lv_aload_n hx hb dX4_total_43 rfl (lv_at hl 0 rfl) ?_
        refine x_callV hx hb hml hown hts hK hW hl.1 (c_X4_coughsSoFar l X G (r := r) (n := n) (hr := hr) (hn := (by assumption)) (hn16 := (by assumption)) (hres := rfl)) (xF_street r hr).1 (xF_street r hr).2.1 (by decide) rfl xw_666 xw_667 xw_668 xw_15 xw_669 hdV_yX4_coughsSoFar ⟨Nat.le_of_ble_eq_true rfl, Nat.le_of_ble_eq_true rfl⟩ rfl (Nat.le_of_ble_eq_true rfl) ⟨Nat.le_refl _, Nat.le_refl _⟩ dX4_total_44 (fun H locs hW => ?_)
        obtain rfl : Fsum n 8 L = res := by (rw [← hres]) <;> (simp [Ftotal, c_1, c_2, c_3])
        rw [hQ0]
        exact x_iret hx hb hret hlocks rfl hW rfl dX4_total_47
set_option maxHeartbeats 4000000 in
set_option maxRecDepth 100000 in
theorem c_X4_letPass (l : Launch) (X : xX) (G : xG) {r : Nat} {f sg : Nat → Int32} {L O Y P Q : Nat → Nat → Int32} {n : Nat} {nh : Nat} {nw : Nat} {x : Int32} (hr : r < 11) (hn : f 4 = nI n) (hn16 : n ≤ 16) (hh : f 5 = nI nh) (hh8 : nh ≤ 8) (hw : f 6 = nI nw) (hw8 : nw ≤ 8) {f' : Nat → Int32} (ho0 : ((Fpass n nh nw sg x (f, L, O, Y, P, Q)).1) = f') {L' : Nat → Nat → Int32} (ho1 : ((Fpass n nh nw sg x (f, L, O, Y, P, Q)).2.1) = L') {O' : Nat → Nat → Int32} (ho2 : ((Fpass n nh nw sg x (f, L, O, Y, P, Q)).2.2.1) = O') {Y' : Nat → Nat → Int32} (ho3 : ((Fpass n nh nw sg x (f, L, O, Y, P, Q)).2.2.2.1) = Y') {P' : Nat → Nat → Int32} (ho4 : ((Fpass n nh nw sg x (f, L, O, Y, P, Q)).2.2.2.2.1) = P') {Q' : Nat → Nat → Int32} (ho5 : ((Fpass n nh nw sg x (f, L, O, Y, P, Q)).2.2.2.2.2) = Q') {res : Int32} (hres : (FpassR n nh nw sg x (f, L, O, Y, P, Q)) = res) : XC l yX4_letPass cX4_letPass 3 (some .int) 5 123 0 0 X xsh [.ref (xB X + xkey r 0 0), .int x] 603 603 (xval (xB X) (va_up G r (xSt f sg L O Y P Q))) (xval (xB X) (va_up G r (xSt f' sg L' O' Y' P' Q'))) (some (.int res)) := by
  refine XC.of RX4 "letPass" [(0, .ref (xB X + xkey r 0 0)), (1, .int x)] (by decide) rfl rfl (Nat.le_of_ble_eq_true rfl) rfl ?_
  intro p e s m args below meth c ls hx hb hret hml hts hown hlocks hnm hK hW hl
  have hW : XR X G r (xSt f sg L O Y P Q) s.heap [] := hW
  obtain ⟨Q0, hQ0⟩ : ∃ z, z = MQ below (xQ X xsh 603 (xval (xB X) (va_up G r (xSt f' sg L' O' Y' P' Q'))) (some (.int res))) args s 0 0 (fun q => xB X ≤ q) := ⟨_, rfl⟩
  rw [← hQ0]
  refine lv_iload_n hx hb dX4_letPass_0 rfl (lv_at hl 1 rfl) ?_
  refine x_callSN hx hb hml hown hts hK hW hl.1 (c_X6_isTicks l X _ (v := x) (hres := rfl)) (by simp [xNestM]) xw_400 xw_2 xw_401 hdS_yX6_isTicks ⟨Nat.le_of_ble_eq_true rfl, Nat.le_of_ble_eq_true rfl⟩ rfl (Nat.le_of_ble_eq_true rfl) ⟨Nat.le_refl _, Nat.le_refl _⟩ dX4_letPass_1 (fun H locs hW => ?_)
  refine lv_if_ne (tgt := 10) hx hb dX4_letPass_4 (by decide) (fun c_1 => ?_) (fun c_1 => ?_)
  · skip
    have hx9 := xfin1 200 rfl (by decide) c_1
    refine lv_iconst (v := nI 0) hx hb dX4_letPass_10 (by decide) ?_
    refine lv_istore_n (lv' := [(2, .int (nI 0)), (0, .ref (xB X + xkey r 0 0)), (1, .int x)]) hx hb dX4_letPass_11 rfl hl (by decide) rfl (fun ls hl => ?_)
    have loop_12 : ∀ (k_12 i : Nat) (fa : Nat → Int32) (La : Nat → Nat → Int32) (Oa : Nat → Nat → Int32) (Ya : Nat → Nat → Int32) (Pa : Nat → Nat → Int32) (Qa : Nat → Nat → Int32), i + k_12 = x.toNatClampNeg → fa 4 = nI n → fa 5 = nI nh → fa 6 = nI nw → xloop (fun _ z => Ftick n nh nw sg z) k_12 i (fa, La, Oa, Ya, Pa, Qa) = xloop (fun _ z => Ftick n nh nw sg z) x.toNatClampNeg 0 (f, L, O, Y, P, Q) → ∀ (H : Heap) (locs : List Loc) (ls : Array Slot), XR X G r (xSt fa sg La Oa Ya Pa Qa) H locs → lv_has ls 3 [(0, .ref (xB X + xkey r 0 0)), (1, .int x), (2, .int (nI i))] → W p l e { frames := 5, cells := 0, slots := 0, locals := 123 } s m args below meth c H locs 0 0 Q0 (F0 m 12 ls []) := by
      intro k_12
      induction k_12 with
      | zero =>
        intro i fa La Oa Ya Pa Qa hik_12 hv0_12 hv1_12 hv2_12 hsp_12 H locs ls hW hl
        refine lv_iload_n hx hb dX4_letPass_12 rfl (lv_at hl 2 rfl) ?_
        refine lv_iload_n hx hb dX4_letPass_13 rfl (lv_at hl 1 rfl) ?_
        refine lv_eqi (y := nI x.toNatClampNeg) hx9.2 ?_
        refine lv_icmp_ge (tgt := 57) hx hb dX4_letPass_14 (by decide) (fun c_2 => ?_) (fun c_2 => absurd (xge_refl (by omega)) c_2)
        refine lv_aload_n hx hb dX4_letPass_57 rfl (lv_at hl 0 rfl) ?_
        refine r_get hx hb hts hown hK hW (C := RX4) (T := TX4) (xF_street r hr) inlX4 rfl (by decide) 7 (by decide) (xr_street r hr).2.2.2.2.2.2.2 xw_106 rfl (x := fa 7) rfl dX4_letPass_58 ?_
        obtain rfl : fa = f' := by (rw [← ho0]) <;> (first | (simp [Fpass, FpassR, c_1, c_2]; done) | (have e9 : (fa, La, Oa, Ya, Pa, Qa) = Fticks n nh nw sg x.toNatClampNeg (f, L, O, Y, P, Q) := hsp_12; simp [Fpass, FpassR, c_1, c_2, ← e9]))
        obtain rfl : La = L' := by (rw [← ho1]) <;> (first | (simp [Fpass, FpassR, c_1, c_2]; done) | (have e9 : (fa, La, Oa, Ya, Pa, Qa) = Fticks n nh nw sg x.toNatClampNeg (f, L, O, Y, P, Q) := hsp_12; simp [Fpass, FpassR, c_1, c_2, ← e9]))
        obtain rfl : Oa = O' := by (rw [← ho2]) <;> (first | (simp [Fpass, FpassR, c_1, c_2]; done) | (have e9 : (fa, La, Oa, Ya, Pa, Qa) = Fticks n nh nw sg x.toNatClampNeg (f, L, O, Y, P, Q) := hsp_12; simp [Fpass, FpassR, c_1, c_2, ← e9]))
        obtain rfl : Ya = Y' := by (rw [← ho3]) <;> (first | (simp [Fpass, FpassR, c_1, c_2]; done) | (have e9 : (fa, La, Oa, Ya, Pa, Qa) = Fticks n nh nw sg x.toNatClampNeg (f, L, O, Y, P, Q) := hsp_12; simp [Fpass, FpassR, c_1, c_2, ← e9]))
        obtain rfl : Pa = P' := by (rw [← ho4]) <;> (first | (simp [Fpass, FpassR, c_1, c_2]; done) | (have e9 : (fa, La, Oa, Ya, Pa, Qa) = Fticks n nh nw sg x.toNatClampNeg (f, L, O, Y, P, Q) := hsp_12; simp [Fpass, FpassR, c_1, c_2, ← e9]))
        obtain rfl : Qa = Q' := by (rw [← ho5]) <;> (first | (simp [Fpass, FpassR, c_1, c_2]; done) | (have e9 : (fa, La, Oa, Ya, Pa, Qa) = Fticks n nh nw sg x.toNatClampNeg (f, L, O, Y, P, Q) := hsp_12; simp [Fpass, FpassR, c_1, c_2, ← e9]))
        obtain rfl : fa 7 = res := by (rw [← hres]) <;> (first | (simp [Fpass, FpassR, c_1, c_2]; done) | (have e9 : (fa, La, Oa, Ya, Pa, Qa) = Fticks n nh nw sg x.toNatClampNeg (f, L, O, Y, P, Q) := hsp_12; simp [Fpass, FpassR, c_1, c_2, ← e9]))
        rw [hQ0]
        exact x_iret hx hb hret hlocks rfl hW rfl dX4_letPass_61
      | succ k_12 ih_12 =>
        intro i fa La Oa Ya Pa Qa hik_12 hv0_12 hv1_12 hv2_12 hsp_12 H locs ls hW hl
        refine lv_iload_n hx hb dX4_letPass_12 rfl (lv_at hl 2 rfl) ?_
        refine lv_iload_n hx hb dX4_letPass_13 rfl (lv_at hl 1 rfl) ?_
        refine lv_eqi (y := nI x.toNatClampNeg) hx9.2 ?_
        refine lv_icmp_ge (tgt := 57) hx hb dX4_letPass_14 (by decide) (fun c_3 => absurd c_3 (nI_ge (by omega) (by omega))) (fun c_3 => ?_)
        refine lv_aload_n hx hb dX4_letPass_17 rfl (lv_at hl 0 rfl) ?_
        refine x_callV hx hb hml hown hts hK hW hl.1 (c_X4_forgetLastTick l X G (r := r) (n := n) (hr := hr) (hn := (by assumption)) (hn16 := (by assumption)) (ho0 := rfl)) (xF_street r hr).1 (xF_street r hr).2.1 (by decide) rfl xw_331 xw_332 xw_333 xw_15 xw_334 hdV_yX4_forgetLastTick ⟨Nat.le_of_ble_eq_true rfl, Nat.le_of_ble_eq_true rfl⟩ rfl (Nat.le_of_ble_eq_true rfl) ⟨Nat.le_refl _, Nat.le_refl _⟩ dX4_letPass_18 (fun H locs hW => ?_)
        have hW : XR X G r (xSt fa sg (LForget n La) Oa Ya Pa Qa) H locs := hW
        refine lv_aload_n hx hb dX4_letPass_21 rfl (lv_at hl 0 rfl) ?_
        refine x_callV hx hb hml hown hts hK hW hl.1 (c_X4_moveWalkers l X G (r := r) (nw := nw) (hr := hr) (hw := (by assumption)) (hw8 := (by assumption)) (ho0 := rfl) (ho1 := rfl) (ho2 := rfl)) (xF_street r hr).1 (xF_street r hr).2.1 (by decide) rfl xw_402 xw_403 xw_404 xw_15 xw_405 hdV_yX4_moveWalkers ⟨Nat.le_of_ble_eq_true rfl, Nat.le_of_ble_eq_true rfl⟩ rfl (Nat.le_of_ble_eq_true rfl) ⟨Nat.le_refl _, Nat.le_refl _⟩ dX4_letPass_22 (fun H locs hW => ?_)
        have hW : XR X G r (xSt fa sg (LForget n La) Oa ((FMove nw Ya Pa Qa).1) ((FMove nw Ya Pa Qa).2.1) ((FMove nw Ya Pa Qa).2.2)) H locs := hW
        refine lv_aload_n hx hb dX4_letPass_25 rfl (lv_at hl 0 rfl) ?_
        refine x_callV hx hb hml hown hts hK hW hl.1 (c_X4_coughThoseWhoWaited l X G (r := r) (n := n) (hr := hr) (hn := (by assumption)) (hn16 := (by assumption)) (ho0 := rfl)) (xF_street r hr).1 (xF_street r hr).2.1 (by decide) rfl xw_423 xw_424 xw_425 xw_15 xw_426 hdV_yX4_coughThoseWhoWaited ⟨Nat.le_of_ble_eq_true rfl, Nat.le_of_ble_eq_true rfl⟩ rfl (Nat.le_of_ble_eq_true rfl) ⟨Nat.le_refl _, Nat.le_refl _⟩ dX4_letPass_26 (fun H locs hW => ?_)
        have hW : XR X G r (xSt fa sg (LWaited n sg (LForget n La)) Oa ((FMove nw Ya Pa Qa).1) ((FMove nw Ya Pa Qa).2.1) ((FMove nw Ya Pa Qa).2.2)) H locs := hW
        refine lv_aload_n hx hb dX4_letPass_29 rfl (lv_at hl 0 rfl) ?_
        refine x_callV hx hb hml hown hts hK hW hl.1 (c_X4_wakeThoseWhoSee l X G (r := r) (n := n) (nw := nw) (hr := hr) (hn := (by assumption)) (hn16 := (by assumption)) (hw := (by assumption)) (hw8 := (by assumption)) (ho0 := rfl)) (xF_street r hr).1 (xF_street r hr).2.1 (by decide) rfl xw_433 xw_434 xw_435 xw_15 xw_436 hdV_yX4_wakeThoseWhoSee ⟨Nat.le_of_ble_eq_true rfl, Nat.le_of_ble_eq_true rfl⟩ rfl (Nat.le_of_ble_eq_true rfl) ⟨Nat.le_refl _, Nat.le_refl _⟩ dX4_letPass_30 (fun H locs hW => ?_)
        have hW : XR X G r (xSt fa sg (LSee n nw sg ((FMove nw Ya Pa Qa).1) (LWaited n sg (LForget n La))) Oa ((FMove nw Ya Pa Qa).1) ((FMove nw Ya Pa Qa).2.1) ((FMove nw Ya Pa Qa).2.2)) H locs := hW
        refine lv_aload_n hx hb dX4_letPass_33 rfl (lv_at hl 0 rfl) ?_
        refine x_callV hx hb hml hown hts hK hW hl.1 (c_X4_fadeLamps l X G (r := r) (n := n) (hr := hr) (hn := (by assumption)) (hn16 := (by assumption)) (ho0 := rfl)) (xF_street r hr).1 (xF_street r hr).2.1 (by decide) rfl xw_449 xw_450 xw_451 xw_15 xw_452 hdV_yX4_fadeLamps ⟨Nat.le_of_ble_eq_true rfl, Nat.le_of_ble_eq_true rfl⟩ rfl (Nat.le_of_ble_eq_true rfl) ⟨Nat.le_refl _, Nat.le_refl _⟩ dX4_letPass_34 (fun H locs hW => ?_)
        have hW : XR X G r (xSt fa sg (LFade n (sg 3) (LSee n nw sg ((FMove nw Ya Pa Qa).1) (LWaited n sg (LForget n La)))) Oa ((FMove nw Ya Pa Qa).1) ((FMove nw Ya Pa Qa).2.1) ((FMove nw Ya Pa Qa).2.2)) H locs := hW
        refine lv_aload_n hx hb dX4_letPass_37 rfl (lv_at hl 0 rfl) ?_
        refine x_callV hx hb hml hown hts hK hW hl.1 (c_X4_tally l X G (r := r) (n := n) (nh := nh) (nw := nw) (hr := hr) (hn := (by assumption)) (hn16 := (by assumption)) (hh := (by assumption)) (hh8 := (by assumption)) (hw := (by assumption)) (hw8 := (by assumption)) (ho0 := rfl) (ho1 := rfl) (ho2 := rfl)) (xF_street r hr).1 (xF_street r hr).2.1 (by decide) rfl xw_457 xw_458 xw_459 xw_15 xw_460 hdV_yX4_tally ⟨Nat.le_of_ble_eq_true rfl, Nat.le_of_ble_eq_true rfl⟩ rfl (Nat.le_of_ble_eq_true rfl) ⟨Nat.le_refl _, Nat.le_refl _⟩ dX4_letPass_38 (fun H locs hW => ?_)
        have hW : XR X G r (xSt fa sg ((Fdark n nw (LUse n (LFade n (sg 3) (LSee n nw sg ((FMove nw Ya Pa Qa).1) (LWaited n sg (LForget n La))))) ((FMove nw Ya Pa Qa).1)).1) (ODist n nh (Fdark n nw (LUse n (LFade n (sg 3) (LSee n nw sg ((FMove nw Ya Pa Qa).1) (LWaited n sg (LForget n La))))) ((FMove nw Ya Pa Qa).1)).1 Oa) ((Fdark n nw (LUse n (LFade n (sg 3) (LSee n nw sg ((FMove nw Ya Pa Qa).1) (LWaited n sg (LForget n La))))) ((FMove nw Ya Pa Qa).1)).2) ((FMove nw Ya Pa Qa).2.1) ((FMove nw Ya Pa Qa).2.2)) H locs := hW
        refine lv_aload_n hx hb dX4_letPass_41 rfl (lv_at hl 0 rfl) ?_
        refine lv_dup hx hb dX4_letPass_42 rfl ?_
        refine r_get hx hb hts hown hK hW (C := RX4) (T := TX4) (xF_street r hr) inlX4 rfl (by decide) 7 (by decide) (xr_street r hr).2.2.2.2.2.2.2 xw_106 rfl (x := fa 7) rfl dX4_letPass_43 ?_
        refine lv_iconst (v := 1) hx hb dX4_letPass_46 (by decide) ?_
        refine lv_iadd hx hb dX4_letPass_47 ?_
        refine r_put hx hb hts hown hK hW (C := RX4) (T := TX4) (xF_street r hr) inlX4 tyX4 tyX4_ok nmX4 rfl (by decide) 7 (by decide) (xr_street r hr).2.2.2.2.2.2.2 xw_106 rfl rfl rfl rfl xSt0 dX4_letPass_48 (fun H locs hW => ?_)
        refine lv_iinc (v := nI (i + 1)) (lv' := [(2, .int (nI (i + 1))), (0, .ref (xB X + xkey r 0 0)), (1, .int x)]) hx hb dX4_letPass_51 hl (k := 2) rfl (nI_1 i) (by decide) rfl (fun ls hl => ?_)
        refine lv_goto (tgt := 12) hx hb dX4_letPass_54 (by decide) ?_
        refine ih_12 (i + 1) (va_up fa 7 ((fa 7) + 1)) ((Fdark n nw (LUse n (LFade n (sg 3) (LSee n nw sg ((FMove nw Ya Pa Qa).1) (LWaited n sg (LForget n La))))) ((FMove nw Ya Pa Qa).1)).1) (ODist n nh (Fdark n nw (LUse n (LFade n (sg 3) (LSee n nw sg ((FMove nw Ya Pa Qa).1) (LWaited n sg (LForget n La))))) ((FMove nw Ya Pa Qa).1)).1 Oa) ((Fdark n nw (LUse n (LFade n (sg 3) (LSee n nw sg ((FMove nw Ya Pa Qa).1) (LWaited n sg (LForget n La))))) ((FMove nw Ya Pa Qa).1)).2) ((FMove nw Ya Pa Qa).2.1) ((FMove nw Ya Pa Qa).2.2) (by omega) hv0_12 hv1_12 hv2_12 ?_ H locs ls hW (lv_sub hl [1, 2, 0] rfl)
        rw [← hsp_12]; rfl
    exact loop_12 x.toNatClampNeg 0 f L O Y P Q (by omega) hn hh hw rfl _ _ _ hW (lv_sub hl [1, 2, 0] rfl)
  · skip
    refine lv_bipush (v := (-2)) hx hb dX4_letPass_7 (by decide) ?_
    obtain rfl : f = f' := by (rw [← ho0]) <;> (first | (simp [Fpass, FpassR, c_1]; done) | (have e9 : (fa, La, Oa, Ya, Pa, Qa) = Fticks n nh nw sg x.toNatClampNeg (f, L, O, Y, P, Q) := hsp_12; simp [Fpass, FpassR, c_1, ← e9]))
    obtain rfl : L = L' := by (rw [← ho1]) <;> (first | (simp [Fpass, FpassR, c_1]; done) | (have e9 : (fa, La, Oa, Ya, Pa, Qa) = Fticks n nh nw sg x.toNatClampNeg (f, L, O, Y, P, Q) := hsp_12; simp [Fpass, FpassR, c_1, ← e9]))
    obtain rfl : O = O' := by (rw [← ho2]) <;> (first | (simp [Fpass, FpassR, c_1]; done) | (have e9 : (fa, La, Oa, Ya, Pa, Qa) = Fticks n nh nw sg x.toNatClampNeg (f, L, O, Y, P, Q) := hsp_12; simp [Fpass, FpassR, c_1, ← e9]))
    obtain rfl : Y = Y' := by (rw [← ho3]) <;> (first | (simp [Fpass, FpassR, c_1]; done) | (have e9 : (fa, La, Oa, Ya, Pa, Qa) = Fticks n nh nw sg x.toNatClampNeg (f, L, O, Y, P, Q) := hsp_12; simp [Fpass, FpassR, c_1, ← e9]))
    obtain rfl : P = P' := by (rw [← ho4]) <;> (first | (simp [Fpass, FpassR, c_1]; done) | (have e9 : (fa, La, Oa, Ya, Pa, Qa) = Fticks n nh nw sg x.toNatClampNeg (f, L, O, Y, P, Q) := hsp_12; simp [Fpass, FpassR, c_1, ← e9]))
    obtain rfl : Q = Q' := by (rw [← ho5]) <;> (first | (simp [Fpass, FpassR, c_1]; done) | (have e9 : (fa, La, Oa, Ya, Pa, Qa) = Fticks n nh nw sg x.toNatClampNeg (f, L, O, Y, P, Q) := hsp_12; simp [Fpass, FpassR, c_1, ← e9]))
    obtain rfl : (-2) = res := by (rw [← hres]) <;> (first | (simp [Fpass, FpassR, c_1]; done) | (have e9 : (fa, La, Oa, Ya, Pa, Qa) = Fticks n nh nw sg x.toNatClampNeg (f, L, O, Y, P, Q) := hsp_12; simp [Fpass, FpassR, c_1, ← e9]))
    rw [hQ0]
    exact x_iret hx hb hret hlocks rfl hW rfl dX4_letPass_9
set_option maxHeartbeats 4000000 in
set_option maxRecDepth 100000 in
theorem c_X4_become (l : Launch) (X : xX) (G : xG) {r : Nat} {f sg : Nat → Int32} {L O Y P Q : Nat → Nat → Int32} {r2 n2 nh2 nw2 : Nat} (hr : r < 11) (hr2 : r2 < 11) (hne : r2 ≠ r) (hn2 : G r2 0 0 4 = nI n2) (hn2b : n2 ≤ 16) (hh2 : G r2 0 0 5 = nI nh2) (hh2b : nh2 ≤ 8) (hw2 : G r2 0 0 6 = nI nw2) (hw2b : nw2 ≤ 8) (hbo : ∀ i, i < 8 → G r2 4 i 5 = 0 ∨ G r2 4 i 5 = 1) {f' : Nat → Int32} (ho0 : (FheadC n2 nh2 nw2 (G r2 0 0 7) f) = f') {sg' : Nat → Int32} (ho1 : (Fcpy6 (G r2 1 0) sg) = sg') {L' : Nat → Nat → Int32} (ho2 : (LCopy n2 (G r2 2) L) = L') {O' : Nat → Nat → Int32} (ho3 : (OCopy nh2 (G r2 3) O) = O') {Y' : Nat → Nat → Int32} (ho4 : (YCopy nw2 (G r2 4) Y) = Y') {P' : Nat → Nat → Int32} (ho5 : (PCopy nw2 (G r2 5) P) = P') {Q' : Nat → Nat → Int32} (ho6 : (PCopy nw2 (G r2 6) Q) = Q') : XC l yX4_become cX4_become 3 none 2 61 0 0 X xsh [.ref (xB X + xkey r 0 0), .ref (xB X + xkey r2 0 0)] 603 603 (xval (xB X) (va_up G r (xSt f sg L O Y P Q))) (xval (xB X) (va_up G r (xSt f' sg' L' O' Y' P' Q'))) none := by
  refine XC.of RX4 "become" [(0, .ref (xB X + xkey r 0 0)), (1, .ref (xB X + xkey r2 0 0))] (by decide) rfl rfl (Nat.le_of_ble_eq_true rfl) rfl ?_
  intro p e s m args below meth c ls hx hb hret hml hts hown hlocks hnm hK hW hl
  have hW : XR X G r (xSt f sg L O Y P Q) s.heap [] := hW
  obtain ⟨Q0, hQ0⟩ : ∃ z, z = MQ below (xQ X xsh 603 (xval (xB X) (va_up G r (xSt f' sg' L' O' Y' P' Q'))) none) args s 0 0 (fun q => xB X ≤ q) := ⟨_, rfl⟩
  rw [← hQ0]
  refine lv_aload_n hx hb dX4_become_0 rfl (lv_at hl 1 rfl) ?_
  refine r_getr (C := RX4) (T := TX4) hx hb hts hown hK hW (xF_street r2 hr2).1 (xF_street r2 hr2).2.1 inlX4 rfl (by decide) 0 (by decide) (xr_street r2 hr2).1 xw_34 rfl dX4_become_1 ?_
  refine lv_iconst (v := 0) hx hb dX4_become_4 (by decide) ?_
  refine lv_aload_n hx hb dX4_become_5 rfl (lv_at hl 0 rfl) ?_
  refine r_getr (C := RX4) (T := TX4) hx hb hts hown hK hW (xF_street r hr).1 (xF_street r hr).2.1 inlX4 rfl (by decide) 0 (by decide) (xr_street r hr).1 xw_34 rfl dX4_become_6 ?_
  refine lv_iconst (v := 0) hx hb dX4_become_9 (by decide) ?_
  refine lv_bipush (v := 6) hx hb dX4_become_10 (by decide) ?_
  refine r_copy hx hb (hml.trans hl.1.symm) hown hts xw_41 xw_42 xw_43 xw_44 hK hW (xF_sett r2 hr2) (xF_sett r hr) (fun w hw => (xr_sett r2 hr2 w hw)) (fun w hw => (xr_sett r hr w hw)) 0 0 6 (by decide) (by decide) (by decide) ⟨by decide, by decide⟩ (by decide) (by decide) (Nat.le_of_ble_eq_true rfl) (Nat.le_of_ble_eq_true rfl) dX4_become_12 (fun H locs hW => ?_)
  have hW : XR X G r (xSt f (va_cpy (G r2 1 0) sg 0 0 6) L O Y P Q) H locs := by have h := hW; simp only [xcpO hne, xrow1, xat1] at h; exact h
  refine lv_aload_n hx hb dX4_become_15 rfl (lv_at hl 0 rfl) ?_
  refine lv_aload_n hx hb dX4_become_16 rfl (lv_at hl 1 rfl) ?_
  refine r_geto hx hb hts hown hK hne hW (C := RX4) (T := TX4) (xF_street r2 hr2) inlX4 rfl (by decide) 4 (by decide) (xr_street r2 hr2).2.2.2.2.1 xw_103 rfl (x := nI n2) hn2 dX4_become_17 ?_
  refine r_put hx hb hts hown hK hW (C := RX4) (T := TX4) (xF_street r hr) inlX4 tyX4 tyX4_ok nmX4 rfl (by decide) 4 (by decide) (xr_street r hr).2.2.2.2.1 xw_103 rfl rfl rfl rfl xSt0 dX4_become_20 (fun H locs hW => ?_)
  refine lv_iconst (v := nI 0) hx hb dX4_become_23 (by decide) ?_
  refine lv_istore_n (lv' := [(2, .int (nI 0)), (0, .ref (xB X + xkey r 0 0)), (1, .ref (xB X + xkey r2 0 0))]) hx hb dX4_become_24 rfl hl (by decide) rfl (fun ls hl => ?_)
  have loop_25 : ∀ (k_25 i : Nat) (La : Nat → Nat → Int32), i + k_25 = n2 → xloop (fun i (M : Nat → Nat → Int32) => va_up M i (Fcopy (G r2 2 i) (M i))) k_25 i La = xloop (fun i (M : Nat → Nat → Int32) => va_up M i (Fcopy (G r2 2 i) (M i))) n2 0 L → ∀ (H : Heap) (locs : List Loc) (ls : Array Slot), XR X G r (xSt (va_up f 4 (nI n2)) (va_cpy (G r2 1 0) sg 0 0 6) La O Y P Q) H locs → lv_has ls 3 [(0, .ref (xB X + xkey r 0 0)), (1, .ref (xB X + xkey r2 0 0)), (2, .int (nI i))] → W p l e { frames := 2, cells := 0, slots := 0, locals := 61 } s m args below meth c H locs 0 0 Q0 (F0 m 25 ls []) := by
    intro k_25
    induction k_25 with
    | zero =>
      intro i La hik_25  hsp_25 H locs ls hW hl
      refine lv_iload_n hx hb dX4_become_25 rfl (lv_at hl 2 rfl) ?_
      refine lv_aload_n hx hb dX4_become_26 rfl (lv_at hl 0 rfl) ?_
      refine r_get hx hb hts hown hK hW (C := RX4) (T := TX4) (xF_street r hr) inlX4 rfl (by decide) 4 (by decide) (xr_street r hr).2.2.2.2.1 xw_103 rfl (x := nI n2) rfl dX4_become_27 ?_
      refine lv_icmp_ge (tgt := 54) hx hb dX4_become_30 (by decide) (fun c_1 => ?_) (fun c_1 => absurd (xge_refl (by omega)) c_1)
      refine lv_aload_n hx hb dX4_become_54 rfl (lv_at hl 0 rfl) ?_
      refine lv_aload_n hx hb dX4_become_55 rfl (lv_at hl 1 rfl) ?_
      refine r_geto hx hb hts hown hK hne hW (C := RX4) (T := TX4) (xF_street r2 hr2) inlX4 rfl (by decide) 5 (by decide) (xr_street r2 hr2).2.2.2.2.2.1 xw_104 rfl (x := nI nh2) hh2 dX4_become_56 ?_
      refine r_put hx hb hts hown hK hW (C := RX4) (T := TX4) (xF_street r hr) inlX4 tyX4 tyX4_ok nmX4 rfl (by decide) 5 (by decide) (xr_street r hr).2.2.2.2.2.1 xw_104 rfl rfl rfl rfl xSt0 dX4_become_59 (fun H locs hW => ?_)
      refine lv_iconst (v := nI 0) hx hb dX4_become_62 (by decide) ?_
      refine lv_istore_n (lv' := [(2, .int (nI 0)), (0, .ref (xB X + xkey r 0 0)), (1, .ref (xB X + xkey r2 0 0))]) hx hb dX4_become_63 rfl hl (by decide) rfl (fun ls hl => ?_)
      have loop_64 : ∀ (k_64 i : Nat) (Oa : Nat → Nat → Int32), i + k_64 = nh2 → xloop (fun i (M : Nat → Nat → Int32) => va_up M i (va_up (va_up (M i) 0 (G r2 3 i 0)) 1 (G r2 3 i 1))) k_64 i Oa = xloop (fun i (M : Nat → Nat → Int32) => va_up M i (va_up (va_up (M i) 0 (G r2 3 i 0)) 1 (G r2 3 i 1))) nh2 0 O → ∀ (H : Heap) (locs : List Loc) (ls : Array Slot), XR X G r (xSt (va_up (va_up f 4 (nI n2)) 5 (nI nh2)) (va_cpy (G r2 1 0) sg 0 0 6) La Oa Y P Q) H locs → lv_has ls 3 [(0, .ref (xB X + xkey r 0 0)), (1, .ref (xB X + xkey r2 0 0)), (2, .int (nI i))] → W p l e { frames := 2, cells := 0, slots := 0, locals := 61 } s m args below meth c H locs 0 0 Q0 (F0 m 64 ls []) := by
        intro k_64
        induction k_64 with
        | zero =>
          intro i Oa hik_64  hsp_64 H locs ls hW hl
          refine lv_iload_n hx hb dX4_become_64 rfl (lv_at hl 2 rfl) ?_
          refine lv_aload_n hx hb dX4_become_65 rfl (lv_at hl 0 rfl) ?_
          refine r_get hx hb hts hown hK hW (C := RX4) (T := TX4) (xF_street r hr) inlX4 rfl (by decide) 5 (by decide) (xr_street r hr).2.2.2.2.2.1 xw_104 rfl (x := nI nh2) rfl dX4_become_66 ?_
          refine lv_icmp_ge (tgt := 93) hx hb dX4_become_69 (by decide) (fun c_2 => ?_) (fun c_2 => absurd (xge_refl (by omega)) c_2)
          refine lv_aload_n hx hb dX4_become_93 rfl (lv_at hl 0 rfl) ?_
          refine lv_aload_n hx hb dX4_become_94 rfl (lv_at hl 1 rfl) ?_
          refine r_geto hx hb hts hown hK hne hW (C := RX4) (T := TX4) (xF_street r2 hr2) inlX4 rfl (by decide) 6 (by decide) (xr_street r2 hr2).2.2.2.2.2.2.1 xw_105 rfl (x := nI nw2) hw2 dX4_become_95 ?_
          refine r_put hx hb hts hown hK hW (C := RX4) (T := TX4) (xF_street r hr) inlX4 tyX4 tyX4_ok nmX4 rfl (by decide) 6 (by decide) (xr_street r hr).2.2.2.2.2.2.1 xw_105 rfl rfl rfl rfl xSt0 dX4_become_98 (fun H locs hW => ?_)
          refine lv_iconst (v := nI 0) hx hb dX4_become_101 (by decide) ?_
          refine lv_istore_n (lv' := [(2, .int (nI 0)), (0, .ref (xB X + xkey r 0 0)), (1, .ref (xB X + xkey r2 0 0))]) hx hb dX4_become_102 rfl hl (by decide) rfl (fun ls hl => ?_)
          have loop_103 : ∀ (k_103 i : Nat) (Ya : Nat → Nat → Int32) (Pa : Nat → Nat → Int32) (Qa : Nat → Nat → Int32), i + k_103 = nw2 → xloop (fun i (q : (Nat → Nat → Int32) × (Nat → Nat → Int32) × (Nat → Nat → Int32)) => (va_up q.1 i (FcopyW (G r2 4 i) (q.1 i)), va_up q.2.1 i (Fcpy6 (G r2 5 i) (q.2.1 i)), va_up q.2.2 i (Fcpy6 (G r2 6 i) (q.2.2 i)))) k_103 i (Ya, Pa, Qa) = xloop (fun i (q : (Nat → Nat → Int32) × (Nat → Nat → Int32) × (Nat → Nat → Int32)) => (va_up q.1 i (FcopyW (G r2 4 i) (q.1 i)), va_up q.2.1 i (Fcpy6 (G r2 5 i) (q.2.1 i)), va_up q.2.2 i (Fcpy6 (G r2 6 i) (q.2.2 i)))) nw2 0 (Y, P, Q) → ∀ (H : Heap) (locs : List Loc) (ls : Array Slot), XR X G r (xSt (va_up (va_up (va_up f 4 (nI n2)) 5 (nI nh2)) 6 (nI nw2)) (va_cpy (G r2 1 0) sg 0 0 6) La Oa Ya Pa Qa) H locs → lv_has ls 3 [(0, .ref (xB X + xkey r 0 0)), (1, .ref (xB X + xkey r2 0 0)), (2, .int (nI i))] → W p l e { frames := 2, cells := 0, slots := 0, locals := 61 } s m args below meth c H locs 0 0 Q0 (F0 m 103 ls []) := by
            intro k_103
            induction k_103 with
            | zero =>
              intro i Ya Pa Qa hik_103  hsp_103 H locs ls hW hl
              refine lv_iload_n hx hb dX4_become_103 rfl (lv_at hl 2 rfl) ?_
              refine lv_aload_n hx hb dX4_become_104 rfl (lv_at hl 0 rfl) ?_
              refine r_get hx hb hts hown hK hW (C := RX4) (T := TX4) (xF_street r hr) inlX4 rfl (by decide) 6 (by decide) (xr_street r hr).2.2.2.2.2.2.1 xw_105 rfl (x := nI nw2) rfl dX4_become_105 ?_
              refine lv_icmp_ge (tgt := 132) hx hb dX4_become_108 (by decide) (fun c_3 => ?_) (fun c_3 => absurd (xge_refl (by omega)) c_3)
              refine lv_aload_n hx hb dX4_become_132 rfl (lv_at hl 0 rfl) ?_
              refine lv_aload_n hx hb dX4_become_133 rfl (lv_at hl 1 rfl) ?_
              refine r_geto hx hb hts hown hK hne hW (C := RX4) (T := TX4) (xF_street r2 hr2) inlX4 rfl (by decide) 7 (by decide) (xr_street r2 hr2).2.2.2.2.2.2.2 xw_106 rfl (x := G r2 0 0 7) rfl dX4_become_134 ?_
              refine r_put hx hb hts hown hK hW (C := RX4) (T := TX4) (xF_street r hr) inlX4 tyX4 tyX4_ok nmX4 rfl (by decide) 7 (by decide) (xr_street r hr).2.2.2.2.2.2.2 xw_106 rfl rfl rfl rfl xSt0 dX4_become_137 (fun H locs hW => ?_)
              obtain rfl : (va_up (va_up (va_up (va_up f 4 (nI n2)) 5 (nI nh2)) 6 (nI nw2)) 7 (G r2 0 0 7)) = f' := by (rw [← ho0]) <;> (first | rfl | exact hsp_25 | exact hsp_64 | exact (xcopy3a hsp_103).1 | exact (xcopy3a hsp_103).2.1 | exact (xcopy3a hsp_103).2.2)
              obtain rfl : (va_cpy (G r2 1 0) sg 0 0 6) = sg' := by (rw [← ho1]) <;> (first | rfl | exact hsp_25 | exact hsp_64 | exact (xcopy3a hsp_103).1 | exact (xcopy3a hsp_103).2.1 | exact (xcopy3a hsp_103).2.2)
              obtain rfl : La = L' := by (rw [← ho2]) <;> (first | rfl | exact hsp_25 | exact hsp_64 | exact (xcopy3a hsp_103).1 | exact (xcopy3a hsp_103).2.1 | exact (xcopy3a hsp_103).2.2)
              obtain rfl : Oa = O' := by (rw [← ho3]) <;> (first | rfl | exact hsp_25 | exact hsp_64 | exact (xcopy3a hsp_103).1 | exact (xcopy3a hsp_103).2.1 | exact (xcopy3a hsp_103).2.2)
              obtain rfl : Ya = Y' := by (rw [← ho4]) <;> (first | rfl | exact hsp_25 | exact hsp_64 | exact (xcopy3a hsp_103).1 | exact (xcopy3a hsp_103).2.1 | exact (xcopy3a hsp_103).2.2)
              obtain rfl : Pa = P' := by (rw [← ho5]) <;> (first | rfl | exact hsp_25 | exact hsp_64 | exact (xcopy3a hsp_103).1 | exact (xcopy3a hsp_103).2.1 | exact (xcopy3a hsp_103).2.2)
              obtain rfl : Qa = Q' := by (rw [← ho6]) <;> (first | rfl | exact hsp_25 | exact hsp_64 | exact (xcopy3a hsp_103).1 | exact (xcopy3a hsp_103).2.1 | exact (xcopy3a hsp_103).2.2)
              rw [hQ0]
              exact x_vret hx hb hret hlocks hW rfl dX4_become_140
            | succ k_103 ih_103 =>
              intro i Ya Pa Qa hik_103  hsp_103 H locs ls hW hl
              refine lv_iload_n hx hb dX4_become_103 rfl (lv_at hl 2 rfl) ?_
              refine lv_aload_n hx hb dX4_become_104 rfl (lv_at hl 0 rfl) ?_
              refine r_get hx hb hts hown hK hW (C := RX4) (T := TX4) (xF_street r hr) inlX4 rfl (by decide) 6 (by decide) (xr_street r hr).2.2.2.2.2.2.1 xw_105 rfl (x := nI nw2) rfl dX4_become_105 ?_
              refine lv_icmp_ge (tgt := 132) hx hb dX4_become_108 (by decide) (fun c_4 => absurd c_4 (nI_ge (by omega) (by omega))) (fun c_4 => ?_)
              refine lv_aload_n hx hb dX4_become_111 rfl (lv_at hl 0 rfl) ?_
              refine r_getr (C := RX4) (T := TX4) hx hb hts hown hK hW (xF_street r hr).1 (xF_street r hr).2.1 inlX4 rfl (by decide) 3 (by decide) (xr_street r hr).2.2.2.1 xw_40 rfl dX4_become_112 ?_
              refine lv_iload_n hx hb dX4_become_115 rfl (lv_at hl 2 rfl) ?_
              refine r_aald hx hb hK hW (xF_walkers r hr).1 (xF_walkers r hr).2 (by decide) 6 rfl i (by omega) (by decide) rfl (xr_walkers r hr i (by omega)) dX4_become_116 ?_
              refine lv_aload_n hx hb dX4_become_117 rfl (lv_at hl 1 rfl) ?_
              refine r_getr (C := RX4) (T := TX4) hx hb hts hown hK hW (xF_street r2 hr2).1 (xF_street r2 hr2).2.1 inlX4 rfl (by decide) 3 (by decide) (xr_street r2 hr2).2.2.2.1 xw_40 rfl dX4_become_118 ?_
              refine lv_iload_n hx hb dX4_become_121 rfl (lv_at hl 2 rfl) ?_
              refine r_aald hx hb hK hW (xF_walkers r2 hr2).1 (xF_walkers r2 hr2).2 (by decide) 6 rfl i (by omega) (by decide) rfl (xr_walkers r2 hr2 i (by omega)) dX4_become_122 ?_
              have hW := XR.foc4 hW i
              have hW := XR.foc5 hW i
              have hW := XR.foc6 hW i
              refine x_callV hx hb hml hown hts hK hW hl.1 (c_X5_copyFrom l X G (r := r) (i := i) (r2 := r2) (hr := hr) (hi := (by omega)) (hr2 := hr2) (hne := (by assumption)) (hbo := (hbo _ (by omega))) (ho0 := rfl) (ho1 := rfl) (ho2 := rfl)) (xF_walker r hr i (by omega)).1 (xF_walker r hr i (by omega)).2.1 (by decide) rfl xw_128 xw_129 xw_130 xw_50 xw_131 hdV_yX5_copyFrom ⟨Nat.le_of_ble_eq_true rfl, Nat.le_of_ble_eq_true rfl⟩ rfl (Nat.le_of_ble_eq_true rfl) ⟨Nat.le_refl _, Nat.le_refl _⟩ dX4_become_123 (fun H locs hW => ?_)
              have hW : XR X G r (xSt (va_up (va_up (va_up f 4 (nI n2)) 5 (nI nh2)) 6 (nI nw2)) (va_cpy (G r2 1 0) sg 0 0 6) La Oa (va_up Ya i (FcopyW (G r2 4 i) (Ya i))) (va_up Pa i (Fcpy6 (G r2 5 i) (Pa i))) (va_up Qa i (Fcpy6 (G r2 6 i) (Qa i)))) H locs := hW
              refine lv_iinc (v := nI (i + 1)) (lv' := [(2, .int (nI (i + 1))), (0, .ref (xB X + xkey r 0 0)), (1, .ref (xB X + xkey r2 0 0))]) hx hb dX4_become_126 hl (k := 2) rfl (nI_1 i) (by decide) rfl (fun ls hl => ?_)
              refine lv_goto (tgt := 103) hx hb dX4_become_129 (by decide) ?_
              refine ih_103 (i + 1) (va_up Ya i (FcopyW (G r2 4 i) (Ya i))) (va_up Pa i (Fcpy6 (G r2 5 i) (Pa i))) (va_up Qa i (Fcpy6 (G r2 6 i) (Qa i))) (by omega)  ?_ H locs ls hW (lv_sub hl [1, 2, 0] rfl)
              rw [← hsp_103]; simp [xloop, xfind, xloop, c_1, c_2, c_4]
          exact loop_103 nw2 0 Y P Q (by omega)  rfl _ _ _ hW (lv_sub hl [1, 2, 0] rfl)
        | succ k_64 ih_64 =>
          intro i Oa hik_64  hsp_64 H locs ls hW hl
          refine lv_iload_n hx hb dX4_become_64 rfl (lv_at hl 2 rfl) ?_
          refine lv_aload_n hx hb dX4_become_65 rfl (lv_at hl 0 rfl) ?_
          refine r_get hx hb hts hown hK hW (C := RX4) (T := TX4) (xF_street r hr) inlX4 rfl (by decide) 5 (by decide) (xr_street r hr).2.2.2.2.2.1 xw_104 rfl (x := nI nh2) rfl dX4_become_66 ?_
          refine lv_icmp_ge (tgt := 93) hx hb dX4_become_69 (by decide) (fun c_5 => absurd c_5 (nI_ge (by omega) (by omega))) (fun c_5 => ?_)
          refine lv_aload_n hx hb dX4_become_72 rfl (lv_at hl 0 rfl) ?_
          refine r_getr (C := RX4) (T := TX4) hx hb hts hown hK hW (xF_street r hr).1 (xF_street r hr).2.1 inlX4 rfl (by decide) 2 (by decide) (xr_street r hr).2.2.1 xw_38 rfl dX4_become_73 ?_
          refine lv_iload_n hx hb dX4_become_76 rfl (lv_at hl 2 rfl) ?_
          refine r_aald hx hb hK hW (xF_houses r hr).1 (xF_houses r hr).2 (by decide) 5 rfl i (by omega) (by decide) rfl (xr_houses r hr i (by omega)) dX4_become_77 ?_
          refine lv_aload_n hx hb dX4_become_78 rfl (lv_at hl 1 rfl) ?_
          refine r_getr (C := RX4) (T := TX4) hx hb hts hown hK hW (xF_street r2 hr2).1 (xF_street r2 hr2).2.1 inlX4 rfl (by decide) 2 (by decide) (xr_street r2 hr2).2.2.1 xw_38 rfl dX4_become_79 ?_
          refine lv_iload_n hx hb dX4_become_82 rfl (lv_at hl 2 rfl) ?_
          refine r_aald hx hb hK hW (xF_houses r2 hr2).1 (xF_houses r2 hr2).2 (by decide) 5 rfl i (by omega) (by decide) rfl (xr_houses r2 hr2 i (by omega)) dX4_become_83 ?_
          have hW := XR.foc3 hW i
          refine x_callV hx hb hml hown hts hK hW hl.1 (c_X1_copyFrom l X G (r := r) (i := i) (r2 := r2) (hr := hr) (hi := (by omega)) (hr2 := hr2) (hne := (by assumption)) ) (xF_house r hr i (by omega)).1 (xF_house r hr i (by omega)).2.1 (by decide) rfl xw_122 xw_123 xw_124 xw_48 xw_125 hdV_yX1_copyFrom ⟨Nat.le_of_ble_eq_true rfl, Nat.le_of_ble_eq_true rfl⟩ rfl (Nat.le_of_ble_eq_true rfl) ⟨Nat.le_refl _, Nat.le_refl _⟩ dX4_become_84 (fun H locs hW => ?_)
          have hW : XR X G r (xSt (va_up (va_up f 4 (nI n2)) 5 (nI nh2)) (va_cpy (G r2 1 0) sg 0 0 6) La (va_up Oa i (va_up (va_up (Oa i) 0 (G r2 3 i 0)) 1 (G r2 3 i 1))) Y P Q) H locs := hW
          refine lv_iinc (v := nI (i + 1)) (lv' := [(2, .int (nI (i + 1))), (0, .ref (xB X + xkey r 0 0)), (1, .ref (xB X + xkey r2 0 0))]) hx hb dX4_become_87 hl (k := 2) rfl (nI_1 i) (by decide) rfl (fun ls hl => ?_)
          refine lv_goto (tgt := 64) hx hb dX4_become_90 (by decide) ?_
          refine ih_64 (i + 1) (va_up Oa i (va_up (va_up (Oa i) 0 (G r2 3 i 0)) 1 (G r2 3 i 1))) (by omega)  ?_ H locs ls hW (lv_sub hl [1, 2, 0] rfl)
          rw [← hsp_64]; simp [xloop, xfind, xloop, c_1, c_5]
      exact loop_64 nh2 0 O (by omega)  rfl _ _ _ hW (lv_sub hl [1, 2, 0] rfl)
    | succ k_25 ih_25 =>
      intro i La hik_25  hsp_25 H locs ls hW hl
      refine lv_iload_n hx hb dX4_become_25 rfl (lv_at hl 2 rfl) ?_
      refine lv_aload_n hx hb dX4_become_26 rfl (lv_at hl 0 rfl) ?_
      refine r_get hx hb hts hown hK hW (C := RX4) (T := TX4) (xF_street r hr) inlX4 rfl (by decide) 4 (by decide) (xr_street r hr).2.2.2.2.1 xw_103 rfl (x := nI n2) rfl dX4_become_27 ?_
      refine lv_icmp_ge (tgt := 54) hx hb dX4_become_30 (by decide) (fun c_6 => absurd c_6 (nI_ge (by omega) (by omega))) (fun c_6 => ?_)
      refine lv_aload_n hx hb dX4_become_33 rfl (lv_at hl 0 rfl) ?_
      refine r_getr (C := RX4) (T := TX4) hx hb hts hown hK hW (xF_street r hr).1 (xF_street r hr).2.1 inlX4 rfl (by decide) 1 (by decide) (xr_street r hr).2.1 xw_36 rfl dX4_become_34 ?_
      refine lv_iload_n hx hb dX4_become_37 rfl (lv_at hl 2 rfl) ?_
      refine r_aald hx hb hK hW (xF_lamps r hr).1 (xF_lamps r hr).2 (by decide) 4 rfl i (by omega) (by decide) rfl (xr_lamps r hr i (by omega)) dX4_become_38 ?_
      refine lv_aload_n hx hb dX4_become_39 rfl (lv_at hl 1 rfl) ?_
      refine r_getr (C := RX4) (T := TX4) hx hb hts hown hK hW (xF_street r2 hr2).1 (xF_street r2 hr2).2.1 inlX4 rfl (by decide) 1 (by decide) (xr_street r2 hr2).2.1 xw_36 rfl dX4_become_40 ?_
      refine lv_iload_n hx hb dX4_become_43 rfl (lv_at hl 2 rfl) ?_
      refine r_aald hx hb hK hW (xF_lamps r2 hr2).1 (xF_lamps r2 hr2).2 (by decide) 4 rfl i (by omega) (by decide) rfl (xr_lamps r2 hr2 i (by omega)) dX4_become_44 ?_
      have hW := XR.foc2 hW i
      refine x_callV hx hb hml hown hts hK hW hl.1 (c_X2_copyFrom l X G (r := r) (i := i) (r2 := r2) (hr := hr) (hi := (by omega)) (hr2 := hr2) (hne := (by assumption)) (ho0 := rfl)) (xF_lamp r hr i (by omega)).1 (xF_lamp r hr i (by omega)).2.1 (by decide) rfl xw_107 xw_108 xw_109 xw_46 xw_110 hdV_yX2_copyFrom ⟨Nat.le_of_ble_eq_true rfl, Nat.le_of_ble_eq_true rfl⟩ rfl (Nat.le_of_ble_eq_true rfl) ⟨Nat.le_refl _, Nat.le_refl _⟩ dX4_become_45 (fun H locs hW => ?_)
      have hW : XR X G r (xSt (va_up f 4 (nI n2)) (va_cpy (G r2 1 0) sg 0 0 6) (va_up La i (Fcopy (G r2 2 i) (La i))) O Y P Q) H locs := hW
      refine lv_iinc (v := nI (i + 1)) (lv' := [(2, .int (nI (i + 1))), (0, .ref (xB X + xkey r 0 0)), (1, .ref (xB X + xkey r2 0 0))]) hx hb dX4_become_48 hl (k := 2) rfl (nI_1 i) (by decide) rfl (fun ls hl => ?_)
      refine lv_goto (tgt := 25) hx hb dX4_become_51 (by decide) ?_
      refine ih_25 (i + 1) (va_up La i (Fcopy (G r2 2 i) (La i))) (by omega)  ?_ H locs ls hW (lv_sub hl [1, 2, 0] rfl)
      rw [← hsp_25]; simp [xloop, xfind, xloop, c_6]
  exact loop_25 n2 0 L (by omega)  rfl _ _ _ hW (lv_sub hl [1, 2, 0] rfl)
