/-! ===== what a street's methods do ===== -/
def LForget (n : Nat) (L : Nat → Nat → Int32) : Nat → Nat → Int32 := xloop (fun i L => va_up L i (Fforget (L i))) n 0 L
def Fhas (n : Nat) (x : Int32) : Int32 := if 0 ≤ x then (if x < nI n then 1 else 0) else 0
def Fhears (reach : Int32) (L : Nat → Nat → Int32) (a b : Nat) : Int32 := if nI a = nI b then 0 else if L a 3 = 2 then 0 else if Fdist (L a) (L b 0) ≤ reach then 1 else 0
def Fspread (n : Nat) (sg : Nat → Int32) (a : Nat) (rk : Int32) (L : Nat → Nat → Int32) : (Nat → Nat → Int32) × Int32 :=
  xloop (fun i (q : (Nat → Nat → Int32) × Int32) => if Fhears (sg 1) q.1 i a = 0 then q else (va_up q.1 i (Fhear rk sg (q.1 i)), q.2 + 1)) n 0 (va_up L a (va_up (L a) 8 (L a 8 + 1)), 0)
def xbit (i : Nat) : Int32 := 1 <<< (nI i &&& 31)
def Fwaits (n : Nat) (L : Nat → Nat → Int32) : (Nat → Nat → Int32) × Int32 :=
  xloop (fun i (q : (Nat → Nat → Int32) × Int32) => if q.1 i 5 = -6 then q else if q.1 i 5 - 1 ≤ 0 then (va_up q.1 i (va_up (va_up (va_up (q.1 i) 5 (q.1 i 5 - 1)) 5 (-6)) 12 1), q.2 ||| xbit i) else (va_up q.1 i (va_up (q.1 i) 5 (q.1 i 5 - 1)), q.2)) n 0 (L, 0)
def Fdue (d : Int32) (i : Nat) : Int32 := d >>> (nI i &&& 31) &&& 1
def LWaited (n : Nat) (sg : Nat → Int32) (L : Nat → Nat → Int32) : Nat → Nat → Int32 :=
  xloop (fun i (M : Nat → Nat → Int32) => if Fdue (Fwaits n L).2 i = 1 then (Fspread n sg i (M i 6) M).1 else M) n 0 (Fwaits n L).1
def Fsees (nw : Nat) (sg : Nat → Int32) (Y : Nat → Nat → Int32) (ℓ : Nat → Int32) : Int32 := if ℓ 3 = 0 then xfind (fun w => if Y w 5 = 0 then (if Fdist ℓ (Y w 3) ≤ sg 0 then 1 else 0) else 0) nw 0 else 0
def Fset (g : Nat → Int32) (n : Nat) : Int32 := xloop (fun i s => if g i = 0 then s else s ||| xbit i) n 0 0
def Fthat (n : Nat) (d : Int32) (L : Nat → Nat → Int32) : Int32 := xloop (fun i s => if L i 2 = d then s ||| xbit i else s) n 0 0
def LSee (n nw : Nat) (sg : Nat → Int32) (Y L : Nat → Nat → Int32) : Nat → Nat → Int32 :=
  xloop (fun i (M : Nat → Nat → Int32) => if Fsees nw sg Y (M i) = 0 then M else if Fdue (Fthat n 2 L) i = 0 then (Fspread n sg i 0 (va_up M i (va_up (va_up (va_up (va_up (va_up (M i) 2 2) 4 (sg 2)) 11 1) 5 (-6)) 12 1))).1 else va_up M i (va_up (va_up (va_up (M i) 2 2) 4 (sg 2)) 11 1)) n 0 L
def LFade (n : Nat) (dim : Int32) (L : Nat → Nat → Int32) : Nat → Nat → Int32 := xloop (fun i L => va_up L i (Ffade dim (L i))) n 0 L
def Flit (n : Nat) (x : Int32) (L : Nat → Nat → Int32) : Int32 := Fset (fun i => Flights (L i) x) n
def Fdist2 (n : Nat) (x : Int32) (L : Nat → Nat → Int32) : Int32 := xfind (fun i => Fdisturbs (L i) x) n 0
def Fnear (n : Nat) (x : Int32) (L : Nat → Nat → Int32) : Nat := xloop (fun i b => if Fdist (L i) x < Fdist (L b) x then i else b) (n - 1) 1 0
def LBlame (n : Nat) (x : Int32) (L : Nat → Nat → Int32) : Nat → Nat → Int32 := if nI n = 0 then L else va_up L (Fnear n x L) (va_up (L (Fnear n x L)) 10 (L (Fnear n x L) 10 + 1))
def LUse (n : Nat) (L : Nat → Nat → Int32) : Nat → Nat → Int32 := xloop (fun i L => va_up L i (Fuse (L i))) n 0 L
def Fdark (n nw : Nat) (L Y : Nat → Nat → Int32) : (Nat → Nat → Int32) × (Nat → Nat → Int32) :=
  xloop (fun w (q : (Nat → Nat → Int32) × (Nat → Nat → Int32)) => if q.2 w 5 = 0 then (if Flit n (q.2 w 3) q.1 = 0 then (LBlame n (q.2 w 3) q.1, va_up q.2 w (va_up (q.2 w) 7 (q.2 w 7 + 1))) else q) else q) nw 0 (L, Y)
def ODist (n nh : Nat) (L O : Nat → Nat → Int32) : Nat → Nat → Int32 := xloop (fun h (U : Nat → Nat → Int32) => if Fdist2 n (U h 0) L = 0 then U else va_up U h (va_up (U h) 1 (U h 1 + 1))) nh 0 O
def FMove (nw : Nat) (Y P Q : Nat → Nat → Int32) : (Nat → Nat → Int32) × (Nat → Nat → Int32) × (Nat → Nat → Int32) :=
  xloop (fun i (q : (Nat → Nat → Int32) × (Nat → Nat → Int32) × (Nat → Nat → Int32)) => (va_up q.1 i (FgoW (q.1 i) (q.2.1 i) (q.2.2 i)), va_up q.2.1 i (FgoP (q.1 i) (q.2.1 i) (q.2.2 i) (q.2.1 i)), va_up q.2.2 i (FgoP (q.1 i) (q.2.1 i) (q.2.2 i) (q.2.2 i)))) nw 0 (Y, P, Q)
def Fhearers (n : Nat) (reach : Int32) (a : Nat) (L : Nat → Nat → Int32) : Int32 := xloop (fun i s => if L a 3 = 2 then s else if Fhears reach L i a = 0 then s else s ||| xbit i) n 0 0
def Finstreet (nw : Nat) (Y : Nat → Nat → Int32) : Int32 := xloop (fun i s => if Y i 5 = 0 then s + 1 else s) nw 0 0
def Fsum (n w : Nat) (L : Nat → Nat → Int32) : Int32 := xloop (fun i s => s + L i w) n 0 0
theorem hdS_yX6_within : yX6_within.cls ≠ "java/lang/invoke/MethodHandle" ∧ yX6_within.cls ≠ "java/lang/invoke/VarHandle" ∧ (parseMethodDescriptor yX6_within.desc).map (fun d => d.parameters.length) = some 3 := by decide +kernel
theorem hdS_yX6_isStep : yX6_isStep.cls ≠ "java/lang/invoke/MethodHandle" ∧ yX6_isStep.cls ≠ "java/lang/invoke/VarHandle" ∧ (parseMethodDescriptor yX6_isStep.desc).map (fun d => d.parameters.length) = some 1 := by decide +kernel
theorem hdS_yX6_isTicks : yX6_isTicks.cls ≠ "java/lang/invoke/MethodHandle" ∧ yX6_isTicks.cls ≠ "java/lang/invoke/VarHandle" ∧ (parseMethodDescriptor yX6_isTicks.desc).map (fun d => d.parameters.length) = some 1 := by decide +kernel
theorem hdV_yX4_forgetLastTick : yX4_forgetLastTick.cls = RX4 ∧ yX4_forgetLastTick.cls ≠ "java/lang/invoke/MethodHandle" ∧ yX4_forgetLastTick.cls ≠ "java/lang/invoke/VarHandle" ∧ (parseMethodDescriptor yX4_forgetLastTick.desc).map (fun d => d.parameters.length) = some 0 := by decide +kernel
theorem hdV_yX4_hasLamp : yX4_hasLamp.cls = RX4 ∧ yX4_hasLamp.cls ≠ "java/lang/invoke/MethodHandle" ∧ yX4_hasLamp.cls ≠ "java/lang/invoke/VarHandle" ∧ (parseMethodDescriptor yX4_hasLamp.desc).map (fun d => d.parameters.length) = some 1 := by decide +kernel
theorem hdV_yX4_hasHouse : yX4_hasHouse.cls = RX4 ∧ yX4_hasHouse.cls ≠ "java/lang/invoke/MethodHandle" ∧ yX4_hasHouse.cls ≠ "java/lang/invoke/VarHandle" ∧ (parseMethodDescriptor yX4_hasHouse.desc).map (fun d => d.parameters.length) = some 1 := by decide +kernel
theorem hdV_yX4_hasWalker : yX4_hasWalker.cls = RX4 ∧ yX4_hasWalker.cls ≠ "java/lang/invoke/MethodHandle" ∧ yX4_hasWalker.cls ≠ "java/lang/invoke/VarHandle" ∧ (parseMethodDescriptor yX4_hasWalker.desc).map (fun d => d.parameters.length) = some 1 := by decide +kernel
theorem hdV_yX4_hears : yX4_hears.cls = RX4 ∧ yX4_hears.cls ≠ "java/lang/invoke/MethodHandle" ∧ yX4_hears.cls ≠ "java/lang/invoke/VarHandle" ∧ (parseMethodDescriptor yX4_hears.desc).map (fun d => d.parameters.length) = some 2 := by decide +kernel
theorem hdV_yX4_spreadCough : yX4_spreadCough.cls = RX4 ∧ yX4_spreadCough.cls ≠ "java/lang/invoke/MethodHandle" ∧ yX4_spreadCough.cls ≠ "java/lang/invoke/VarHandle" ∧ (parseMethodDescriptor yX4_spreadCough.desc).map (fun d => d.parameters.length) = some 2 := by decide +kernel
theorem hdV_yX4_coughThoseWhoWaited : yX4_coughThoseWhoWaited.cls = RX4 ∧ yX4_coughThoseWhoWaited.cls ≠ "java/lang/invoke/MethodHandle" ∧ yX4_coughThoseWhoWaited.cls ≠ "java/lang/invoke/VarHandle" ∧ (parseMethodDescriptor yX4_coughThoseWhoWaited.desc).map (fun d => d.parameters.length) = some 0 := by decide +kernel
theorem hdV_yX4_lampsThatAre : yX4_lampsThatAre.cls = RX4 ∧ yX4_lampsThatAre.cls ≠ "java/lang/invoke/MethodHandle" ∧ yX4_lampsThatAre.cls ≠ "java/lang/invoke/VarHandle" ∧ (parseMethodDescriptor yX4_lampsThatAre.desc).map (fun d => d.parameters.length) = some 1 := by decide +kernel
theorem hdV_yX4_lampsThatLight : yX4_lampsThatLight.cls = RX4 ∧ yX4_lampsThatLight.cls ≠ "java/lang/invoke/MethodHandle" ∧ yX4_lampsThatLight.cls ≠ "java/lang/invoke/VarHandle" ∧ (parseMethodDescriptor yX4_lampsThatLight.desc).map (fun d => d.parameters.length) = some 1 := by decide +kernel
theorem hdV_yX4_seesWalker : yX4_seesWalker.cls = RX4 ∧ yX4_seesWalker.cls ≠ "java/lang/invoke/MethodHandle" ∧ yX4_seesWalker.cls ≠ "java/lang/invoke/VarHandle" ∧ (parseMethodDescriptor yX4_seesWalker.desc).map (fun d => d.parameters.length) = some 1 := by decide +kernel
theorem hdV_yX4_moveWalkers : yX4_moveWalkers.cls = RX4 ∧ yX4_moveWalkers.cls ≠ "java/lang/invoke/MethodHandle" ∧ yX4_moveWalkers.cls ≠ "java/lang/invoke/VarHandle" ∧ (parseMethodDescriptor yX4_moveWalkers.desc).map (fun d => d.parameters.length) = some 0 := by decide +kernel
theorem hdV_yX4_wakeThoseWhoSee : yX4_wakeThoseWhoSee.cls = RX4 ∧ yX4_wakeThoseWhoSee.cls ≠ "java/lang/invoke/MethodHandle" ∧ yX4_wakeThoseWhoSee.cls ≠ "java/lang/invoke/VarHandle" ∧ (parseMethodDescriptor yX4_wakeThoseWhoSee.desc).map (fun d => d.parameters.length) = some 0 := by decide +kernel
theorem hdV_yX4_fadeLamps : yX4_fadeLamps.cls = RX4 ∧ yX4_fadeLamps.cls ≠ "java/lang/invoke/MethodHandle" ∧ yX4_fadeLamps.cls ≠ "java/lang/invoke/VarHandle" ∧ (parseMethodDescriptor yX4_fadeLamps.desc).map (fun d => d.parameters.length) = some 0 := by decide +kernel
theorem hdV_yX4_isDisturbed : yX4_isDisturbed.cls = RX4 ∧ yX4_isDisturbed.cls ≠ "java/lang/invoke/MethodHandle" ∧ yX4_isDisturbed.cls ≠ "java/lang/invoke/VarHandle" ∧ (parseMethodDescriptor yX4_isDisturbed.desc).map (fun d => d.parameters.length) = some 1 := by decide +kernel
theorem hdV_yX4_blameNearest : yX4_blameNearest.cls = RX4 ∧ yX4_blameNearest.cls ≠ "java/lang/invoke/MethodHandle" ∧ yX4_blameNearest.cls ≠ "java/lang/invoke/VarHandle" ∧ (parseMethodDescriptor yX4_blameNearest.desc).map (fun d => d.parameters.length) = some 1 := by decide +kernel
theorem hdV_yX4_tally : yX4_tally.cls = RX4 ∧ yX4_tally.cls ≠ "java/lang/invoke/MethodHandle" ∧ yX4_tally.cls ≠ "java/lang/invoke/VarHandle" ∧ (parseMethodDescriptor yX4_tally.desc).map (fun d => d.parameters.length) = some 0 := by decide +kernel
theorem hdV_yX4_lampsThatHear : yX4_lampsThatHear.cls = RX4 ∧ yX4_lampsThatHear.cls ≠ "java/lang/invoke/MethodHandle" ∧ yX4_lampsThatHear.cls ≠ "java/lang/invoke/VarHandle" ∧ (parseMethodDescriptor yX4_lampsThatHear.desc).map (fun d => d.parameters.length) = some 1 := by decide +kernel
theorem hdV_yX4_walkersInStreet : yX4_walkersInStreet.cls = RX4 ∧ yX4_walkersInStreet.cls ≠ "java/lang/invoke/MethodHandle" ∧ yX4_walkersInStreet.cls ≠ "java/lang/invoke/VarHandle" ∧ (parseMethodDescriptor yX4_walkersInStreet.desc).map (fun d => d.parameters.length) = some 0 := by decide +kernel
theorem hdV_yX4_darkTicks : yX4_darkTicks.cls = RX4 ∧ yX4_darkTicks.cls ≠ "java/lang/invoke/MethodHandle" ∧ yX4_darkTicks.cls ≠ "java/lang/invoke/VarHandle" ∧ (parseMethodDescriptor yX4_darkTicks.desc).map (fun d => d.parameters.length) = some 0 := by decide +kernel
theorem hdV_yX4_lightUnits : yX4_lightUnits.cls = RX4 ∧ yX4_lightUnits.cls ≠ "java/lang/invoke/MethodHandle" ∧ yX4_lightUnits.cls ≠ "java/lang/invoke/VarHandle" ∧ (parseMethodDescriptor yX4_lightUnits.desc).map (fun d => d.parameters.length) = some 0 := by decide +kernel
theorem hdV_yX4_disturbedTicks : yX4_disturbedTicks.cls = RX4 ∧ yX4_disturbedTicks.cls ≠ "java/lang/invoke/MethodHandle" ∧ yX4_disturbedTicks.cls ≠ "java/lang/invoke/VarHandle" ∧ (parseMethodDescriptor yX4_disturbedTicks.desc).map (fun d => d.parameters.length) = some 0 := by decide +kernel
theorem hdV_yX4_coughsSoFar : yX4_coughsSoFar.cls = RX4 ∧ yX4_coughsSoFar.cls ≠ "java/lang/invoke/MethodHandle" ∧ yX4_coughsSoFar.cls ≠ "java/lang/invoke/VarHandle" ∧ (parseMethodDescriptor yX4_coughsSoFar.desc).map (fun d => d.parameters.length) = some 0 := by decide +kernel
set_option maxHeartbeats 4000000 in
set_option maxRecDepth 100000 in
theorem c_X6_within (l : Launch) (X : xX) (G : xG) {v lo hi : Int32}  {res : Int32} (hres : (Fin3 v lo hi) = res) : XC l yX6_within cX6_within 3 (some .boolean) 0 0 0 0 X xsh [.int v, .int lo, .int hi] 603 603 (xval (xB X) G) (xval (xB X) G) (some (.int res)) := by
  refine XC.of RX6 "within" [(0, .int v), (1, .int lo), (2, .int hi)] (by decide) rfl rfl (Nat.le_of_ble_eq_true rfl) rfl ?_
  intro p e s m args below meth c ls hx hb hret hml hts hown hlocks hnm hK hW hl
  have hW : XG X G s.heap [] := hW
  obtain ⟨Q0, hQ0⟩ : ∃ z, z = MQ below (xQ X xsh 603 (xval (xB X) G) (some (.int res))) args s 0 0 (fun q => xB X ≤ q) := ⟨_, rfl⟩
  rw [← hQ0]
  refine lv_iload_n hx hb dX6_within_0 rfl (lv_at hl 0 rfl) ?_
  refine lv_iload_n hx hb dX6_within_1 rfl (lv_at hl 1 rfl) ?_
  refine lv_icmp_lt (tgt := 14) hx hb dX6_within_2 (by decide) (fun c_1 => ?_) (fun c_1 => ?_)
  · skip
    refine lv_iconst (v := 0) hx hb dX6_within_14 (by decide) ?_
    obtain rfl : 0 = res := by (rw [← hres]) <;> (simp [Fin3, c_1, Int32.not_le.mpr c_1])
    rw [hQ0]
    exact x_iret hx hb hret hlocks rfl hW rfl dX6_within_15
  · skip
    refine lv_iload_n hx hb dX6_within_5 rfl (lv_at hl 0 rfl) ?_
    refine lv_iload_n hx hb dX6_within_6 rfl (lv_at hl 2 rfl) ?_
    refine lv_icmp_gt (tgt := 14) hx hb dX6_within_7 (by decide) (fun c_2 => ?_) (fun c_2 => ?_)
    · skip
      refine lv_iconst (v := 0) hx hb dX6_within_14 (by decide) ?_
      obtain rfl : 0 = res := by (rw [← hres]) <;> (simp [Fin3, c_1, Int32.not_lt.mp c_1, c_2, Int32.not_le.mpr c_2])
      rw [hQ0]
      exact x_iret hx hb hret hlocks rfl hW rfl dX6_within_15
    · skip
      refine lv_iconst (v := 1) hx hb dX6_within_10 (by decide) ?_
      refine lv_goto (tgt := 15) hx hb dX6_within_11 (by decide) ?_
      obtain rfl : 1 = res := by (rw [← hres]) <;> (simp [Fin3, c_1, Int32.not_lt.mp c_1, c_2, Int32.not_lt.mp c_2])
      rw [hQ0]
      exact x_iret hx hb hret hlocks rfl hW rfl dX6_within_15
set_option maxHeartbeats 4000000 in
set_option maxRecDepth 100000 in
theorem c_X6_isStep (l : Launch) (X : xX) (G : xG) {v : Int32}  {res : Int32} (hres : (Fin3 v 0 99) = res) : XC l yX6_isStep cX6_isStep 1 (some .boolean) 1 22 0 0 X xsh [.int v] 603 603 (xval (xB X) G) (xval (xB X) G) (some (.int res)) := by
  refine XC.of RX6 "isStep" [(0, .int v)] (by decide) rfl rfl (Nat.le_of_ble_eq_true rfl) rfl ?_
  intro p e s m args below meth c ls hx hb hret hml hts hown hlocks hnm hK hW hl
  have hW : XG X G s.heap [] := hW
  obtain ⟨Q0, hQ0⟩ : ∃ z, z = MQ below (xQ X xsh 603 (xval (xB X) G) (some (.int res))) args s 0 0 (fun q => xB X ≤ q) := ⟨_, rfl⟩
  rw [← hQ0]
  refine lv_iload_n hx hb dX6_isStep_0 rfl (lv_at hl 0 rfl) ?_
  refine lv_iconst (v := 0) hx hb dX6_isStep_1 (by decide) ?_
  refine lv_bipush (v := 99) hx hb dX6_isStep_2 (by decide) ?_
  refine x_callS hx hb hml hown hts hK hW hl.1 (c_X6_within l X _ (v := v) (lo := 0) (hi := 99) (hres := rfl)) xw_182 xw_144 xw_2 xw_145 hdS_yX6_within ⟨Nat.le_of_ble_eq_true rfl, Nat.le_of_ble_eq_true rfl⟩ rfl (Nat.le_of_ble_eq_true rfl) ⟨Nat.le_refl _, Nat.le_refl _⟩ dX6_isStep_4 (fun H locs hW => ?_)
  obtain rfl : Fin3 v 0 99 = res := by (rw [← hres]) <;> (skip)
  rw [hQ0]
  exact x_iret hx hb hret hlocks (xb_nar (Fin3_01 _ _ _)) hW rfl dX6_isStep_7
set_option maxHeartbeats 4000000 in
set_option maxRecDepth 100000 in
theorem c_X6_isTicks (l : Launch) (X : xX) (G : xG) {v : Int32}  {res : Int32} (hres : (Fin3 v 1 200) = res) : XC l yX6_isTicks cX6_isTicks 1 (some .boolean) 1 22 0 0 X xsh [.int v] 603 603 (xval (xB X) G) (xval (xB X) G) (some (.int res)) := by
  refine XC.of RX6 "isTicks" [(0, .int v)] (by decide) rfl rfl (Nat.le_of_ble_eq_true rfl) rfl ?_
  intro p e s m args below meth c ls hx hb hret hml hts hown hlocks hnm hK hW hl
  have hW : XG X G s.heap [] := hW
  obtain ⟨Q0, hQ0⟩ : ∃ z, z = MQ below (xQ X xsh 603 (xval (xB X) G) (some (.int res))) args s 0 0 (fun q => xB X ≤ q) := ⟨_, rfl⟩
  rw [← hQ0]
  refine lv_iload_n hx hb dX6_isTicks_0 rfl (lv_at hl 0 rfl) ?_
  refine lv_iconst (v := 1) hx hb dX6_isTicks_1 (by decide) ?_
  refine lv_sipush (v := 200) hx hb dX6_isTicks_2 (by decide) ?_
  refine x_callS hx hb hml hown hts hK hW hl.1 (c_X6_within l X _ (v := v) (lo := 1) (hi := 200) (hres := rfl)) xw_182 xw_144 xw_2 xw_145 hdS_yX6_within ⟨Nat.le_of_ble_eq_true rfl, Nat.le_of_ble_eq_true rfl⟩ rfl (Nat.le_of_ble_eq_true rfl) ⟨Nat.le_refl _, Nat.le_refl _⟩ dX6_isTicks_5 (fun H locs hW => ?_)
  obtain rfl : Fin3 v 1 200 = res := by (rw [← hres]) <;> (skip)
  rw [hQ0]
  exact x_iret hx hb hret hlocks (xb_nar (Fin3_01 _ _ _)) hW rfl dX6_isTicks_8
set_option maxHeartbeats 4000000 in
set_option maxRecDepth 100000 in
theorem c_X4_forgetLastTick (l : Launch) (X : xX) (G : xG) {r : Nat} {f sg : Nat → Int32} {L O Y P Q : Nat → Nat → Int32} {n : Nat}  (hr : r < 11) (hn : f 4 = nI n) (hn16 : n ≤ 16) {L' : Nat → Nat → Int32} (ho0 : (LForget n L) = L') : XC l yX4_forgetLastTick cX4_forgetLastTick 2 none 1 20 0 0 X xsh [.ref (xB X + xkey r 0 0)] 603 603 (xval (xB X) (va_up G r (xSt f sg L O Y P Q))) (xval (xB X) (va_up G r (xSt f sg L' O Y P Q))) none := by
  refine XC.of RX4 "forgetLastTick" [(0, .ref (xB X + xkey r 0 0))] (by decide) rfl rfl (Nat.le_of_ble_eq_true rfl) rfl ?_
  intro p e s m args below meth c ls hx hb hret hml hts hown hlocks hnm hK hW hl
  have hW : XR X G r (xSt f sg L O Y P Q) s.heap [] := hW
  obtain ⟨Q0, hQ0⟩ : ∃ z, z = MQ below (xQ X xsh 603 (xval (xB X) (va_up G r (xSt f sg L' O Y P Q))) none) args s 0 0 (fun q => xB X ≤ q) := ⟨_, rfl⟩
  rw [← hQ0]
  refine lv_iconst (v := nI 0) hx hb dX4_forgetLastTick_0 (by decide) ?_
  refine lv_istore_n (lv' := [(1, .int (nI 0)), (0, .ref (xB X + xkey r 0 0))]) hx hb dX4_forgetLastTick_1 rfl hl (by decide) rfl (fun ls hl => ?_)
  have loop_2 : ∀ (k_2 i : Nat) (La : Nat → Nat → Int32), i + k_2 = n → xloop (fun i L => va_up L i (Fforget (L i))) k_2 i La = xloop (fun i L => va_up L i (Fforget (L i))) n 0 L → ∀ (H : Heap) (locs : List Loc) (ls : Array Slot), XR X G r (xSt f sg La O Y P Q) H locs → lv_has ls 2 [(0, .ref (xB X + xkey r 0 0)), (1, .int (nI i))] → W p l e { frames := 1, cells := 0, slots := 0, locals := 20 } s m args below meth c H locs 0 0 Q0 (F0 m 2 ls []) := by
    intro k_2
    induction k_2 with
    | zero =>
      intro i La hik_2  hsp_2 H locs ls hW hl
      refine lv_iload_n hx hb dX4_forgetLastTick_2 rfl (lv_at hl 1 rfl) ?_
      refine lv_aload_n hx hb dX4_forgetLastTick_3 rfl (lv_at hl 0 rfl) ?_
      refine r_get hx hb hts hown hK hW (C := RX4) (T := TX4) (xF_street r hr) inlX4 rfl (by decide) 4 (by decide) (xr_street r hr).2.2.2.2.1 xw_103 rfl (x := nI n) hn dX4_forgetLastTick_4 ?_
      refine lv_icmp_ge (tgt := 25) hx hb dX4_forgetLastTick_7 (by decide) (fun c_1 => ?_) (fun c_1 => absurd (xge_refl (by omega)) c_1)
      obtain rfl : La = L' := by (rw [← ho0]) <;> (simpa [LForget, Fforget, xloop, xfind, c_1] using hsp_2)
      rw [hQ0]
      exact x_vret hx hb hret hlocks hW rfl dX4_forgetLastTick_25
    | succ k_2 ih_2 =>
      intro i La hik_2  hsp_2 H locs ls hW hl
      refine lv_iload_n hx hb dX4_forgetLastTick_2 rfl (lv_at hl 1 rfl) ?_
      refine lv_aload_n hx hb dX4_forgetLastTick_3 rfl (lv_at hl 0 rfl) ?_
      refine r_get hx hb hts hown hK hW (C := RX4) (T := TX4) (xF_street r hr) inlX4 rfl (by decide) 4 (by decide) (xr_street r hr).2.2.2.2.1 xw_103 rfl (x := nI n) hn dX4_forgetLastTick_4 ?_
      refine lv_icmp_ge (tgt := 25) hx hb dX4_forgetLastTick_7 (by decide) (fun c_2 => absurd c_2 (nI_ge (by omega) (by omega))) (fun c_2 => ?_)
      refine lv_aload_n hx hb dX4_forgetLastTick_10 rfl (lv_at hl 0 rfl) ?_
      refine r_getr (C := RX4) (T := TX4) hx hb hts hown hK hW (xF_street r hr).1 (xF_street r hr).2.1 inlX4 rfl (by decide) 1 (by decide) (xr_street r hr).2.1 xw_36 rfl dX4_forgetLastTick_11 ?_
      refine lv_iload_n hx hb dX4_forgetLastTick_14 rfl (lv_at hl 1 rfl) ?_
      refine r_aald hx hb hK hW (xF_lamps r hr).1 (xF_lamps r hr).2 (by decide) 4 rfl i (by omega) (by decide) rfl (xr_lamps r hr i (by omega)) dX4_forgetLastTick_15 ?_
      have hW := XR.foc2 hW i
      refine x_callV hx hb hml hown hts hK hW hl.1 (c_X2_forgetTick l X G (r := r) (i := i) (hr := hr) (hi := (by omega)) ) (xF_lamp r hr i (by omega)).1 (xF_lamp r hr i (by omega)).2.1 (by decide) rfl xw_335 xw_336 xw_337 xw_46 xw_338 hdV_yX2_forgetTick ⟨Nat.le_of_ble_eq_true rfl, Nat.le_of_ble_eq_true rfl⟩ rfl (Nat.le_of_ble_eq_true rfl) ⟨Nat.le_refl _, Nat.le_refl _⟩ dX4_forgetLastTick_16 (fun H locs hW => ?_)
      have hW : XR X G r (xSt f sg (va_up La i (va_up (va_up (La i) 11 0) 12 0)) O Y P Q) H locs := hW
      refine lv_iinc (v := nI (i + 1)) (lv' := [(1, .int (nI (i + 1))), (0, .ref (xB X + xkey r 0 0))]) hx hb dX4_forgetLastTick_19 hl (k := 1) rfl (nI_1 i) (by decide) rfl (fun ls hl => ?_)
      refine lv_goto (tgt := 2) hx hb dX4_forgetLastTick_22 (by decide) ?_
      refine ih_2 (i + 1) (va_up La i (va_up (va_up (La i) 11 0) 12 0)) (by omega)  ?_ H locs ls hW (lv_sub hl [1, 0] rfl)
      rw [← hsp_2]; simp [xloop, xfind, LForget, Fforget, Fforget, c_2]
  exact loop_2 n 0 L (by omega)  rfl _ _ _ hW (lv_sub hl [1, 0] rfl)
set_option maxHeartbeats 4000000 in
set_option maxRecDepth 100000 in
theorem c_X4_hasLamp (l : Launch) (X : xX) (G : xG) {r : Nat} {f sg : Nat → Int32} {L O Y P Q : Nat → Nat → Int32} {n : Nat} {x : Int32} (hr : r < 11) (hn : f 4 = nI n) (hn16 : n ≤ 16) {res : Int32} (hres : (Fhas n x) = res) : XC l yX4_hasLamp cX4_hasLamp 2 (some .boolean) 0 0 0 0 X xsh [.ref (xB X + xkey r 0 0), .int x] 603 603 (xval (xB X) (va_up G r (xSt f sg L O Y P Q))) (xval (xB X) (va_up G r (xSt f sg L O Y P Q))) (some (.int res)) := by
  refine XC.of RX4 "hasLamp" [(0, .ref (xB X + xkey r 0 0)), (1, .int x)] (by decide) rfl rfl (Nat.le_of_ble_eq_true rfl) rfl ?_
  intro p e s m args below meth c ls hx hb hret hml hts hown hlocks hnm hK hW hl
  have hW : XR X G r (xSt f sg L O Y P Q) s.heap [] := hW
  obtain ⟨Q0, hQ0⟩ : ∃ z, z = MQ below (xQ X xsh 603 (xval (xB X) (va_up G r (xSt f sg L O Y P Q))) (some (.int res))) args s 0 0 (fun q => xB X ≤ q) := ⟨_, rfl⟩
  rw [← hQ0]
  refine lv_iload_n hx hb dX4_hasLamp_0 rfl (lv_at hl 1 rfl) ?_
  refine lv_if_lt (tgt := 16) hx hb dX4_hasLamp_1 (by decide) (fun c_1 => ?_) (fun c_1 => ?_)
  · skip
    refine lv_iconst (v := 0) hx hb dX4_hasLamp_16 (by decide) ?_
    obtain rfl : 0 = res := by (rw [← hres]) <;> (simp [Fhas, c_1, Int32.not_le.mpr c_1])
    rw [hQ0]
    exact x_iret hx hb hret hlocks rfl hW rfl dX4_hasLamp_17
  · skip
    refine lv_iload_n hx hb dX4_hasLamp_4 rfl (lv_at hl 1 rfl) ?_
    refine lv_aload_n hx hb dX4_hasLamp_5 rfl (lv_at hl 0 rfl) ?_
    refine r_get hx hb hts hown hK hW (C := RX4) (T := TX4) (xF_street r hr) inlX4 rfl (by decide) 4 (by decide) (xr_street r hr).2.2.2.2.1 xw_103 rfl (x := nI n) hn dX4_hasLamp_6 ?_
    refine lv_icmp_ge (tgt := 16) hx hb dX4_hasLamp_9 (by decide) (fun c_2 => ?_) (fun c_2 => ?_)
    · skip
      refine lv_iconst (v := 0) hx hb dX4_hasLamp_16 (by decide) ?_
      obtain rfl : 0 = res := by (rw [← hres]) <;> (simp [Fhas, c_1, Int32.not_lt.mp c_1, c_2, Int32.not_lt.mpr c_2])
      rw [hQ0]
      exact x_iret hx hb hret hlocks rfl hW rfl dX4_hasLamp_17
    · skip
      refine lv_iconst (v := 1) hx hb dX4_hasLamp_12 (by decide) ?_
      refine lv_goto (tgt := 17) hx hb dX4_hasLamp_13 (by decide) ?_
      obtain rfl : 1 = res := by (rw [← hres]) <;> (simp [Fhas, c_1, Int32.not_lt.mp c_1, c_2, Int32.not_le.mp c_2])
      rw [hQ0]
      exact x_iret hx hb hret hlocks rfl hW rfl dX4_hasLamp_17
set_option maxHeartbeats 4000000 in
set_option maxRecDepth 100000 in
theorem c_X4_hasHouse (l : Launch) (X : xX) (G : xG) {r : Nat} {f sg : Nat → Int32} {L O Y P Q : Nat → Nat → Int32} {nh : Nat} {x : Int32} (hr : r < 11) (hh : f 5 = nI nh) (hh8 : nh ≤ 8) {res : Int32} (hres : (Fhas nh x) = res) : XC l yX4_hasHouse cX4_hasHouse 2 (some .boolean) 0 0 0 0 X xsh [.ref (xB X + xkey r 0 0), .int x] 603 603 (xval (xB X) (va_up G r (xSt f sg L O Y P Q))) (xval (xB X) (va_up G r (xSt f sg L O Y P Q))) (some (.int res)) := by
  refine XC.of RX4 "hasHouse" [(0, .ref (xB X + xkey r 0 0)), (1, .int x)] (by decide) rfl rfl (Nat.le_of_ble_eq_true rfl) rfl ?_
  intro p e s m args below meth c ls hx hb hret hml hts hown hlocks hnm hK hW hl
  have hW : XR X G r (xSt f sg L O Y P Q) s.heap [] := hW
  obtain ⟨Q0, hQ0⟩ : ∃ z, z = MQ below (xQ X xsh 603 (xval (xB X) (va_up G r (xSt f sg L O Y P Q))) (some (.int res))) args s 0 0 (fun q => xB X ≤ q) := ⟨_, rfl⟩
  rw [← hQ0]
  refine lv_iload_n hx hb dX4_hasHouse_0 rfl (lv_at hl 1 rfl) ?_
  refine lv_if_lt (tgt := 16) hx hb dX4_hasHouse_1 (by decide) (fun c_1 => ?_) (fun c_1 => ?_)
  · skip
    refine lv_iconst (v := 0) hx hb dX4_hasHouse_16 (by decide) ?_
    obtain rfl : 0 = res := by (rw [← hres]) <;> (simp [Fhas, c_1, Int32.not_le.mpr c_1])
    rw [hQ0]
    exact x_iret hx hb hret hlocks rfl hW rfl dX4_hasHouse_17
  · skip
    refine lv_iload_n hx hb dX4_hasHouse_4 rfl (lv_at hl 1 rfl) ?_
    refine lv_aload_n hx hb dX4_hasHouse_5 rfl (lv_at hl 0 rfl) ?_
    refine r_get hx hb hts hown hK hW (C := RX4) (T := TX4) (xF_street r hr) inlX4 rfl (by decide) 5 (by decide) (xr_street r hr).2.2.2.2.2.1 xw_104 rfl (x := nI nh) hh dX4_hasHouse_6 ?_
    refine lv_icmp_ge (tgt := 16) hx hb dX4_hasHouse_9 (by decide) (fun c_2 => ?_) (fun c_2 => ?_)
    · skip
      refine lv_iconst (v := 0) hx hb dX4_hasHouse_16 (by decide) ?_
      obtain rfl : 0 = res := by (rw [← hres]) <;> (simp [Fhas, c_1, Int32.not_lt.mp c_1, c_2, Int32.not_lt.mpr c_2])
      rw [hQ0]
      exact x_iret hx hb hret hlocks rfl hW rfl dX4_hasHouse_17
    · skip
      refine lv_iconst (v := 1) hx hb dX4_hasHouse_12 (by decide) ?_
      refine lv_goto (tgt := 17) hx hb dX4_hasHouse_13 (by decide) ?_
      obtain rfl : 1 = res := by (rw [← hres]) <;> (simp [Fhas, c_1, Int32.not_lt.mp c_1, c_2, Int32.not_le.mp c_2])
      rw [hQ0]
      exact x_iret hx hb hret hlocks rfl hW rfl dX4_hasHouse_17
set_option maxHeartbeats 4000000 in
set_option maxRecDepth 100000 in
theorem c_X4_hasWalker (l : Launch) (X : xX) (G : xG) {r : Nat} {f sg : Nat → Int32} {L O Y P Q : Nat → Nat → Int32} {nw : Nat} {x : Int32} (hr : r < 11) (hw : f 6 = nI nw) (hw8 : nw ≤ 8) {res : Int32} (hres : (Fhas nw x) = res) : XC l yX4_hasWalker cX4_hasWalker 2 (some .boolean) 0 0 0 0 X xsh [.ref (xB X + xkey r 0 0), .int x] 603 603 (xval (xB X) (va_up G r (xSt f sg L O Y P Q))) (xval (xB X) (va_up G r (xSt f sg L O Y P Q))) (some (.int res)) := by
  refine XC.of RX4 "hasWalker" [(0, .ref (xB X + xkey r 0 0)), (1, .int x)] (by decide) rfl rfl (Nat.le_of_ble_eq_true rfl) rfl ?_
  intro p e s m args below meth c ls hx hb hret hml hts hown hlocks hnm hK hW hl
  have hW : XR X G r (xSt f sg L O Y P Q) s.heap [] := hW
  obtain ⟨Q0, hQ0⟩ : ∃ z, z = MQ below (xQ X xsh 603 (xval (xB X) (va_up G r (xSt f sg L O Y P Q))) (some (.int res))) args s 0 0 (fun q => xB X ≤ q) := ⟨_, rfl⟩
  rw [← hQ0]
  refine lv_iload_n hx hb dX4_hasWalker_0 rfl (lv_at hl 1 rfl) ?_
  refine lv_if_lt (tgt := 16) hx hb dX4_hasWalker_1 (by decide) (fun c_1 => ?_) (fun c_1 => ?_)
  · skip
    refine lv_iconst (v := 0) hx hb dX4_hasWalker_16 (by decide) ?_
    obtain rfl : 0 = res := by (rw [← hres]) <;> (simp [Fhas, c_1, Int32.not_le.mpr c_1])
    rw [hQ0]
    exact x_iret hx hb hret hlocks rfl hW rfl dX4_hasWalker_17
  · skip
    refine lv_iload_n hx hb dX4_hasWalker_4 rfl (lv_at hl 1 rfl) ?_
    refine lv_aload_n hx hb dX4_hasWalker_5 rfl (lv_at hl 0 rfl) ?_
    refine r_get hx hb hts hown hK hW (C := RX4) (T := TX4) (xF_street r hr) inlX4 rfl (by decide) 6 (by decide) (xr_street r hr).2.2.2.2.2.2.1 xw_105 rfl (x := nI nw) hw dX4_hasWalker_6 ?_
    refine lv_icmp_ge (tgt := 16) hx hb dX4_hasWalker_9 (by decide) (fun c_2 => ?_) (fun c_2 => ?_)
    · skip
      refine lv_iconst (v := 0) hx hb dX4_hasWalker_16 (by decide) ?_
      obtain rfl : 0 = res := by (rw [← hres]) <;> (simp [Fhas, c_1, Int32.not_lt.mp c_1, c_2, Int32.not_lt.mpr c_2])
      rw [hQ0]
      exact x_iret hx hb hret hlocks rfl hW rfl dX4_hasWalker_17
    · skip
      refine lv_iconst (v := 1) hx hb dX4_hasWalker_12 (by decide) ?_
      refine lv_goto (tgt := 17) hx hb dX4_hasWalker_13 (by decide) ?_
      obtain rfl : 1 = res := by (rw [← hres]) <;> (simp [Fhas, c_1, Int32.not_lt.mp c_1, c_2, Int32.not_le.mp c_2])
      rw [hQ0]
      exact x_iret hx hb hret hlocks rfl hW rfl dX4_hasWalker_17
set_option maxHeartbeats 4000000 in
set_option maxRecDepth 100000 in
theorem c_X4_hears (l : Launch) (X : xX) (G : xG) {r : Nat} {f sg : Nat → Int32} {L O Y P Q : Nat → Nat → Int32} {a b : Nat} (hr : r < 11) (ha : a < 16) (hb2 : b < 16) {res : Int32} (hres : (Fhears (sg 1) L a b) = res) : XC l yX4_hears cX4_hears 3 (some .boolean) 2 42 0 0 X xsh [.ref (xB X + xkey r 0 0), .int (nI a), .int (nI b)] 603 603 (xval (xB X) (va_up G r (xSt f sg L O Y P Q))) (xval (xB X) (va_up G r (xSt f sg L O Y P Q))) (some (.int res)) := by
  refine XC.of RX4 "hears" [(0, .ref (xB X + xkey r 0 0)), (1, .int (nI a)), (2, .int (nI b))] (by decide) rfl rfl (Nat.le_of_ble_eq_true rfl) rfl ?_
  intro p e s m args below meth c ls hx hb hret hml hts hown hlocks hnm hK hW hl
  have hW : XR X G r (xSt f sg L O Y P Q) s.heap [] := hW
  obtain ⟨Q0, hQ0⟩ : ∃ z, z = MQ below (xQ X xsh 603 (xval (xB X) (va_up G r (xSt f sg L O Y P Q))) (some (.int res))) args s 0 0 (fun q => xB X ≤ q) := ⟨_, rfl⟩
  rw [← hQ0]
  refine lv_iload_n hx hb dX4_hears_0 rfl (lv_at hl 1 rfl) ?_
  refine lv_iload_n hx hb dX4_hears_1 rfl (lv_at hl 2 rfl) ?_
  refine lv_icmp_eq (tgt := 49) hx hb dX4_hears_2 (by decide) (fun c_1 => ?_) (fun c_1 => ?_)
  · skip
    refine lv_iconst (v := 0) hx hb dX4_hears_49 (by decide) ?_
    obtain rfl : 0 = res := by (rw [← hres]) <;> (simp [Fhears, c_1])
    rw [hQ0]
    exact x_iret hx hb hret hlocks rfl hW rfl dX4_hears_50
  · skip
    refine lv_aload_n hx hb dX4_hears_5 rfl (lv_at hl 0 rfl) ?_
    refine r_getr (C := RX4) (T := TX4) hx hb hts hown hK hW (xF_street r hr).1 (xF_street r hr).2.1 inlX4 rfl (by decide) 1 (by decide) (xr_street r hr).2.1 xw_36 rfl dX4_hears_6 ?_
    refine lv_iload_n hx hb dX4_hears_9 rfl (lv_at hl 1 rfl) ?_
    refine r_aald hx hb hK hW (xF_lamps r hr).1 (xF_lamps r hr).2 (by decide) 4 rfl a ha (by decide) rfl (xr_lamps r hr a ha) dX4_hears_10 ?_
    refine r_get hx hb hts hown hK hW (C := RX2) (T := TX2) (xF_lamp r hr a ha) inlX2 rfl (by decide) 3 (by decide) (xr_lamp r hr a ha 3 (by decide)) xw_294 rfl (x := L a 3) rfl dX4_hears_11 ?_
    refine lv_iconst (v := 2) hx hb dX4_hears_14 (by decide) ?_
    refine lv_icmp_eq (tgt := 49) hx hb dX4_hears_15 (by decide) (fun c_2 => ?_) (fun c_2 => ?_)
    · skip
      refine lv_iconst (v := 0) hx hb dX4_hears_49 (by decide) ?_
      obtain rfl : 0 = res := by (rw [← hres]) <;> (simp [Fhears, c_1, c_2])
      rw [hQ0]
      exact x_iret hx hb hret hlocks rfl hW rfl dX4_hears_50
    · skip
      refine lv_aload_n hx hb dX4_hears_18 rfl (lv_at hl 0 rfl) ?_
      refine r_getr (C := RX4) (T := TX4) hx hb hts hown hK hW (xF_street r hr).1 (xF_street r hr).2.1 inlX4 rfl (by decide) 1 (by decide) (xr_street r hr).2.1 xw_36 rfl dX4_hears_19 ?_
      refine lv_iload_n hx hb dX4_hears_22 rfl (lv_at hl 1 rfl) ?_
      refine r_aald hx hb hK hW (xF_lamps r hr).1 (xF_lamps r hr).2 (by decide) 4 rfl a ha (by decide) rfl (xr_lamps r hr a ha) dX4_hears_23 ?_
      refine lv_aload_n hx hb dX4_hears_24 rfl (lv_at hl 0 rfl) ?_
      refine r_getr (C := RX4) (T := TX4) hx hb hts hown hK hW (xF_street r hr).1 (xF_street r hr).2.1 inlX4 rfl (by decide) 1 (by decide) (xr_street r hr).2.1 xw_36 rfl dX4_hears_25 ?_
      refine lv_iload_n hx hb dX4_hears_28 rfl (lv_at hl 2 rfl) ?_
      refine r_aald hx hb hK hW (xF_lamps r hr).1 (xF_lamps r hr).2 (by decide) 4 rfl b hb2 (by decide) rfl (xr_lamps r hr b hb2) dX4_hears_29 ?_
      refine r_get hx hb hts hown hK hW (C := RX2) (T := TX2) (xF_lamp r hr b hb2) inlX2 rfl (by decide) 0 (by decide) (xr_lamp r hr b hb2 0 (by decide)) xw_179 rfl (x := L b 0) rfl dX4_hears_30 ?_
      have hW := XR.foc2 hW a
      refine x_callV hx hb hml hown hts hK hW hl.1 (c_X2_distanceTo l X G (r := r) (i := a) (x := L b 0) (hr := hr) (hi := ha) (hres := rfl)) (xF_lamp r hr a ha).1 (xF_lamp r hr a ha).2.1 (by decide) rfl xw_350 xw_351 xw_352 xw_46 xw_353 hdV_yX2_distanceTo ⟨Nat.le_of_ble_eq_true rfl, Nat.le_of_ble_eq_true rfl⟩ rfl (Nat.le_of_ble_eq_true rfl) ⟨Nat.le_refl _, Nat.le_refl _⟩ dX4_hears_33 (fun H locs hW => ?_)
      have hW : XR X G r (xSt f sg L O Y P Q) H locs := XR.unf2 hW
      refine lv_aload_n hx hb dX4_hears_36 rfl (lv_at hl 0 rfl) ?_
      refine r_getr (C := RX4) (T := TX4) hx hb hts hown hK hW (xF_street r hr).1 (xF_street r hr).2.1 inlX4 rfl (by decide) 0 (by decide) (xr_street r hr).1 xw_34 rfl dX4_hears_37 ?_
      refine lv_iconst (v := 1) hx hb dX4_hears_40 (by decide) ?_
      refine r_iald hx hb hK hW (N := 6) (xF_sett r hr) 1 (by decide) (by decide) (by decide) (xr_sett r hr 1 (by decide)) (x := sg 1) rfl dX4_hears_41 ?_
      refine lv_icmp_gt (tgt := 49) hx hb dX4_hears_42 (by decide) (fun c_3 => ?_) (fun c_3 => ?_)
      · skip
        refine lv_iconst (v := 0) hx hb dX4_hears_49 (by decide) ?_
        obtain rfl : 0 = res := by (rw [← hres]) <;> (simp [Fhears, c_1, c_2, c_3, Int32.not_le.mpr c_3])
        rw [hQ0]
        exact x_iret hx hb hret hlocks rfl hW rfl dX4_hears_50
      · skip
        refine lv_iconst (v := 1) hx hb dX4_hears_45 (by decide) ?_
        refine lv_goto (tgt := 50) hx hb dX4_hears_46 (by decide) ?_
        obtain rfl : 1 = res := by (rw [← hres]) <;> (simp [Fhears, c_1, c_2, c_3, Int32.not_lt.mp c_3])
        rw [hQ0]
        exact x_iret hx hb hret hlocks rfl hW rfl dX4_hears_50
set_option maxHeartbeats 4000000 in
set_option maxRecDepth 100000 in
theorem c_X4_spreadCough (l : Launch) (X : xX) (G : xG) {r : Nat} {f sg : Nat → Int32} {L O Y P Q : Nat → Nat → Int32} {n : Nat} {a : Nat} {rk : Int32} (hr : r < 11) (hn : f 4 = nI n) (hn16 : n ≤ 16) (ha : a < 16) {L' : Nat → Nat → Int32} (ho0 : ((Fspread n sg a rk L).1) = L') {res : Int32} (hres : ((Fspread n sg a rk L).2) = res) : XC l yX4_spreadCough cX4_spreadCough 5 (some .int) 3 64 0 0 X xsh [.ref (xB X + xkey r 0 0), .int (nI a), .int rk] 603 603 (xval (xB X) (va_up G r (xSt f sg L O Y P Q))) (xval (xB X) (va_up G r (xSt f sg L' O Y P Q))) (some (.int res)) := by
  refine XC.of RX4 "spreadCough" [(0, .ref (xB X + xkey r 0 0)), (1, .int (nI a)), (2, .int rk)] (by decide) rfl rfl (Nat.le_of_ble_eq_true rfl) rfl ?_
  intro p e s m args below meth c ls hx hb hret hml hts hown hlocks hnm hK hW hl
  have hW : XR X G r (xSt f sg L O Y P Q) s.heap [] := hW
  obtain ⟨Q0, hQ0⟩ : ∃ z, z = MQ below (xQ X xsh 603 (xval (xB X) (va_up G r (xSt f sg L' O Y P Q))) (some (.int res))) args s 0 0 (fun q => xB X ≤ q) := ⟨_, rfl⟩
  rw [← hQ0]
  refine lv_aload_n hx hb dX4_spreadCough_0 rfl (lv_at hl 0 rfl) ?_
  refine r_getr (C := RX4) (T := TX4) hx hb hts hown hK hW (xF_street r hr).1 (xF_street r hr).2.1 inlX4 rfl (by decide) 1 (by decide) (xr_street r hr).2.1 xw_36 rfl dX4_spreadCough_1 ?_
  refine lv_iload_n hx hb dX4_spreadCough_4 rfl (lv_at hl 1 rfl) ?_
  refine r_aald hx hb hK hW (xF_lamps r hr).1 (xF_lamps r hr).2 (by decide) 4 rfl a ha (by decide) rfl (xr_lamps r hr a ha) dX4_spreadCough_5 ?_
  refine lv_dup hx hb dX4_spreadCough_6 rfl ?_
  refine r_get hx hb hts hown hK hW (C := RX2) (T := TX2) (xF_lamp r hr a ha) inlX2 rfl (by decide) 8 (by decide) (xr_lamp r hr a ha 8 (by decide)) xw_345 rfl (x := L a 8) rfl dX4_spreadCough_7 ?_
  refine lv_iconst (v := 1) hx hb dX4_spreadCough_10 (by decide) ?_
  refine lv_iadd hx hb dX4_spreadCough_11 ?_
  have hW := XR.foc2 hW a
  refine r_put hx hb hts hown hK hW (C := RX2) (T := TX2) (xF_lamp r hr a ha) inlX2 tyX2 tyX2_ok nmX2 rfl (by decide) 8 (by decide) (xr_lamp r hr a ha 8 (by decide)) xw_345 rfl rfl rfl rfl xSt2f dX4_spreadCough_12 (fun H locs hW => ?_)
  refine lv_iconst (v := 0) hx hb dX4_spreadCough_15 (by decide) ?_
  refine lv_istore_n (lv' := [(3, .int 0), (0, .ref (xB X + xkey r 0 0)), (1, .int (nI a)), (2, .int rk)]) hx hb dX4_spreadCough_16 rfl hl (by decide) rfl (fun ls hl => ?_)
  refine lv_iconst (v := nI 0) hx hb dX4_spreadCough_17 (by decide) ?_
  refine lv_istore (lv' := [(4, .int (nI 0)), (3, .int 0), (0, .ref (xB X + xkey r 0 0)), (1, .int (nI a)), (2, .int rk)]) hx hb dX4_spreadCough_18 hl (by decide) rfl (fun ls hl => ?_)
  have loop_20 : ∀ (k_20 i : Nat) (La : Nat → Nat → Int32) (ca : Int32), i + k_20 = n → xloop (fun i (q : (Nat → Nat → Int32) × Int32) => if Fhears (sg 1) q.1 i a = 0 then q else (va_up q.1 i (Fhear rk sg (q.1 i)), q.2 + 1)) k_20 i (La, ca) = xloop (fun i (q : (Nat → Nat → Int32) × Int32) => if Fhears (sg 1) q.1 i a = 0 then q else (va_up q.1 i (Fhear rk sg (q.1 i)), q.2 + 1)) n 0 ((va_up L a (va_up (L a) 8 ((L a 8) + 1))), 0) → ∀ (H : Heap) (locs : List Loc) (ls : Array Slot), XR X G r (xSt f sg La O Y P Q) H locs → lv_has ls 5 [(0, .ref (xB X + xkey r 0 0)), (1, .int (nI a)), (2, .int rk), (3, .int ca), (4, .int (nI i))] → W p l e { frames := 3, cells := 0, slots := 0, locals := 64 } s m args below meth c H locs 0 0 Q0 (F0 m 20 ls []) := by
    intro k_20
    induction k_20 with
    | zero =>
      intro i La ca hik_20  hsp_20 H locs ls hW hl
      refine lv_iload hx hb dX4_spreadCough_20 (lv_at hl 4 rfl) ?_
      refine lv_aload_n hx hb dX4_spreadCough_22 rfl (lv_at hl 0 rfl) ?_
      refine r_get hx hb hts hown hK hW (C := RX4) (T := TX4) (xF_street r hr) inlX4 rfl (by decide) 4 (by decide) (xr_street r hr).2.2.2.2.1 xw_103 rfl (x := nI n) hn dX4_spreadCough_23 ?_
      refine lv_icmp_ge (tgt := 63) hx hb dX4_spreadCough_26 (by decide) (fun c_1 => ?_) (fun c_1 => absurd (xge_refl (by omega)) c_1)
      refine lv_iload_n hx hb dX4_spreadCough_63 rfl (lv_at hl 3 rfl) ?_
      obtain rfl : La = L' := by (rw [← ho0]) <;> (first | exact congrArg Prod.fst hsp_20 | exact congrArg Prod.snd hsp_20)
      obtain rfl : ca = res := by (rw [← hres]) <;> (first | exact congrArg Prod.fst hsp_20 | exact congrArg Prod.snd hsp_20)
      rw [hQ0]
      exact x_iret hx hb hret hlocks rfl hW rfl dX4_spreadCough_64
    | succ k_20 ih_20 =>
      intro i La ca hik_20  hsp_20 H locs ls hW hl
      refine lv_iload hx hb dX4_spreadCough_20 (lv_at hl 4 rfl) ?_
      refine lv_aload_n hx hb dX4_spreadCough_22 rfl (lv_at hl 0 rfl) ?_
      refine r_get hx hb hts hown hK hW (C := RX4) (T := TX4) (xF_street r hr) inlX4 rfl (by decide) 4 (by decide) (xr_street r hr).2.2.2.2.1 xw_103 rfl (x := nI n) hn dX4_spreadCough_23 ?_
      refine lv_icmp_ge (tgt := 63) hx hb dX4_spreadCough_26 (by decide) (fun c_2 => absurd c_2 (nI_ge (by omega) (by omega))) (fun c_2 => ?_)
      refine lv_aload_n hx hb dX4_spreadCough_29 rfl (lv_at hl 0 rfl) ?_
      refine lv_iload hx hb dX4_spreadCough_30 (lv_at hl 4 rfl) ?_
      refine lv_iload_n hx hb dX4_spreadCough_32 rfl (lv_at hl 1 rfl) ?_
      refine x_callV hx hb hml hown hts hK hW hl.1 (c_X4_hears l X G (r := r) (a := i) (b := a) (hr := hr) (ha := (by omega)) (hb2 := ha) (hres := rfl)) (xF_street r hr).1 (xF_street r hr).2.1 (by decide) rfl xw_346 xw_347 xw_348 xw_15 xw_349 hdV_yX4_hears ⟨Nat.le_of_ble_eq_true rfl, Nat.le_of_ble_eq_true rfl⟩ rfl (Nat.le_of_ble_eq_true rfl) ⟨Nat.le_refl _, Nat.le_refl _⟩ dX4_spreadCough_33 (fun H locs hW => ?_)
      refine lv_if_eq (tgt := 57) hx hb dX4_spreadCough_36 (by decide) (fun c_3 => ?_) (fun c_3 => ?_)
      · skip
        refine lv_iinc (v := nI (i + 1)) (lv' := [(4, .int (nI (i + 1))), (0, .ref (xB X + xkey r 0 0)), (1, .int (nI a)), (2, .int rk), (3, .int ca)]) hx hb dX4_spreadCough_57 hl (k := 4) rfl (nI_1 i) (by decide) rfl (fun ls hl => ?_)
        refine lv_goto (tgt := 20) hx hb dX4_spreadCough_60 (by decide) ?_
        refine ih_20 (i + 1) La ca (by omega)  ?_ H locs ls hW (lv_sub hl [1, 2, 3, 4, 0] rfl)
        rw [← hsp_20]; simp [xloop, xfind, xloop, c_2, c_3]
      · skip
        refine lv_aload_n hx hb dX4_spreadCough_39 rfl (lv_at hl 0 rfl) ?_
        refine r_getr (C := RX4) (T := TX4) hx hb hts hown hK hW (xF_street r hr).1 (xF_street r hr).2.1 inlX4 rfl (by decide) 1 (by decide) (xr_street r hr).2.1 xw_36 rfl dX4_spreadCough_40 ?_
        refine lv_iload hx hb dX4_spreadCough_43 (lv_at hl 4 rfl) ?_
        refine r_aald hx hb hK hW (xF_lamps r hr).1 (xF_lamps r hr).2 (by decide) 4 rfl i (by omega) (by decide) rfl (xr_lamps r hr i (by omega)) dX4_spreadCough_45 ?_
        refine lv_iload_n hx hb dX4_spreadCough_46 rfl (lv_at hl 2 rfl) ?_
        refine lv_aload_n hx hb dX4_spreadCough_47 rfl (lv_at hl 0 rfl) ?_
        refine r_getr (C := RX4) (T := TX4) hx hb hts hown hK hW (xF_street r hr).1 (xF_street r hr).2.1 inlX4 rfl (by decide) 0 (by decide) (xr_street r hr).1 xw_34 rfl dX4_spreadCough_48 ?_
        have hW := XR.foc2 hW i
        refine x_callV hx hb hml hown hts hK hW hl.1 (c_X2_hear l X G (r := r) (i := i) (rk := rk) (hr := hr) (hi := (by omega)) (ho0 := rfl)) (xF_lamp r hr i (by omega)).1 (xF_lamp r hr i (by omega)).2.1 (by decide) rfl xw_357 xw_358 xw_359 xw_46 xw_360 hdV_yX2_hear ⟨Nat.le_of_ble_eq_true rfl, Nat.le_of_ble_eq_true rfl⟩ rfl (Nat.le_of_ble_eq_true rfl) ⟨Nat.le_refl _, Nat.le_refl _⟩ dX4_spreadCough_51 (fun H locs hW => ?_)
        have hW : XR X G r (xSt f sg (va_up La i (Fhear rk sg (La i))) O Y P Q) H locs := hW
        refine lv_iinc (v := ca + 1) (lv' := [(3, .int (ca + 1)), (0, .ref (xB X + xkey r 0 0)), (1, .int (nI a)), (2, .int rk), (4, .int (nI i))]) hx hb dX4_spreadCough_54 hl (k := 3) rfl rfl (by decide) rfl (fun ls hl => ?_)
        refine lv_iinc (v := nI (i + 1)) (lv' := [(4, .int (nI (i + 1))), (3, .int (ca + 1)), (0, .ref (xB X + xkey r 0 0)), (1, .int (nI a)), (2, .int rk)]) hx hb dX4_spreadCough_57 hl (k := 4) rfl (nI_1 i) (by decide) rfl (fun ls hl => ?_)
        refine lv_goto (tgt := 20) hx hb dX4_spreadCough_60 (by decide) ?_
        refine ih_20 (i + 1) (va_up La i (Fhear rk sg (La i))) (ca + 1) (by omega)  ?_ H locs ls hW (lv_sub hl [2, 3, 4, 1, 0] rfl)
        rw [← hsp_20]; simp [xloop, xfind, xloop, c_2, c_3]
  exact loop_20 n 0 (va_up L a (va_up (L a) 8 ((L a 8) + 1))) 0 (by omega)  rfl _ _ _ hW (lv_sub hl [2, 3, 4, 1, 0] rfl)
set_option maxHeartbeats 4000000 in
set_option maxRecDepth 100000 in
theorem c_X4_coughThoseWhoWaited (l : Launch) (X : xX) (G : xG) {r : Nat} {f sg : Nat → Int32} {L O Y P Q : Nat → Nat → Int32} {n : Nat}  (hr : r < 11) (hn : f 4 = nI n) (hn16 : n ≤ 16) {L' : Nat → Nat → Int32} (ho0 : (LWaited n sg L) = L') : XC l yX4_coughThoseWhoWaited cX4_coughThoseWhoWaited 4 none 4 88 0 0 X xsh [.ref (xB X + xkey r 0 0)] 603 603 (xval (xB X) (va_up G r (xSt f sg L O Y P Q))) (xval (xB X) (va_up G r (xSt f sg L' O Y P Q))) none := by
  refine XC.of RX4 "coughThoseWhoWaited" [(0, .ref (xB X + xkey r 0 0))] (by decide) rfl rfl (Nat.le_of_ble_eq_true rfl) rfl ?_
  intro p e s m args below meth c ls hx hb hret hml hts hown hlocks hnm hK hW hl
  have hW : XR X G r (xSt f sg L O Y P Q) s.heap [] := hW
  obtain ⟨Q0, hQ0⟩ : ∃ z, z = MQ below (xQ X xsh 603 (xval (xB X) (va_up G r (xSt f sg L' O Y P Q))) none) args s 0 0 (fun q => xB X ≤ q) := ⟨_, rfl⟩
  rw [← hQ0]
  refine lv_iconst (v := 0) hx hb dX4_coughThoseWhoWaited_0 (by decide) ?_
  refine lv_istore_n (lv' := [(1, .int 0), (0, .ref (xB X + xkey r 0 0))]) hx hb dX4_coughThoseWhoWaited_1 rfl hl (by decide) rfl (fun ls hl => ?_)
  refine lv_iconst (v := nI 0) hx hb dX4_coughThoseWhoWaited_2 (by decide) ?_
  refine lv_istore_n (lv' := [(2, .int (nI 0)), (1, .int 0), (0, .ref (xB X + xkey r 0 0))]) hx hb dX4_coughThoseWhoWaited_3 rfl hl (by decide) rfl (fun ls hl => ?_)
  have loop_4 : ∀ (k_4 i : Nat) (La : Nat → Nat → Int32) (da : Int32), i + k_4 = n → xloop (fun i (q : (Nat → Nat → Int32) × Int32) => if q.1 i 5 = -6 then q else if q.1 i 5 - 1 ≤ 0 then (va_up q.1 i (va_up (va_up (va_up (q.1 i) 5 (q.1 i 5 - 1)) 5 (-6)) 12 1), q.2 ||| xbit i) else (va_up q.1 i (va_up (q.1 i) 5 (q.1 i 5 - 1)), q.2)) k_4 i (La, da) = xloop (fun i (q : (Nat → Nat → Int32) × Int32) => if q.1 i 5 = -6 then q else if q.1 i 5 - 1 ≤ 0 then (va_up q.1 i (va_up (va_up (va_up (q.1 i) 5 (q.1 i 5 - 1)) 5 (-6)) 12 1), q.2 ||| xbit i) else (va_up q.1 i (va_up (q.1 i) 5 (q.1 i 5 - 1)), q.2)) n 0 (L, 0) → ∀ (H : Heap) (locs : List Loc) (ls : Array Slot), XR X G r (xSt f sg La O Y P Q) H locs → lv_has ls 4 [(0, .ref (xB X + xkey r 0 0)), (1, .int da), (2, .int (nI i))] → W p l e { frames := 4, cells := 0, slots := 0, locals := 88 } s m args below meth c H locs 0 0 Q0 (F0 m 4 ls []) := by
    intro k_4
    induction k_4 with
    | zero =>
      intro i La da hik_4  hsp_4 H locs ls hW hl
      refine lv_iload_n hx hb dX4_coughThoseWhoWaited_4 rfl (lv_at hl 2 rfl) ?_
      refine lv_aload_n hx hb dX4_coughThoseWhoWaited_5 rfl (lv_at hl 0 rfl) ?_
      refine r_get hx hb hts hown hK hW (C := RX4) (T := TX4) (xF_street r hr) inlX4 rfl (by decide) 4 (by decide) (xr_street r hr).2.2.2.2.1 xw_103 rfl (x := nI n) hn dX4_coughThoseWhoWaited_6 ?_
      refine lv_icmp_ge (tgt := 64) hx hb dX4_coughThoseWhoWaited_9 (by decide) (fun c_1 => ?_) (fun c_1 => absurd (xge_refl (by omega)) c_1)
      refine lv_iconst (v := nI 0) hx hb dX4_coughThoseWhoWaited_64 (by decide) ?_
      refine lv_istore_n (lv' := [(2, .int (nI 0)), (0, .ref (xB X + xkey r 0 0)), (1, .int da)]) hx hb dX4_coughThoseWhoWaited_65 rfl hl (by decide) rfl (fun ls hl => ?_)
      have loop_66 : ∀ (k_66 j : Nat) (Lb : Nat → Nat → Int32), j + k_66 = n → xloop (fun i (M : Nat → Nat → Int32) => if Fdue da i = 1 then (Fspread n sg i (M i 6) M).1 else M) k_66 j Lb = xloop (fun i (M : Nat → Nat → Int32) => if Fdue da i = 1 then (Fspread n sg i (M i 6) M).1 else M) n 0 La → ∀ (H : Heap) (locs : List Loc) (ls : Array Slot), XR X G r (xSt f sg Lb O Y P Q) H locs → lv_has ls 4 [(0, .ref (xB X + xkey r 0 0)), (1, .int da), (2, .int (nI j))] → W p l e { frames := 4, cells := 0, slots := 0, locals := 88 } s m args below meth c H locs 0 0 Q0 (F0 m 66 ls []) := by
        intro k_66
        induction k_66 with
        | zero =>
          intro j Lb hik_66  hsp_66 H locs ls hW hl
          refine lv_iload_n hx hb dX4_coughThoseWhoWaited_66 rfl (lv_at hl 2 rfl) ?_
          refine lv_aload_n hx hb dX4_coughThoseWhoWaited_67 rfl (lv_at hl 0 rfl) ?_
          refine r_get hx hb hts hown hK hW (C := RX4) (T := TX4) (xF_street r hr) inlX4 rfl (by decide) 4 (by decide) (xr_street r hr).2.2.2.2.1 xw_103 rfl (x := nI n) hn dX4_coughThoseWhoWaited_68 ?_
          refine lv_icmp_ge (tgt := 104) hx hb dX4_coughThoseWhoWaited_71 (by decide) (fun c_2 => ?_) (fun c_2 => absurd (xge_refl (by omega)) c_2)
          obtain rfl : Lb = L' := by (rw [← ho0]) <;> (have e1 : (La, da) = Fwaits n L := hsp_4; show Lb = xloop _ n 0 (Fwaits n L).1; rw [← e1]; exact hsp_66)
          rw [hQ0]
          exact x_vret hx hb hret hlocks hW rfl dX4_coughThoseWhoWaited_104
        | succ k_66 ih_66 =>
          intro j Lb hik_66  hsp_66 H locs ls hW hl
          refine lv_iload_n hx hb dX4_coughThoseWhoWaited_66 rfl (lv_at hl 2 rfl) ?_
          refine lv_aload_n hx hb dX4_coughThoseWhoWaited_67 rfl (lv_at hl 0 rfl) ?_
          refine r_get hx hb hts hown hK hW (C := RX4) (T := TX4) (xF_street r hr) inlX4 rfl (by decide) 4 (by decide) (xr_street r hr).2.2.2.2.1 xw_103 rfl (x := nI n) hn dX4_coughThoseWhoWaited_68 ?_
          refine lv_icmp_ge (tgt := 104) hx hb dX4_coughThoseWhoWaited_71 (by decide) (fun c_3 => absurd c_3 (nI_ge (by omega) (by omega))) (fun c_3 => ?_)
          refine lv_iload_n hx hb dX4_coughThoseWhoWaited_74 rfl (lv_at hl 1 rfl) ?_
          refine lv_iload_n hx hb dX4_coughThoseWhoWaited_75 rfl (lv_at hl 2 rfl) ?_
          refine lv_ishr hx hb dX4_coughThoseWhoWaited_76 ?_
          refine lv_iconst (v := 1) hx hb dX4_coughThoseWhoWaited_77 (by decide) ?_
          refine lv_iand hx hb dX4_coughThoseWhoWaited_78 ?_
          refine lv_iconst (v := 1) hx hb dX4_coughThoseWhoWaited_79 (by decide) ?_
          refine lv_icmp_ne (tgt := 98) hx hb dX4_coughThoseWhoWaited_80 (by decide) (fun c_4 => ?_) (fun c_4 => ?_)
          · skip
            refine lv_iinc (v := nI (j + 1)) (lv' := [(2, .int (nI (j + 1))), (0, .ref (xB X + xkey r 0 0)), (1, .int da)]) hx hb dX4_coughThoseWhoWaited_98 hl (k := 2) rfl (nI_1 j) (by decide) rfl (fun ls hl => ?_)
            refine lv_goto (tgt := 66) hx hb dX4_coughThoseWhoWaited_101 (by decide) ?_
            refine ih_66 (j + 1) Lb (by omega)  ?_ H locs ls hW (lv_sub hl [1, 2, 0] rfl)
            rw [← hsp_66]; simp [xloop, xfind, LWaited, Fdue, c_1, c_3, c_4]
          · skip
            refine lv_aload_n hx hb dX4_coughThoseWhoWaited_83 rfl (lv_at hl 0 rfl) ?_
            refine lv_iload_n hx hb dX4_coughThoseWhoWaited_84 rfl (lv_at hl 2 rfl) ?_
            refine lv_aload_n hx hb dX4_coughThoseWhoWaited_85 rfl (lv_at hl 0 rfl) ?_
            refine r_getr (C := RX4) (T := TX4) hx hb hts hown hK hW (xF_street r hr).1 (xF_street r hr).2.1 inlX4 rfl (by decide) 1 (by decide) (xr_street r hr).2.1 xw_36 rfl dX4_coughThoseWhoWaited_86 ?_
            refine lv_iload_n hx hb dX4_coughThoseWhoWaited_89 rfl (lv_at hl 2 rfl) ?_
            refine r_aald hx hb hK hW (xF_lamps r hr).1 (xF_lamps r hr).2 (by decide) 4 rfl j (by omega) (by decide) rfl (xr_lamps r hr j (by omega)) dX4_coughThoseWhoWaited_90 ?_
            refine r_get hx hb hts hown hK hW (C := RX2) (T := TX2) (xF_lamp r hr j (by omega)) inlX2 rfl (by decide) 6 (by decide) (xr_lamp r hr j (by omega) 6 (by decide)) xw_428 rfl (x := Lb j 6) rfl dX4_coughThoseWhoWaited_91 ?_
            refine x_callV hx hb hml hown hts hK hW hl.1 (c_X4_spreadCough l X G (r := r) (n := n) (a := j) (rk := Lb j 6) (hr := hr) (hn := (by assumption)) (hn16 := (by assumption)) (ha := (by omega)) (ho0 := rfl) (hres := rfl)) (xF_street r hr).1 (xF_street r hr).2.1 (by decide) rfl xw_341 xw_342 xw_343 xw_15 xw_344 hdV_yX4_spreadCough ⟨Nat.le_of_ble_eq_true rfl, Nat.le_of_ble_eq_true rfl⟩ rfl (Nat.le_of_ble_eq_true rfl) ⟨Nat.le_refl _, Nat.le_refl _⟩ dX4_coughThoseWhoWaited_94 (fun H locs hW => ?_)
            have hW : XR X G r (xSt f sg ((Fspread n sg j (Lb j 6) Lb).1) O Y P Q) H locs := hW
            refine lv_pop hx hb dX4_coughThoseWhoWaited_97 rfl ?_
            refine lv_iinc (v := nI (j + 1)) (lv' := [(2, .int (nI (j + 1))), (0, .ref (xB X + xkey r 0 0)), (1, .int da)]) hx hb dX4_coughThoseWhoWaited_98 hl (k := 2) rfl (nI_1 j) (by decide) rfl (fun ls hl => ?_)
            refine lv_goto (tgt := 66) hx hb dX4_coughThoseWhoWaited_101 (by decide) ?_
            refine ih_66 (j + 1) ((Fspread n sg j (Lb j 6) Lb).1) (by omega)  ?_ H locs ls hW (lv_sub hl [1, 2, 0] rfl)
            rw [← hsp_66]; simp [xloop, xfind, LWaited, Fdue, c_1, c_3, c_4]
      exact loop_66 n 0 La (by omega)  rfl _ _ _ hW (lv_sub hl [1, 2, 0] rfl)
    | succ k_4 ih_4 =>
      intro i La da hik_4  hsp_4 H locs ls hW hl
      refine lv_iload_n hx hb dX4_coughThoseWhoWaited_4 rfl (lv_at hl 2 rfl) ?_
      refine lv_aload_n hx hb dX4_coughThoseWhoWaited_5 rfl (lv_at hl 0 rfl) ?_
      refine r_get hx hb hts hown hK hW (C := RX4) (T := TX4) (xF_street r hr) inlX4 rfl (by decide) 4 (by decide) (xr_street r hr).2.2.2.2.1 xw_103 rfl (x := nI n) hn dX4_coughThoseWhoWaited_6 ?_
      refine lv_icmp_ge (tgt := 64) hx hb dX4_coughThoseWhoWaited_9 (by decide) (fun c_5 => absurd c_5 (nI_ge (by omega) (by omega))) (fun c_5 => ?_)
      refine lv_aload_n hx hb dX4_coughThoseWhoWaited_12 rfl (lv_at hl 0 rfl) ?_
      refine r_getr (C := RX4) (T := TX4) hx hb hts hown hK hW (xF_street r hr).1 (xF_street r hr).2.1 inlX4 rfl (by decide) 1 (by decide) (xr_street r hr).2.1 xw_36 rfl dX4_coughThoseWhoWaited_13 ?_
      refine lv_iload_n hx hb dX4_coughThoseWhoWaited_16 rfl (lv_at hl 2 rfl) ?_
      refine r_aald hx hb hK hW (xF_lamps r hr).1 (xF_lamps r hr).2 (by decide) 4 rfl i (by omega) (by decide) rfl (xr_lamps r hr i (by omega)) dX4_coughThoseWhoWaited_17 ?_
      refine lv_astore_n (lv' := [(3, .ref (xB X + xkey r 2 i)), (0, .ref (xB X + xkey r 0 0)), (1, .int da), (2, .int (nI i))]) hx hb dX4_coughThoseWhoWaited_18 rfl hl (by decide) rfl (fun ls hl => ?_)
      refine lv_aload_n hx hb dX4_coughThoseWhoWaited_19 rfl (lv_at hl 0 rfl) ?_
      refine r_get hx hb hts hown hK hW (C := RX2) (T := TX2) (xF_lamp r hr i (by omega)) inlX2 rfl (by decide) 5 (by decide) (xr_lamp r hr i (by omega) 5 (by decide)) xw_427 rfl (x := La i 5) rfl dX4_coughThoseWhoWaited_20 ?_
      refine lv_bipush (v := (-6)) hx hb dX4_coughThoseWhoWaited_23 (by decide) ?_
      refine lv_icmp_ne (tgt := 31) hx hb dX4_coughThoseWhoWaited_25 (by decide) (fun c_6 => ?_) (fun c_6 => ?_)
      · skip
        refine lv_aload_n hx hb dX4_coughThoseWhoWaited_31 rfl (lv_at hl 0 rfl) ?_
        refine lv_dup hx hb dX4_coughThoseWhoWaited_32 rfl ?_
        refine r_get hx hb hts hown hK hW (C := RX2) (T := TX2) (xF_lamp r hr i (by omega)) inlX2 rfl (by decide) 5 (by decide) (xr_lamp r hr i (by omega) 5 (by decide)) xw_427 rfl (x := La i 5) rfl dX4_coughThoseWhoWaited_33 ?_
        refine lv_iconst (v := 1) hx hb dX4_coughThoseWhoWaited_36 (by decide) ?_
        refine lv_isub hx hb dX4_coughThoseWhoWaited_37 ?_
        have hW := XR.foc2 hW i
        refine r_put hx hb hts hown hK hW (C := RX2) (T := TX2) (xF_lamp r hr i (by omega)) inlX2 tyX2 tyX2_ok nmX2 rfl (by decide) 5 (by decide) (xr_lamp r hr i (by omega) 5 (by decide)) xw_427 rfl rfl rfl rfl xSt2f dX4_coughThoseWhoWaited_38 (fun H locs hW => ?_)
        refine lv_aload_n hx hb dX4_coughThoseWhoWaited_41 rfl (lv_at hl 0 rfl) ?_
        refine r_get hx hb hts hown hK hW (C := RX2) (T := TX2) (xF_lamp r hr i (by omega)) inlX2 rfl (by decide) 5 (by decide) (xr_lamp r hr i (by omega) 5 (by decide)) xw_427 rfl (x := (La i 5) - 1) (show (va_up La i (va_up (La i) 5 ((La i 5) - 1))) i 5 = (La i 5) - 1 from xrd rfl) dX4_coughThoseWhoWaited_42 ?_
        refine lv_if_gt (tgt := 58) hx hb dX4_coughThoseWhoWaited_45 (by decide) (fun c_7 => ?_) (fun c_7 => ?_)
        · skip
          refine lv_iinc (v := nI (i + 1)) (lv' := [(2, .int (nI (i + 1))), (3, .ref (xB X + xkey r 2 i)), (0, .ref (xB X + xkey r 0 0)), (1, .int da)]) hx hb dX4_coughThoseWhoWaited_58 hl (k := 3) rfl (nI_1 i) (by decide) rfl (fun ls hl => ?_)
          refine lv_goto (tgt := 4) hx hb dX4_coughThoseWhoWaited_61 (by decide) ?_
          refine ih_4 (i + 1) (va_up La i (va_up (La i) 5 ((La i 5) - 1))) da (by omega)  ?_ H locs ls hW (lv_sub hl [2, 3, 0] rfl)
          rw [← hsp_4]; simp [xloop, xfind, LWaited, xbit, c_5, c_6, c_7, Int32.not_le.mpr c_7]
        · skip
          refine lv_aload_n hx hb dX4_coughThoseWhoWaited_48 rfl (lv_at hl 0 rfl) ?_
          refine x_callV hx hb hml hown hts hK hW hl.1 (c_X2_takeTurn l X G (r := r) (i := i) (hr := hr) (hi := (by omega)) ) (xF_lamp r hr i (by omega)).1 (xF_lamp r hr i (by omega)).2.1 (by decide) rfl xw_429 xw_430 xw_431 xw_46 xw_432 hdV_yX2_takeTurn ⟨Nat.le_of_ble_eq_true rfl, Nat.le_of_ble_eq_true rfl⟩ rfl (Nat.le_of_ble_eq_true rfl) ⟨Nat.le_refl _, Nat.le_refl _⟩ dX4_coughThoseWhoWaited_49 (fun H locs hW => ?_)
          have hW : XR X G r (xSt f sg (va_up La i (va_up (va_up (va_up (La i) 5 ((La i 5) - 1)) 5 (-6)) 12 1)) O Y P Q) H locs := hW
          refine lv_iload_n hx hb dX4_coughThoseWhoWaited_52 rfl (lv_at hl 2 rfl) ?_
          refine lv_iconst (v := 1) hx hb dX4_coughThoseWhoWaited_53 (by decide) ?_
          refine lv_iload_n hx hb dX4_coughThoseWhoWaited_54 rfl (lv_at hl 3 rfl) ?_
          refine lv_ishl hx hb dX4_coughThoseWhoWaited_55 ?_
          refine lv_ior hx hb dX4_coughThoseWhoWaited_56 ?_
          refine lv_istore_n (lv' := [(1, .int (da ||| (1 <<< ((nI i) &&& 31)))), (3, .ref (xB X + xkey r 2 i)), (0, .ref (xB X + xkey r 0 0)), (2, .int (nI i))]) hx hb dX4_coughThoseWhoWaited_57 rfl hl (by decide) rfl (fun ls hl => ?_)
          refine lv_iinc (v := nI (i + 1)) (lv' := [(2, .int (nI (i + 1))), (1, .int (da ||| (1 <<< ((nI i) &&& 31)))), (3, .ref (xB X + xkey r 2 i)), (0, .ref (xB X + xkey r 0 0))]) hx hb dX4_coughThoseWhoWaited_58 hl (k := 3) rfl (nI_1 i) (by decide) rfl (fun ls hl => ?_)
          refine lv_goto (tgt := 4) hx hb dX4_coughThoseWhoWaited_61 (by decide) ?_
          refine ih_4 (i + 1) (va_up La i (va_up (va_up (va_up (La i) 5 ((La i 5) - 1)) 5 (-6)) 12 1)) (da ||| (1 <<< ((nI i) &&& 31))) (by omega)  ?_ H locs ls hW (lv_sub hl [3, 1, 0] rfl)
          rw [← hsp_4]; simp [xloop, xfind, LWaited, xbit, c_5, c_6, c_7, Int32.not_lt.mp c_7]
      · skip
        refine lv_goto (tgt := 58) hx hb dX4_coughThoseWhoWaited_28 (by decide) ?_
        refine lv_iinc (v := nI (i + 1)) (lv' := [(2, .int (nI (i + 1))), (3, .ref (xB X + xkey r 2 i)), (0, .ref (xB X + xkey r 0 0)), (1, .int da)]) hx hb dX4_coughThoseWhoWaited_58 hl (k := 3) rfl (nI_1 i) (by decide) rfl (fun ls hl => ?_)
        refine lv_goto (tgt := 4) hx hb dX4_coughThoseWhoWaited_61 (by decide) ?_
        refine ih_4 (i + 1) La da (by omega)  ?_ H locs ls hW (lv_sub hl [2, 3, 0] rfl)
        rw [← hsp_4]; simp [xloop, xfind, LWaited, xbit, c_5, c_6]
  exact loop_4 n 0 L 0 (by omega)  rfl _ _ _ hW (lv_sub hl [2, 1, 0] rfl)
set_option maxHeartbeats 4000000 in
set_option maxRecDepth 100000 in
theorem c_X4_lampsThatAre (l : Launch) (X : xX) (G : xG) {r : Nat} {f sg : Nat → Int32} {L O Y P Q : Nat → Nat → Int32} {n : Nat} {d : Int32} (hr : r < 11) (hn : f 4 = nI n) (hn16 : n ≤ 16) {res : Int32} (hres : (Fthat n d L) = res) : XC l yX4_lampsThatAre cX4_lampsThatAre 4 (some .int) 0 0 0 0 X xsh [.ref (xB X + xkey r 0 0), .int d] 603 603 (xval (xB X) (va_up G r (xSt f sg L O Y P Q))) (xval (xB X) (va_up G r (xSt f sg L O Y P Q))) (some (.int res)) := by
  refine XC.of RX4 "lampsThatAre" [(0, .ref (xB X + xkey r 0 0)), (1, .int d)] (by decide) rfl rfl (Nat.le_of_ble_eq_true rfl) rfl ?_
  intro p e s m args below meth c ls hx hb hret hml hts hown hlocks hnm hK hW hl
  have hW : XR X G r (xSt f sg L O Y P Q) s.heap [] := hW
  obtain ⟨Q0, hQ0⟩ : ∃ z, z = MQ below (xQ X xsh 603 (xval (xB X) (va_up G r (xSt f sg L O Y P Q))) (some (.int res))) args s 0 0 (fun q => xB X ≤ q) := ⟨_, rfl⟩
  rw [← hQ0]
  refine lv_iconst (v := 0) hx hb dX4_lampsThatAre_0 (by decide) ?_
  refine lv_istore_n (lv' := [(2, .int 0), (0, .ref (xB X + xkey r 0 0)), (1, .int d)]) hx hb dX4_lampsThatAre_1 rfl hl (by decide) rfl (fun ls hl => ?_)
  refine lv_iconst (v := nI 0) hx hb dX4_lampsThatAre_2 (by decide) ?_
  refine lv_istore_n (lv' := [(3, .int (nI 0)), (2, .int 0), (0, .ref (xB X + xkey r 0 0)), (1, .int d)]) hx hb dX4_lampsThatAre_3 rfl hl (by decide) rfl (fun ls hl => ?_)
  have loop_4 : ∀ (k_4 i : Nat) (da : Int32), i + k_4 = n → xloop (fun i s => if L i 2 = d then s ||| xbit i else s) k_4 i da = xloop (fun i s => if L i 2 = d then s ||| xbit i else s) n 0 0 → ∀ (H : Heap) (locs : List Loc) (ls : Array Slot), XR X G r (xSt f sg L O Y P Q) H locs → lv_has ls 4 [(0, .ref (xB X + xkey r 0 0)), (1, .int d), (2, .int da), (3, .int (nI i))] → W p l e { frames := 0, cells := 0, slots := 0, locals := 0 } s m args below meth c H locs 0 0 Q0 (F0 m 4 ls []) := by
    intro k_4
    induction k_4 with
    | zero =>
      intro i da hik_4  hsp_4 H locs ls hW hl
      refine lv_iload_n hx hb dX4_lampsThatAre_4 rfl (lv_at hl 3 rfl) ?_
      refine lv_aload_n hx hb dX4_lampsThatAre_5 rfl (lv_at hl 0 rfl) ?_
      refine r_get hx hb hts hown hK hW (C := RX4) (T := TX4) (xF_street r hr) inlX4 rfl (by decide) 4 (by decide) (xr_street r hr).2.2.2.2.1 xw_103 rfl (x := nI n) hn dX4_lampsThatAre_6 ?_
      refine lv_icmp_ge (tgt := 37) hx hb dX4_lampsThatAre_9 (by decide) (fun c_1 => ?_) (fun c_1 => absurd (xge_refl (by omega)) c_1)
      refine lv_iload_n hx hb dX4_lampsThatAre_37 rfl (lv_at hl 2 rfl) ?_
      obtain rfl : da = res := by (rw [← hres]) <;> (simpa [Fthat, xloop, xfind, c_1] using hsp_4)
      rw [hQ0]
      exact x_iret hx hb hret hlocks rfl hW rfl dX4_lampsThatAre_38
    | succ k_4 ih_4 =>
      intro i da hik_4  hsp_4 H locs ls hW hl
      refine lv_iload_n hx hb dX4_lampsThatAre_4 rfl (lv_at hl 3 rfl) ?_
      refine lv_aload_n hx hb dX4_lampsThatAre_5 rfl (lv_at hl 0 rfl) ?_
      refine r_get hx hb hts hown hK hW (C := RX4) (T := TX4) (xF_street r hr) inlX4 rfl (by decide) 4 (by decide) (xr_street r hr).2.2.2.2.1 xw_103 rfl (x := nI n) hn dX4_lampsThatAre_6 ?_
      refine lv_icmp_ge (tgt := 37) hx hb dX4_lampsThatAre_9 (by decide) (fun c_2 => absurd c_2 (nI_ge (by omega) (by omega))) (fun c_2 => ?_)
      refine lv_aload_n hx hb dX4_lampsThatAre_12 rfl (lv_at hl 0 rfl) ?_
      refine r_getr (C := RX4) (T := TX4) hx hb hts hown hK hW (xF_street r hr).1 (xF_street r hr).2.1 inlX4 rfl (by decide) 1 (by decide) (xr_street r hr).2.1 xw_36 rfl dX4_lampsThatAre_13 ?_
      refine lv_iload_n hx hb dX4_lampsThatAre_16 rfl (lv_at hl 3 rfl) ?_
      refine r_aald hx hb hK hW (xF_lamps r hr).1 (xF_lamps r hr).2 (by decide) 4 rfl i (by omega) (by decide) rfl (xr_lamps r hr i (by omega)) dX4_lampsThatAre_17 ?_
      refine r_get hx hb hts hown hK hW (C := RX2) (T := TX2) (xF_lamp r hr i (by omega)) inlX2 rfl (by decide) 2 (by decide) (xr_lamp r hr i (by omega) 2 (by decide)) xw_441 rfl (x := L i 2) rfl dX4_lampsThatAre_18 ?_
      refine lv_iload_n hx hb dX4_lampsThatAre_21 rfl (lv_at hl 1 rfl) ?_
      refine lv_icmp_ne (tgt := 31) hx hb dX4_lampsThatAre_22 (by decide) (fun c_3 => ?_) (fun c_3 => ?_)
      · skip
        refine lv_iinc (v := nI (i + 1)) (lv' := [(3, .int (nI (i + 1))), (0, .ref (xB X + xkey r 0 0)), (1, .int d), (2, .int da)]) hx hb dX4_lampsThatAre_31 hl (k := 3) rfl (nI_1 i) (by decide) rfl (fun ls hl => ?_)
        refine lv_goto (tgt := 4) hx hb dX4_lampsThatAre_34 (by decide) ?_
        refine ih_4 (i + 1) da (by omega)  ?_ H locs ls hW (lv_sub hl [1, 2, 3, 0] rfl)
        rw [← hsp_4]; simp [xloop, xfind, Fthat, xbit, c_2, c_3]
      · skip
        refine lv_iload_n hx hb dX4_lampsThatAre_25 rfl (lv_at hl 2 rfl) ?_
        refine lv_iconst (v := 1) hx hb dX4_lampsThatAre_26 (by decide) ?_
        refine lv_iload_n hx hb dX4_lampsThatAre_27 rfl (lv_at hl 3 rfl) ?_
        refine lv_ishl hx hb dX4_lampsThatAre_28 ?_
        refine lv_ior hx hb dX4_lampsThatAre_29 ?_
        refine lv_istore_n (lv' := [(2, .int (da ||| (1 <<< ((nI i) &&& 31)))), (0, .ref (xB X + xkey r 0 0)), (1, .int d), (3, .int (nI i))]) hx hb dX4_lampsThatAre_30 rfl hl (by decide) rfl (fun ls hl => ?_)
        refine lv_iinc (v := nI (i + 1)) (lv' := [(3, .int (nI (i + 1))), (2, .int (da ||| (1 <<< ((nI i) &&& 31)))), (0, .ref (xB X + xkey r 0 0)), (1, .int d)]) hx hb dX4_lampsThatAre_31 hl (k := 3) rfl (nI_1 i) (by decide) rfl (fun ls hl => ?_)
        refine lv_goto (tgt := 4) hx hb dX4_lampsThatAre_34 (by decide) ?_
        refine ih_4 (i + 1) (da ||| (1 <<< ((nI i) &&& 31))) (by omega)  ?_ H locs ls hW (lv_sub hl [2, 3, 1, 0] rfl)
        rw [← hsp_4]; simp [xloop, xfind, Fthat, xbit, c_2, c_3]
  exact loop_4 n 0 0 (by omega)  rfl _ _ _ hW (lv_sub hl [2, 3, 1, 0] rfl)
set_option maxHeartbeats 4000000 in
set_option maxRecDepth 100000 in
theorem c_X4_lampsThatLight (l : Launch) (X : xX) (G : xG) {r : Nat} {f sg : Nat → Int32} {L O Y P Q : Nat → Nat → Int32} {n : Nat} {x : Int32} (hr : r < 11) (hn : f 4 = nI n) (hn16 : n ≤ 16) {res : Int32} (hres : (Flit n x L) = res) : XC l yX4_lampsThatLight cX4_lampsThatLight 4 (some .int) 3 63 0 0 X xsh [.ref (xB X + xkey r 0 0), .int x] 603 603 (xval (xB X) (va_up G r (xSt f sg L O Y P Q))) (xval (xB X) (va_up G r (xSt f sg L O Y P Q))) (some (.int res)) := by
  refine XC.of RX4 "lampsThatLight" [(0, .ref (xB X + xkey r 0 0)), (1, .int x)] (by decide) rfl rfl (Nat.le_of_ble_eq_true rfl) rfl ?_
  intro p e s m args below meth c ls hx hb hret hml hts hown hlocks hnm hK hW hl
  have hW : XR X G r (xSt f sg L O Y P Q) s.heap [] := hW
  obtain ⟨Q0, hQ0⟩ : ∃ z, z = MQ below (xQ X xsh 603 (xval (xB X) (va_up G r (xSt f sg L O Y P Q))) (some (.int res))) args s 0 0 (fun q => xB X ≤ q) := ⟨_, rfl⟩
  rw [← hQ0]
  refine lv_iconst (v := 0) hx hb dX4_lampsThatLight_0 (by decide) ?_
  refine lv_istore_n (lv' := [(2, .int 0), (0, .ref (xB X + xkey r 0 0)), (1, .int x)]) hx hb dX4_lampsThatLight_1 rfl hl (by decide) rfl (fun ls hl => ?_)
  refine lv_iconst (v := nI 0) hx hb dX4_lampsThatLight_2 (by decide) ?_
  refine lv_istore_n (lv' := [(3, .int (nI 0)), (2, .int 0), (0, .ref (xB X + xkey r 0 0)), (1, .int x)]) hx hb dX4_lampsThatLight_3 rfl hl (by decide) rfl (fun ls hl => ?_)
  have loop_4 : ∀ (k_4 i : Nat) (da : Int32), i + k_4 = n → xloop (fun i s => if Flights (L i) x = 0 then s else s ||| xbit i) k_4 i da = xloop (fun i s => if Flights (L i) x = 0 then s else s ||| xbit i) n 0 0 → ∀ (H : Heap) (locs : List Loc) (ls : Array Slot), XR X G r (xSt f sg L O Y P Q) H locs → lv_has ls 4 [(0, .ref (xB X + xkey r 0 0)), (1, .int x), (2, .int da), (3, .int (nI i))] → W p l e { frames := 3, cells := 0, slots := 0, locals := 63 } s m args below meth c H locs 0 0 Q0 (F0 m 4 ls []) := by
    intro k_4
    induction k_4 with
    | zero =>
      intro i da hik_4  hsp_4 H locs ls hW hl
      refine lv_iload_n hx hb dX4_lampsThatLight_4 rfl (lv_at hl 3 rfl) ?_
      refine lv_aload_n hx hb dX4_lampsThatLight_5 rfl (lv_at hl 0 rfl) ?_
      refine r_get hx hb hts hown hK hW (C := RX4) (T := TX4) (xF_street r hr) inlX4 rfl (by decide) 4 (by decide) (xr_street r hr).2.2.2.2.1 xw_103 rfl (x := nI n) hn dX4_lampsThatLight_6 ?_
      refine lv_icmp_ge (tgt := 37) hx hb dX4_lampsThatLight_9 (by decide) (fun c_1 => ?_) (fun c_1 => absurd (xge_refl (by omega)) c_1)
      refine lv_iload_n hx hb dX4_lampsThatLight_37 rfl (lv_at hl 2 rfl) ?_
      obtain rfl : da = res := by (rw [← hres]) <;> (simpa [Flit, Fset, xloop, xfind, c_1] using hsp_4)
      rw [hQ0]
      exact x_iret hx hb hret hlocks rfl hW rfl dX4_lampsThatLight_38
    | succ k_4 ih_4 =>
      intro i da hik_4  hsp_4 H locs ls hW hl
      refine lv_iload_n hx hb dX4_lampsThatLight_4 rfl (lv_at hl 3 rfl) ?_
      refine lv_aload_n hx hb dX4_lampsThatLight_5 rfl (lv_at hl 0 rfl) ?_
      refine r_get hx hb hts hown hK hW (C := RX4) (T := TX4) (xF_street r hr) inlX4 rfl (by decide) 4 (by decide) (xr_street r hr).2.2.2.2.1 xw_103 rfl (x := nI n) hn dX4_lampsThatLight_6 ?_
      refine lv_icmp_ge (tgt := 37) hx hb dX4_lampsThatLight_9 (by decide) (fun c_2 => absurd c_2 (nI_ge (by omega) (by omega))) (fun c_2 => ?_)
      refine lv_aload_n hx hb dX4_lampsThatLight_12 rfl (lv_at hl 0 rfl) ?_
      refine r_getr (C := RX4) (T := TX4) hx hb hts hown hK hW (xF_street r hr).1 (xF_street r hr).2.1 inlX4 rfl (by decide) 1 (by decide) (xr_street r hr).2.1 xw_36 rfl dX4_lampsThatLight_13 ?_
      refine lv_iload_n hx hb dX4_lampsThatLight_16 rfl (lv_at hl 3 rfl) ?_
      refine r_aald hx hb hK hW (xF_lamps r hr).1 (xF_lamps r hr).2 (by decide) 4 rfl i (by omega) (by decide) rfl (xr_lamps r hr i (by omega)) dX4_lampsThatLight_17 ?_
      refine lv_iload_n hx hb dX4_lampsThatLight_18 rfl (lv_at hl 1 rfl) ?_
      have hW := XR.foc2 hW i
      refine x_callV hx hb hml hown hts hK hW hl.1 (c_X2_lights l X G (r := r) (i := i) (x := x) (hr := hr) (hi := (by omega)) (hres := rfl)) (xF_lamp r hr i (by omega)).1 (xF_lamp r hr i (by omega)).2.1 (by decide) rfl xw_471 xw_472 xw_473 xw_46 xw_474 hdV_yX2_lights ⟨Nat.le_of_ble_eq_true rfl, Nat.le_of_ble_eq_true rfl⟩ rfl (Nat.le_of_ble_eq_true rfl) ⟨Nat.le_refl _, Nat.le_refl _⟩ dX4_lampsThatLight_19 (fun H locs hW => ?_)
      have hW : XR X G r (xSt f sg L O Y P Q) H locs := XR.unf2 hW
      refine lv_if_eq (tgt := 31) hx hb dX4_lampsThatLight_22 (by decide) (fun c_3 => ?_) (fun c_3 => ?_)
      · skip
        refine lv_iinc (v := nI (i + 1)) (lv' := [(3, .int (nI (i + 1))), (0, .ref (xB X + xkey r 0 0)), (1, .int x), (2, .int da)]) hx hb dX4_lampsThatLight_31 hl (k := 3) rfl (nI_1 i) (by decide) rfl (fun ls hl => ?_)
        refine lv_goto (tgt := 4) hx hb dX4_lampsThatLight_34 (by decide) ?_
        refine ih_4 (i + 1) da (by omega)  ?_ H locs ls hW (lv_sub hl [1, 2, 3, 0] rfl)
        rw [← hsp_4]; simp [xloop, xfind, Flit, Fset, xbit, c_2, c_3]
      · skip
        refine lv_iload_n hx hb dX4_lampsThatLight_25 rfl (lv_at hl 2 rfl) ?_
        refine lv_iconst (v := 1) hx hb dX4_lampsThatLight_26 (by decide) ?_
        refine lv_iload_n hx hb dX4_lampsThatLight_27 rfl (lv_at hl 3 rfl) ?_
        refine lv_ishl hx hb dX4_lampsThatLight_28 ?_
        refine lv_ior hx hb dX4_lampsThatLight_29 ?_
        refine lv_istore_n (lv' := [(2, .int (da ||| (1 <<< ((nI i) &&& 31)))), (0, .ref (xB X + xkey r 0 0)), (1, .int x), (3, .int (nI i))]) hx hb dX4_lampsThatLight_30 rfl hl (by decide) rfl (fun ls hl => ?_)
        refine lv_iinc (v := nI (i + 1)) (lv' := [(3, .int (nI (i + 1))), (2, .int (da ||| (1 <<< ((nI i) &&& 31)))), (0, .ref (xB X + xkey r 0 0)), (1, .int x)]) hx hb dX4_lampsThatLight_31 hl (k := 3) rfl (nI_1 i) (by decide) rfl (fun ls hl => ?_)
        refine lv_goto (tgt := 4) hx hb dX4_lampsThatLight_34 (by decide) ?_
        refine ih_4 (i + 1) (da ||| (1 <<< ((nI i) &&& 31))) (by omega)  ?_ H locs ls hW (lv_sub hl [2, 3, 1, 0] rfl)
        rw [← hsp_4]; simp [xloop, xfind, Flit, Fset, xbit, c_2, c_3]
  exact loop_4 n 0 0 (by omega)  rfl _ _ _ hW (lv_sub hl [2, 3, 1, 0] rfl)
set_option maxHeartbeats 4000000 in
set_option maxRecDepth 100000 in
theorem c_X4_seesWalker (l : Launch) (X : xX) (G : xG) {r : Nat} {f sg : Nat → Int32} {L O Y P Q : Nat → Nat → Int32} {nw : Nat} {a : Nat} (hr : r < 11) (hw : f 6 = nI nw) (hw8 : nw ≤ 8) (ha : a < 16) {res : Int32} (hres : (Fsees nw sg Y (L a)) = res) : XC l yX4_seesWalker cX4_seesWalker 3 (some .boolean) 2 42 0 0 X xsh [.ref (xB X + xkey r 0 0), .ref (xB X + xkey r 2 a)] 603 603 (xval (xB X) (va_up G r (xSt f sg L O Y P Q))) (xval (xB X) (va_up G r (xSt f sg L O Y P Q))) (some (.int res)) := by
  refine XC.of RX4 "seesWalker" [(0, .ref (xB X + xkey r 0 0)), (1, .ref (xB X + xkey r 2 a))] (by decide) rfl rfl (Nat.le_of_ble_eq_true rfl) rfl ?_
  intro p e s m args below meth c ls hx hb hret hml hts hown hlocks hnm hK hW hl
  have hW : XR X G r (xSt f sg L O Y P Q) s.heap [] := hW
  obtain ⟨Q0, hQ0⟩ : ∃ z, z = MQ below (xQ X xsh 603 (xval (xB X) (va_up G r (xSt f sg L O Y P Q))) (some (.int res))) args s 0 0 (fun q => xB X ≤ q) := ⟨_, rfl⟩
  rw [← hQ0]
  refine lv_aload_n hx hb dX4_seesWalker_0 rfl (lv_at hl 1 rfl) ?_
  refine r_get hx hb hts hown hK hW (C := RX2) (T := TX2) (xF_lamp r hr a ha) inlX2 rfl (by decide) 3 (by decide) (xr_lamp r hr a ha 3 (by decide)) xw_294 rfl (x := L a 3) rfl dX4_seesWalker_1 ?_
  refine lv_if_eq (tgt := 9) hx hb dX4_seesWalker_4 (by decide) (fun c_1 => ?_) (fun c_1 => ?_)
  · skip
    refine lv_iconst (v := nI 0) hx hb dX4_seesWalker_9 (by decide) ?_
    refine lv_istore_n (lv' := [(2, .int (nI 0)), (0, .ref (xB X + xkey r 0 0)), (1, .ref (xB X + xkey r 2 a))]) hx hb dX4_seesWalker_10 rfl hl (by decide) rfl (fun ls hl => ?_)
    have loop_11 : ∀ (k_11 i : Nat) , i + k_11 = nw → xfind (fun w => if Y w 5 = 0 then (if Fdist (L a) (Y w 3) ≤ sg 0 then 1 else 0) else 0) k_11 i = xfind (fun w => if Y w 5 = 0 then (if Fdist (L a) (Y w 3) ≤ sg 0 then 1 else 0) else 0) nw 0 → ∀ (H : Heap) (locs : List Loc) (ls : Array Slot), XR X G r (xSt f sg L O Y P Q) H locs → lv_has ls 3 [(0, .ref (xB X + xkey r 0 0)), (1, .ref (xB X + xkey r 2 a)), (2, .int (nI i))] → W p l e { frames := 2, cells := 0, slots := 0, locals := 42 } s m args below meth c H locs 0 0 Q0 (F0 m 11 ls []) := by
      intro k_11
      induction k_11 with
      | zero =>
        intro i  hik_11  hsp_11 H locs ls hW hl
        refine lv_iload_n hx hb dX4_seesWalker_11 rfl (lv_at hl 2 rfl) ?_
        refine lv_aload_n hx hb dX4_seesWalker_12 rfl (lv_at hl 0 rfl) ?_
        refine r_get hx hb hts hown hK hW (C := RX4) (T := TX4) (xF_street r hr) inlX4 rfl (by decide) 6 (by decide) (xr_street r hr).2.2.2.2.2.2.1 xw_105 rfl (x := nI nw) hw dX4_seesWalker_13 ?_
        refine lv_icmp_ge (tgt := 61) hx hb dX4_seesWalker_16 (by decide) (fun c_2 => ?_) (fun c_2 => absurd (xge_refl (by omega)) c_2)
        refine lv_iconst (v := 0) hx hb dX4_seesWalker_61 (by decide) ?_
        obtain rfl : 0 = res := by (rw [← hres]) <;> (first | (simp [Fsees, c_1, c_2]; exact hsp_11) | simp [Fsees, c_1, c_2])
        rw [hQ0]
        exact x_iret hx hb hret hlocks rfl hW rfl dX4_seesWalker_62
      | succ k_11 ih_11 =>
        intro i  hik_11  hsp_11 H locs ls hW hl
        refine lv_iload_n hx hb dX4_seesWalker_11 rfl (lv_at hl 2 rfl) ?_
        refine lv_aload_n hx hb dX4_seesWalker_12 rfl (lv_at hl 0 rfl) ?_
        refine r_get hx hb hts hown hK hW (C := RX4) (T := TX4) (xF_street r hr) inlX4 rfl (by decide) 6 (by decide) (xr_street r hr).2.2.2.2.2.2.1 xw_105 rfl (x := nI nw) hw dX4_seesWalker_13 ?_
        refine lv_icmp_ge (tgt := 61) hx hb dX4_seesWalker_16 (by decide) (fun c_3 => absurd c_3 (nI_ge (by omega) (by omega))) (fun c_3 => ?_)
        refine lv_aload_n hx hb dX4_seesWalker_19 rfl (lv_at hl 0 rfl) ?_
        refine r_getr (C := RX4) (T := TX4) hx hb hts hown hK hW (xF_street r hr).1 (xF_street r hr).2.1 inlX4 rfl (by decide) 3 (by decide) (xr_street r hr).2.2.2.1 xw_40 rfl dX4_seesWalker_20 ?_
        refine lv_iload_n hx hb dX4_seesWalker_23 rfl (lv_at hl 2 rfl) ?_
        refine r_aald hx hb hK hW (xF_walkers r hr).1 (xF_walkers r hr).2 (by decide) 6 rfl i (by omega) (by decide) rfl (xr_walkers r hr i (by omega)) dX4_seesWalker_24 ?_
        refine r_get hx hb hts hown hK hW (C := RX5) (T := TX5) (xF_walker r hr i (by omega)) inlX5 rfl (by decide) 5 (by decide) ((xr_walker r hr i (by omega)).2.2 5 (by decide) (by decide)) xw_446 rfl (x := Y i 5) rfl dX4_seesWalker_25 ?_
        refine lv_if_ne (tgt := 55) hx hb dX4_seesWalker_28 (by decide) (fun c_4 => ?_) (fun c_4 => ?_)
        · skip
          refine lv_iinc (v := nI (i + 1)) (lv' := [(2, .int (nI (i + 1))), (0, .ref (xB X + xkey r 0 0)), (1, .ref (xB X + xkey r 2 a))]) hx hb dX4_seesWalker_55 hl (k := 2) rfl (nI_1 i) (by decide) rfl (fun ls hl => ?_)
          refine lv_goto (tgt := 11) hx hb dX4_seesWalker_58 (by decide) ?_
          refine ih_11 (i + 1)  (by omega)  ?_ H locs ls hW (lv_sub hl [1, 2, 0] rfl)
          rw [← hsp_11]; simp [xloop, xfind, Fsees, c_1, c_3, c_4]
        · skip
          refine lv_aload_n hx hb dX4_seesWalker_31 rfl (lv_at hl 1 rfl) ?_
          refine lv_aload_n hx hb dX4_seesWalker_32 rfl (lv_at hl 0 rfl) ?_
          refine r_getr (C := RX4) (T := TX4) hx hb hts hown hK hW (xF_street r hr).1 (xF_street r hr).2.1 inlX4 rfl (by decide) 3 (by decide) (xr_street r hr).2.2.2.1 xw_40 rfl dX4_seesWalker_33 ?_
          refine lv_iload_n hx hb dX4_seesWalker_36 rfl (lv_at hl 2 rfl) ?_
          refine r_aald hx hb hK hW (xF_walkers r hr).1 (xF_walkers r hr).2 (by decide) 6 rfl i (by omega) (by decide) rfl (xr_walkers r hr i (by omega)) dX4_seesWalker_37 ?_
          refine r_get hx hb hts hown hK hW (C := RX5) (T := TX5) (xF_walker r hr i (by omega)) inlX5 rfl (by decide) 3 (by decide) ((xr_walker r hr i (by omega)).2.2 3 (by decide) (by decide)) xw_447 rfl (x := Y i 3) rfl dX4_seesWalker_38 ?_
          have hW := XR.foc2 hW a
          refine x_callV hx hb hml hown hts hK hW hl.1 (c_X2_distanceTo l X G (r := r) (i := a) (x := Y i 3) (hr := hr) (hi := ha) (hres := rfl)) (xF_lamp r hr a ha).1 (xF_lamp r hr a ha).2.1 (by decide) rfl xw_350 xw_351 xw_352 xw_46 xw_353 hdV_yX2_distanceTo ⟨Nat.le_of_ble_eq_true rfl, Nat.le_of_ble_eq_true rfl⟩ rfl (Nat.le_of_ble_eq_true rfl) ⟨Nat.le_refl _, Nat.le_refl _⟩ dX4_seesWalker_41 (fun H locs hW => ?_)
          have hW : XR X G r (xSt f sg L O Y P Q) H locs := XR.unf2 hW
          refine lv_aload_n hx hb dX4_seesWalker_44 rfl (lv_at hl 0 rfl) ?_
          refine r_getr (C := RX4) (T := TX4) hx hb hts hown hK hW (xF_street r hr).1 (xF_street r hr).2.1 inlX4 rfl (by decide) 0 (by decide) (xr_street r hr).1 xw_34 rfl dX4_seesWalker_45 ?_
          refine lv_iconst (v := 0) hx hb dX4_seesWalker_48 (by decide) ?_
          refine r_iald hx hb hK hW (N := 6) (xF_sett r hr) 0 (by decide) (by decide) (by decide) (xr_sett r hr 0 (by decide)) (x := sg 0) rfl dX4_seesWalker_49 ?_
          refine lv_icmp_gt (tgt := 55) hx hb dX4_seesWalker_50 (by decide) (fun c_5 => ?_) (fun c_5 => ?_)
          · skip
            refine lv_iinc (v := nI (i + 1)) (lv' := [(2, .int (nI (i + 1))), (0, .ref (xB X + xkey r 0 0)), (1, .ref (xB X + xkey r 2 a))]) hx hb dX4_seesWalker_55 hl (k := 2) rfl (nI_1 i) (by decide) rfl (fun ls hl => ?_)
            refine lv_goto (tgt := 11) hx hb dX4_seesWalker_58 (by decide) ?_
            refine ih_11 (i + 1)  (by omega)  ?_ H locs ls hW (lv_sub hl [1, 2, 0] rfl)
            rw [← hsp_11]; simp [xloop, xfind, Fsees, c_1, c_3, c_4, c_5, Int32.not_le.mpr c_5]
          · skip
            refine lv_iconst (v := 1) hx hb dX4_seesWalker_53 (by decide) ?_
            obtain rfl : 1 = res := by (rw [← hres]) <;> (rw [Fsees, if_pos c_1, ← hsp_11]; simp [xfind, c_1, c_3, c_4, c_5, Int32.not_lt.mp c_5])
            rw [hQ0]
            exact x_iret hx hb hret hlocks rfl hW rfl dX4_seesWalker_54
    exact loop_11 nw 0  (by omega)  rfl _ _ _ hW (lv_sub hl [1, 2, 0] rfl)
  · skip
    refine lv_iconst (v := 0) hx hb dX4_seesWalker_7 (by decide) ?_
    obtain rfl : 0 = res := by (rw [← hres]) <;> (simp [Fsees, c_1])
    rw [hQ0]
    exact x_iret hx hb hret hlocks rfl hW rfl dX4_seesWalker_8
set_option maxHeartbeats 4000000 in
set_option maxRecDepth 100000 in
theorem c_X4_moveWalkers (l : Launch) (X : xX) (G : xG) {r : Nat} {f sg : Nat → Int32} {L O Y P Q : Nat → Nat → Int32} {nw : Nat}  (hr : r < 11) (hw : f 6 = nI nw) (hw8 : nw ≤ 8) {Y' : Nat → Nat → Int32} (ho0 : ((FMove nw Y P Q).1) = Y') {P' : Nat → Nat → Int32} (ho1 : ((FMove nw Y P Q).2.1) = P') {Q' : Nat → Nat → Int32} (ho2 : ((FMove nw Y P Q).2.2) = Q') : XC l yX4_moveWalkers cX4_moveWalkers 2 none 4 102 0 0 X xsh [.ref (xB X + xkey r 0 0)] 603 603 (xval (xB X) (va_up G r (xSt f sg L O Y P Q))) (xval (xB X) (va_up G r (xSt f sg L O Y' P' Q'))) none := by
  refine XC.of RX4 "moveWalkers" [(0, .ref (xB X + xkey r 0 0))] (by decide) rfl rfl (Nat.le_of_ble_eq_true rfl) rfl ?_
  intro p e s m args below meth c ls hx hb hret hml hts hown hlocks hnm hK hW hl
  have hW : XR X G r (xSt f sg L O Y P Q) s.heap [] := hW
  obtain ⟨Q0, hQ0⟩ : ∃ z, z = MQ below (xQ X xsh 603 (xval (xB X) (va_up G r (xSt f sg L O Y' P' Q'))) none) args s 0 0 (fun q => xB X ≤ q) := ⟨_, rfl⟩
  rw [← hQ0]
  refine lv_iconst (v := nI 0) hx hb dX4_moveWalkers_0 (by decide) ?_
  refine lv_istore_n (lv' := [(1, .int (nI 0)), (0, .ref (xB X + xkey r 0 0))]) hx hb dX4_moveWalkers_1 rfl hl (by decide) rfl (fun ls hl => ?_)
  have loop_2 : ∀ (k_2 i : Nat) (Ya : Nat → Nat → Int32) (Pa : Nat → Nat → Int32) (Qa : Nat → Nat → Int32), i + k_2 = nw → xloop (fun i (q : (Nat → Nat → Int32) × (Nat → Nat → Int32) × (Nat → Nat → Int32)) => (va_up q.1 i (FgoW (q.1 i) (q.2.1 i) (q.2.2 i)), va_up q.2.1 i (FgoP (q.1 i) (q.2.1 i) (q.2.2 i) (q.2.1 i)), va_up q.2.2 i (FgoP (q.1 i) (q.2.1 i) (q.2.2 i) (q.2.2 i)))) k_2 i (Ya, Pa, Qa) = xloop (fun i (q : (Nat → Nat → Int32) × (Nat → Nat → Int32) × (Nat → Nat → Int32)) => (va_up q.1 i (FgoW (q.1 i) (q.2.1 i) (q.2.2 i)), va_up q.2.1 i (FgoP (q.1 i) (q.2.1 i) (q.2.2 i) (q.2.1 i)), va_up q.2.2 i (FgoP (q.1 i) (q.2.1 i) (q.2.2 i) (q.2.2 i)))) nw 0 (Y, P, Q) → ∀ (H : Heap) (locs : List Loc) (ls : Array Slot), XR X G r (xSt f sg L O Ya Pa Qa) H locs → lv_has ls 2 [(0, .ref (xB X + xkey r 0 0)), (1, .int (nI i))] → W p l e { frames := 4, cells := 0, slots := 0, locals := 102 } s m args below meth c H locs 0 0 Q0 (F0 m 2 ls []) := by
    intro k_2
    induction k_2 with
    | zero =>
      intro i Ya Pa Qa hik_2  hsp_2 H locs ls hW hl
      refine lv_iload_n hx hb dX4_moveWalkers_2 rfl (lv_at hl 1 rfl) ?_
      refine lv_aload_n hx hb dX4_moveWalkers_3 rfl (lv_at hl 0 rfl) ?_
      refine r_get hx hb hts hown hK hW (C := RX4) (T := TX4) (xF_street r hr) inlX4 rfl (by decide) 6 (by decide) (xr_street r hr).2.2.2.2.2.2.1 xw_105 rfl (x := nI nw) hw dX4_moveWalkers_4 ?_
      refine lv_icmp_ge (tgt := 25) hx hb dX4_moveWalkers_7 (by decide) (fun c_1 => ?_) (fun c_1 => absurd (xge_refl (by omega)) c_1)
      obtain rfl : Ya = Y' := by (rw [← ho0]) <;> (first | exact congrArg Prod.fst hsp_2 | exact congrArg (fun z => z.2.1) hsp_2 | exact congrArg (fun z => z.2.2) hsp_2)
      obtain rfl : Pa = P' := by (rw [← ho1]) <;> (first | exact congrArg Prod.fst hsp_2 | exact congrArg (fun z => z.2.1) hsp_2 | exact congrArg (fun z => z.2.2) hsp_2)
      obtain rfl : Qa = Q' := by (rw [← ho2]) <;> (first | exact congrArg Prod.fst hsp_2 | exact congrArg (fun z => z.2.1) hsp_2 | exact congrArg (fun z => z.2.2) hsp_2)
      rw [hQ0]
      exact x_vret hx hb hret hlocks hW rfl dX4_moveWalkers_25
    | succ k_2 ih_2 =>
      intro i Ya Pa Qa hik_2  hsp_2 H locs ls hW hl
      refine lv_iload_n hx hb dX4_moveWalkers_2 rfl (lv_at hl 1 rfl) ?_
      refine lv_aload_n hx hb dX4_moveWalkers_3 rfl (lv_at hl 0 rfl) ?_
      refine r_get hx hb hts hown hK hW (C := RX4) (T := TX4) (xF_street r hr) inlX4 rfl (by decide) 6 (by decide) (xr_street r hr).2.2.2.2.2.2.1 xw_105 rfl (x := nI nw) hw dX4_moveWalkers_4 ?_
      refine lv_icmp_ge (tgt := 25) hx hb dX4_moveWalkers_7 (by decide) (fun c_2 => absurd c_2 (nI_ge (by omega) (by omega))) (fun c_2 => ?_)
      refine lv_aload_n hx hb dX4_moveWalkers_10 rfl (lv_at hl 0 rfl) ?_
      refine r_getr (C := RX4) (T := TX4) hx hb hts hown hK hW (xF_street r hr).1 (xF_street r hr).2.1 inlX4 rfl (by decide) 3 (by decide) (xr_street r hr).2.2.2.1 xw_40 rfl dX4_moveWalkers_11 ?_
      refine lv_iload_n hx hb dX4_moveWalkers_14 rfl (lv_at hl 1 rfl) ?_
      refine r_aald hx hb hK hW (xF_walkers r hr).1 (xF_walkers r hr).2 (by decide) 6 rfl i (by omega) (by decide) rfl (xr_walkers r hr i (by omega)) dX4_moveWalkers_15 ?_
      have hW := XR.foc4 hW i
      have hW := XR.foc5 hW i
      have hW := XR.foc6 hW i
      refine x_callV hx hb hml hown hts hK hW hl.1 (c_X5_go l X G (r := r) (i := i) (hr := hr) (hi := (by omega)) (ho0 := rfl) (ho1 := rfl) (ho2 := rfl)) (xF_walker r hr i (by omega)).1 (xF_walker r hr i (by omega)).2.1 (by decide) rfl xw_406 xw_407 xw_408 xw_50 xw_409 hdV_yX5_go ⟨Nat.le_of_ble_eq_true rfl, Nat.le_of_ble_eq_true rfl⟩ rfl (Nat.le_of_ble_eq_true rfl) ⟨Nat.le_refl _, Nat.le_refl _⟩ dX4_moveWalkers_16 (fun H locs hW => ?_)
      have hW : XR X G r (xSt f sg L O (va_up Ya i (FgoW (Ya i) (Pa i) (Qa i))) (va_up Pa i (FgoP (Ya i) (Pa i) (Qa i) (Pa i))) (va_up Qa i (FgoP (Ya i) (Pa i) (Qa i) (Qa i)))) H locs := hW
      refine lv_iinc (v := nI (i + 1)) (lv' := [(1, .int (nI (i + 1))), (0, .ref (xB X + xkey r 0 0))]) hx hb dX4_moveWalkers_19 hl (k := 1) rfl (nI_1 i) (by decide) rfl (fun ls hl => ?_)
      refine lv_goto (tgt := 2) hx hb dX4_moveWalkers_22 (by decide) ?_
      refine ih_2 (i + 1) (va_up Ya i (FgoW (Ya i) (Pa i) (Qa i))) (va_up Pa i (FgoP (Ya i) (Pa i) (Qa i) (Pa i))) (va_up Qa i (FgoP (Ya i) (Pa i) (Qa i) (Qa i))) (by omega)  ?_ H locs ls hW (lv_sub hl [1, 0] rfl)
      rw [← hsp_2]; simp [xloop, xfind, xloop, c_2]
  exact loop_2 nw 0 Y P Q (by omega)  rfl _ _ _ hW (lv_sub hl [1, 0] rfl)
set_option maxHeartbeats 4000000 in
set_option maxRecDepth 100000 in
theorem c_X4_wakeThoseWhoSee (l : Launch) (X : xX) (G : xG) {r : Nat} {f sg : Nat → Int32} {L O Y P Q : Nat → Nat → Int32} {n : Nat} {nw : Nat}  (hr : r < 11) (hn : f 4 = nI n) (hn16 : n ≤ 16) (hw : f 6 = nI nw) (hw8 : nw ≤ 8) {L' : Nat → Nat → Int32} (ho0 : (LSee n nw sg Y L) = L') : XC l yX4_wakeThoseWhoSee cX4_wakeThoseWhoSee 3 none 4 88 0 0 X xsh [.ref (xB X + xkey r 0 0)] 603 603 (xval (xB X) (va_up G r (xSt f sg L O Y P Q))) (xval (xB X) (va_up G r (xSt f sg L' O Y P Q))) none := by
  refine XC.of RX4 "wakeThoseWhoSee" [(0, .ref (xB X + xkey r 0 0))] (by decide) rfl rfl (Nat.le_of_ble_eq_true rfl) rfl ?_
  intro p e s m args below meth c ls hx hb hret hml hts hown hlocks hnm hK hW hl
  have hW : XR X G r (xSt f sg L O Y P Q) s.heap [] := hW
  obtain ⟨Q0, hQ0⟩ : ∃ z, z = MQ below (xQ X xsh 603 (xval (xB X) (va_up G r (xSt f sg L' O Y P Q))) none) args s 0 0 (fun q => xB X ≤ q) := ⟨_, rfl⟩
  rw [← hQ0]
  refine lv_aload_n hx hb dX4_wakeThoseWhoSee_0 rfl (lv_at hl 0 rfl) ?_
  refine lv_iconst (v := 2) hx hb dX4_wakeThoseWhoSee_1 (by decide) ?_
  refine x_callV hx hb hml hown hts hK hW hl.1 (c_X4_lampsThatAre l X G (r := r) (n := n) (d := 2) (hr := hr) (hn := (by assumption)) (hn16 := (by assumption)) (hres := rfl)) (xF_street r hr).1 (xF_street r hr).2.1 (by decide) rfl xw_437 xw_438 xw_439 xw_15 xw_440 hdV_yX4_lampsThatAre ⟨Nat.le_of_ble_eq_true rfl, Nat.le_of_ble_eq_true rfl⟩ rfl (Nat.le_of_ble_eq_true rfl) ⟨Nat.le_refl _, Nat.le_refl _⟩ dX4_wakeThoseWhoSee_2 (fun H locs hW => ?_)
  refine lv_istore_n (lv' := [(1, .int (Fthat n 2 L)), (0, .ref (xB X + xkey r 0 0))]) hx hb dX4_wakeThoseWhoSee_5 rfl hl (by decide) rfl (fun ls hl => ?_)
  refine lv_iconst (v := nI 0) hx hb dX4_wakeThoseWhoSee_6 (by decide) ?_
  refine lv_istore_n (lv' := [(2, .int (nI 0)), (1, .int (Fthat n 2 L)), (0, .ref (xB X + xkey r 0 0))]) hx hb dX4_wakeThoseWhoSee_7 rfl hl (by decide) rfl (fun ls hl => ?_)
  have loop_8 : ∀ (k_8 i : Nat) (La : Nat → Nat → Int32), i + k_8 = n → xloop (fun i (M : Nat → Nat → Int32) => if Fsees nw sg Y (M i) = 0 then M else if Fdue (Fthat n 2 L) i = 0 then (Fspread n sg i 0 (va_up M i (va_up (va_up (va_up (va_up (va_up (M i) 2 2) 4 (sg 2)) 11 1) 5 (-6)) 12 1))).1 else va_up M i (va_up (va_up (va_up (M i) 2 2) 4 (sg 2)) 11 1)) k_8 i La = xloop (fun i (M : Nat → Nat → Int32) => if Fsees nw sg Y (M i) = 0 then M else if Fdue (Fthat n 2 L) i = 0 then (Fspread n sg i 0 (va_up M i (va_up (va_up (va_up (va_up (va_up (M i) 2 2) 4 (sg 2)) 11 1) 5 (-6)) 12 1))).1 else va_up M i (va_up (va_up (va_up (M i) 2 2) 4 (sg 2)) 11 1)) n 0 L → ∀ (H : Heap) (locs : List Loc) (ls : Array Slot), XR X G r (xSt f sg La O Y P Q) H locs → lv_has ls 3 [(0, .ref (xB X + xkey r 0 0)), (1, .int (Fthat n 2 L)), (2, .int (nI i))] → W p l e { frames := 4, cells := 0, slots := 0, locals := 88 } s m args below meth c H locs 0 0 Q0 (F0 m 8 ls []) := by
    intro k_8
    induction k_8 with
    | zero =>
      intro i La hik_8  hsp_8 H locs ls hW hl
      refine lv_iload_n hx hb dX4_wakeThoseWhoSee_8 rfl (lv_at hl 2 rfl) ?_
      refine lv_aload_n hx hb dX4_wakeThoseWhoSee_9 rfl (lv_at hl 0 rfl) ?_
      refine r_get hx hb hts hown hK hW (C := RX4) (T := TX4) (xF_street r hr) inlX4 rfl (by decide) 4 (by decide) (xr_street r hr).2.2.2.2.1 xw_103 rfl (x := nI n) hn dX4_wakeThoseWhoSee_10 ?_
      refine lv_icmp_ge (tgt := 77) hx hb dX4_wakeThoseWhoSee_13 (by decide) (fun c_1 => ?_) (fun c_1 => absurd (xge_refl (by omega)) c_1)
      obtain rfl : La = L' := by (rw [← ho0]) <;> (simpa [LSee, xloop, xfind, c_1] using hsp_8)
      rw [hQ0]
      exact x_vret hx hb hret hlocks hW rfl dX4_wakeThoseWhoSee_77
    | succ k_8 ih_8 =>
      intro i La hik_8  hsp_8 H locs ls hW hl
      refine lv_iload_n hx hb dX4_wakeThoseWhoSee_8 rfl (lv_at hl 2 rfl) ?_
      refine lv_aload_n hx hb dX4_wakeThoseWhoSee_9 rfl (lv_at hl 0 rfl) ?_
      refine r_get hx hb hts hown hK hW (C := RX4) (T := TX4) (xF_street r hr) inlX4 rfl (by decide) 4 (by decide) (xr_street r hr).2.2.2.2.1 xw_103 rfl (x := nI n) hn dX4_wakeThoseWhoSee_10 ?_
      refine lv_icmp_ge (tgt := 77) hx hb dX4_wakeThoseWhoSee_13 (by decide) (fun c_2 => absurd c_2 (nI_ge (by omega) (by omega))) (fun c_2 => ?_)
      refine lv_aload_n hx hb dX4_wakeThoseWhoSee_16 rfl (lv_at hl 0 rfl) ?_
      refine lv_aload_n hx hb dX4_wakeThoseWhoSee_17 rfl (lv_at hl 0 rfl) ?_
      refine r_getr (C := RX4) (T := TX4) hx hb hts hown hK hW (xF_street r hr).1 (xF_street r hr).2.1 inlX4 rfl (by decide) 1 (by decide) (xr_street r hr).2.1 xw_36 rfl dX4_wakeThoseWhoSee_18 ?_
      refine lv_iload_n hx hb dX4_wakeThoseWhoSee_21 rfl (lv_at hl 2 rfl) ?_
      refine r_aald hx hb hK hW (xF_lamps r hr).1 (xF_lamps r hr).2 (by decide) 4 rfl i (by omega) (by decide) rfl (xr_lamps r hr i (by omega)) dX4_wakeThoseWhoSee_22 ?_
      refine x_callV hx hb hml hown hts hK hW hl.1 (c_X4_seesWalker l X G (r := r) (nw := nw) (a := i) (hr := hr) (hw := (by assumption)) (hw8 := (by assumption)) (ha := (by omega)) (hres := rfl)) (xF_street r hr).1 (xF_street r hr).2.1 (by decide) rfl xw_442 xw_443 xw_444 xw_15 xw_445 hdV_yX4_seesWalker ⟨Nat.le_of_ble_eq_true rfl, Nat.le_of_ble_eq_true rfl⟩ rfl (Nat.le_of_ble_eq_true rfl) ⟨Nat.le_refl _, Nat.le_refl _⟩ dX4_wakeThoseWhoSee_23 (fun H locs hW => ?_)
      refine lv_if_ne (tgt := 32) hx hb dX4_wakeThoseWhoSee_26 (by decide) (fun c_3 => ?_) (fun c_3 => ?_)
      · skip
        refine lv_aload_n hx hb dX4_wakeThoseWhoSee_32 rfl (lv_at hl 0 rfl) ?_
        refine r_getr (C := RX4) (T := TX4) hx hb hts hown hK hW (xF_street r hr).1 (xF_street r hr).2.1 inlX4 rfl (by decide) 1 (by decide) (xr_street r hr).2.1 xw_36 rfl dX4_wakeThoseWhoSee_33 ?_
        refine lv_iload_n hx hb dX4_wakeThoseWhoSee_36 rfl (lv_at hl 2 rfl) ?_
        refine r_aald hx hb hK hW (xF_lamps r hr).1 (xF_lamps r hr).2 (by decide) 4 rfl i (by omega) (by decide) rfl (xr_lamps r hr i (by omega)) dX4_wakeThoseWhoSee_37 ?_
        refine lv_aload_n hx hb dX4_wakeThoseWhoSee_38 rfl (lv_at hl 0 rfl) ?_
        refine r_getr (C := RX4) (T := TX4) hx hb hts hown hK hW (xF_street r hr).1 (xF_street r hr).2.1 inlX4 rfl (by decide) 0 (by decide) (xr_street r hr).1 xw_34 rfl dX4_wakeThoseWhoSee_39 ?_
        refine lv_iconst (v := 2) hx hb dX4_wakeThoseWhoSee_42 (by decide) ?_
        refine r_iald hx hb hK hW (N := 6) (xF_sett r hr) 2 (by decide) (by decide) (by decide) (xr_sett r hr 2 (by decide)) (x := sg 2) rfl dX4_wakeThoseWhoSee_43 ?_
        have hW := XR.foc2 hW i
        refine x_callV hx hb hml hown hts hK hW hl.1 (c_X2_wake l X G (r := r) (i := i) (aw := sg 2) (hr := hr) (hi := (by omega)) ) (xF_lamp r hr i (by omega)).1 (xF_lamp r hr i (by omega)).2.1 (by decide) rfl xw_448 xw_362 xw_363 xw_46 xw_364 hdV_yX2_wake ⟨Nat.le_of_ble_eq_true rfl, Nat.le_of_ble_eq_true rfl⟩ rfl (Nat.le_of_ble_eq_true rfl) ⟨Nat.le_refl _, Nat.le_refl _⟩ dX4_wakeThoseWhoSee_44 (fun H locs hW => ?_)
        have hW : XR X G r (xSt f sg (va_up La i (va_up (va_up (va_up (La i) 2 2) 4 (sg 2)) 11 1)) O Y P Q) H locs := hW
        refine lv_iload_n hx hb dX4_wakeThoseWhoSee_47 rfl (lv_at hl 1 rfl) ?_
        refine lv_iload_n hx hb dX4_wakeThoseWhoSee_48 rfl (lv_at hl 2 rfl) ?_
        refine lv_ishr hx hb dX4_wakeThoseWhoSee_49 ?_
        refine lv_iconst (v := 1) hx hb dX4_wakeThoseWhoSee_50 (by decide) ?_
        refine lv_iand hx hb dX4_wakeThoseWhoSee_51 ?_
        refine lv_if_ne (tgt := 71) hx hb dX4_wakeThoseWhoSee_52 (by decide) (fun c_4 => ?_) (fun c_4 => ?_)
        · skip
          refine lv_iinc (v := nI (i + 1)) (lv' := [(2, .int (nI (i + 1))), (0, .ref (xB X + xkey r 0 0)), (1, .int (Fthat n 2 L))]) hx hb dX4_wakeThoseWhoSee_71 hl (k := 2) rfl (nI_1 i) (by decide) rfl (fun ls hl => ?_)
          refine lv_goto (tgt := 8) hx hb dX4_wakeThoseWhoSee_74 (by decide) ?_
          refine ih_8 (i + 1) (va_up La i (va_up (va_up (va_up (La i) 2 2) 4 (sg 2)) 11 1)) (by omega)  ?_ H locs ls hW (lv_sub hl [1, 2, 0] rfl)
          rw [← hsp_8]; simp [xloop, xfind, LSee, Fdue, c_2, c_3, c_4]
        · skip
          refine lv_aload_n hx hb dX4_wakeThoseWhoSee_55 rfl (lv_at hl 0 rfl) ?_
          refine r_getr (C := RX4) (T := TX4) hx hb hts hown hK hW (xF_street r hr).1 (xF_street r hr).2.1 inlX4 rfl (by decide) 1 (by decide) (xr_street r hr).2.1 xw_36 rfl dX4_wakeThoseWhoSee_56 ?_
          refine lv_iload_n hx hb dX4_wakeThoseWhoSee_59 rfl (lv_at hl 2 rfl) ?_
          refine r_aald hx hb hK hW (xF_lamps r hr).1 (xF_lamps r hr).2 (by decide) 4 rfl i (by omega) (by decide) rfl (xr_lamps r hr i (by omega)) dX4_wakeThoseWhoSee_60 ?_
          refine x_callV hx hb hml hown hts hK hW hl.1 (c_X2_takeTurn l X G (r := r) (i := i) (hr := hr) (hi := (by omega)) ) (xF_lamp r hr i (by omega)).1 (xF_lamp r hr i (by omega)).2.1 (by decide) rfl xw_429 xw_430 xw_431 xw_46 xw_432 hdV_yX2_takeTurn ⟨Nat.le_of_ble_eq_true rfl, Nat.le_of_ble_eq_true rfl⟩ rfl (Nat.le_of_ble_eq_true rfl) ⟨Nat.le_refl _, Nat.le_refl _⟩ dX4_wakeThoseWhoSee_61 (fun H locs hW => ?_)
          have hW : XR X G r (xSt f sg (va_up La i (va_up (va_up (va_up (va_up (va_up (La i) 2 2) 4 (sg 2)) 11 1) 5 (-6)) 12 1)) O Y P Q) H locs := hW
          refine lv_aload_n hx hb dX4_wakeThoseWhoSee_64 rfl (lv_at hl 0 rfl) ?_
          refine lv_iload_n hx hb dX4_wakeThoseWhoSee_65 rfl (lv_at hl 2 rfl) ?_
          refine lv_iconst (v := 0) hx hb dX4_wakeThoseWhoSee_66 (by decide) ?_
          refine x_callV hx hb hml hown hts hK hW hl.1 (c_X4_spreadCough l X G (r := r) (n := n) (a := i) (rk := 0) (hr := hr) (hn := (by assumption)) (hn16 := (by assumption)) (ha := (by omega)) (ho0 := rfl) (hres := rfl)) (xF_street r hr).1 (xF_street r hr).2.1 (by decide) rfl xw_341 xw_342 xw_343 xw_15 xw_344 hdV_yX4_spreadCough ⟨Nat.le_of_ble_eq_true rfl, Nat.le_of_ble_eq_true rfl⟩ rfl (Nat.le_of_ble_eq_true rfl) ⟨Nat.le_refl _, Nat.le_refl _⟩ dX4_wakeThoseWhoSee_67 (fun H locs hW => ?_)
          have hW : XR X G r (xSt f sg ((Fspread n sg i 0 (va_up La i (va_up (va_up (va_up (va_up (va_up (La i) 2 2) 4 (sg 2)) 11 1) 5 (-6)) 12 1))).1) O Y P Q) H locs := hW
          refine lv_pop hx hb dX4_wakeThoseWhoSee_70 rfl ?_
          refine lv_iinc (v := nI (i + 1)) (lv' := [(2, .int (nI (i + 1))), (0, .ref (xB X + xkey r 0 0)), (1, .int (Fthat n 2 L))]) hx hb dX4_wakeThoseWhoSee_71 hl (k := 2) rfl (nI_1 i) (by decide) rfl (fun ls hl => ?_)
          refine lv_goto (tgt := 8) hx hb dX4_wakeThoseWhoSee_74 (by decide) ?_
          refine ih_8 (i + 1) ((Fspread n sg i 0 (va_up La i (va_up (va_up (va_up (va_up (va_up (La i) 2 2) 4 (sg 2)) 11 1) 5 (-6)) 12 1))).1) (by omega)  ?_ H locs ls hW (lv_sub hl [1, 2, 0] rfl)
          rw [← hsp_8]; simp [xloop, xfind, LSee, Fdue, c_2, c_3, c_4]
      · skip
        refine lv_goto (tgt := 71) hx hb dX4_wakeThoseWhoSee_29 (by decide) ?_
        refine lv_iinc (v := nI (i + 1)) (lv' := [(2, .int (nI (i + 1))), (0, .ref (xB X + xkey r 0 0)), (1, .int (Fthat n 2 L))]) hx hb dX4_wakeThoseWhoSee_71 hl (k := 2) rfl (nI_1 i) (by decide) rfl (fun ls hl => ?_)
        refine lv_goto (tgt := 8) hx hb dX4_wakeThoseWhoSee_74 (by decide) ?_
        refine ih_8 (i + 1) La (by omega)  ?_ H locs ls hW (lv_sub hl [1, 2, 0] rfl)
        rw [← hsp_8]; simp [xloop, xfind, LSee, Fdue, c_2, c_3]
  exact loop_8 n 0 L (by omega)  rfl _ _ _ hW (lv_sub hl [2, 1, 0] rfl)
set_option maxHeartbeats 4000000 in
set_option maxRecDepth 100000 in
theorem c_X4_fadeLamps (l : Launch) (X : xX) (G : xG) {r : Nat} {f sg : Nat → Int32} {L O Y P Q : Nat → Nat → Int32} {n : Nat}  (hr : r < 11) (hn : f 4 = nI n) (hn16 : n ≤ 16) {L' : Nat → Nat → Int32} (ho0 : (LFade n (sg 3) L) = L') : XC l yX4_fadeLamps cX4_fadeLamps 2 none 1 21 0 0 X xsh [.ref (xB X + xkey r 0 0)] 603 603 (xval (xB X) (va_up G r (xSt f sg L O Y P Q))) (xval (xB X) (va_up G r (xSt f sg L' O Y P Q))) none := by
  refine XC.of RX4 "fadeLamps" [(0, .ref (xB X + xkey r 0 0))] (by decide) rfl rfl (Nat.le_of_ble_eq_true rfl) rfl ?_
  intro p e s m args below meth c ls hx hb hret hml hts hown hlocks hnm hK hW hl
  have hW : XR X G r (xSt f sg L O Y P Q) s.heap [] := hW
  obtain ⟨Q0, hQ0⟩ : ∃ z, z = MQ below (xQ X xsh 603 (xval (xB X) (va_up G r (xSt f sg L' O Y P Q))) none) args s 0 0 (fun q => xB X ≤ q) := ⟨_, rfl⟩
  rw [← hQ0]
  refine lv_iconst (v := nI 0) hx hb dX4_fadeLamps_0 (by decide) ?_
  refine lv_istore_n (lv' := [(1, .int (nI 0)), (0, .ref (xB X + xkey r 0 0))]) hx hb dX4_fadeLamps_1 rfl hl (by decide) rfl (fun ls hl => ?_)
  have loop_2 : ∀ (k_2 i : Nat) (La : Nat → Nat → Int32), i + k_2 = n → xloop (fun i L => va_up L i (Ffade (sg 3) (L i))) k_2 i La = xloop (fun i L => va_up L i (Ffade (sg 3) (L i))) n 0 L → ∀ (H : Heap) (locs : List Loc) (ls : Array Slot), XR X G r (xSt f sg La O Y P Q) H locs → lv_has ls 2 [(0, .ref (xB X + xkey r 0 0)), (1, .int (nI i))] → W p l e { frames := 1, cells := 0, slots := 0, locals := 21 } s m args below meth c H locs 0 0 Q0 (F0 m 2 ls []) := by
    intro k_2
    induction k_2 with
    | zero =>
      intro i La hik_2  hsp_2 H locs ls hW hl
      refine lv_iload_n hx hb dX4_fadeLamps_2 rfl (lv_at hl 1 rfl) ?_
      refine lv_aload_n hx hb dX4_fadeLamps_3 rfl (lv_at hl 0 rfl) ?_
      refine r_get hx hb hts hown hK hW (C := RX4) (T := TX4) (xF_street r hr) inlX4 rfl (by decide) 4 (by decide) (xr_street r hr).2.2.2.2.1 xw_103 rfl (x := nI n) hn dX4_fadeLamps_4 ?_
      refine lv_icmp_ge (tgt := 31) hx hb dX4_fadeLamps_7 (by decide) (fun c_1 => ?_) (fun c_1 => absurd (xge_refl (by omega)) c_1)
      obtain rfl : La = L' := by (rw [← ho0]) <;> (simpa [LFade, xloop, xfind, c_1] using hsp_2)
      rw [hQ0]
      exact x_vret hx hb hret hlocks hW rfl dX4_fadeLamps_31
    | succ k_2 ih_2 =>
      intro i La hik_2  hsp_2 H locs ls hW hl
      refine lv_iload_n hx hb dX4_fadeLamps_2 rfl (lv_at hl 1 rfl) ?_
      refine lv_aload_n hx hb dX4_fadeLamps_3 rfl (lv_at hl 0 rfl) ?_
      refine r_get hx hb hts hown hK hW (C := RX4) (T := TX4) (xF_street r hr) inlX4 rfl (by decide) 4 (by decide) (xr_street r hr).2.2.2.2.1 xw_103 rfl (x := nI n) hn dX4_fadeLamps_4 ?_
      refine lv_icmp_ge (tgt := 31) hx hb dX4_fadeLamps_7 (by decide) (fun c_2 => absurd c_2 (nI_ge (by omega) (by omega))) (fun c_2 => ?_)
      refine lv_aload_n hx hb dX4_fadeLamps_10 rfl (lv_at hl 0 rfl) ?_
      refine r_getr (C := RX4) (T := TX4) hx hb hts hown hK hW (xF_street r hr).1 (xF_street r hr).2.1 inlX4 rfl (by decide) 1 (by decide) (xr_street r hr).2.1 xw_36 rfl dX4_fadeLamps_11 ?_
      refine lv_iload_n hx hb dX4_fadeLamps_14 rfl (lv_at hl 1 rfl) ?_
      refine r_aald hx hb hK hW (xF_lamps r hr).1 (xF_lamps r hr).2 (by decide) 4 rfl i (by omega) (by decide) rfl (xr_lamps r hr i (by omega)) dX4_fadeLamps_15 ?_
      refine lv_aload_n hx hb dX4_fadeLamps_16 rfl (lv_at hl 0 rfl) ?_
      refine r_getr (C := RX4) (T := TX4) hx hb hts hown hK hW (xF_street r hr).1 (xF_street r hr).2.1 inlX4 rfl (by decide) 0 (by decide) (xr_street r hr).1 xw_34 rfl dX4_fadeLamps_17 ?_
      refine lv_iconst (v := 3) hx hb dX4_fadeLamps_20 (by decide) ?_
      refine r_iald hx hb hK hW (N := 6) (xF_sett r hr) 3 (by decide) (by decide) (by decide) (xr_sett r hr 3 (by decide)) (x := sg 3) rfl dX4_fadeLamps_21 ?_
      have hW := XR.foc2 hW i
      refine x_callV hx hb hml hown hts hK hW hl.1 (c_X2_fade l X G (r := r) (i := i) (dim := sg 3) (hr := hr) (hi := (by omega)) (ho0 := rfl)) (xF_lamp r hr i (by omega)).1 (xF_lamp r hr i (by omega)).2.1 (by decide) rfl xw_453 xw_454 xw_455 xw_46 xw_456 hdV_yX2_fade ⟨Nat.le_of_ble_eq_true rfl, Nat.le_of_ble_eq_true rfl⟩ rfl (Nat.le_of_ble_eq_true rfl) ⟨Nat.le_refl _, Nat.le_refl _⟩ dX4_fadeLamps_22 (fun H locs hW => ?_)
      have hW : XR X G r (xSt f sg (va_up La i (Ffade (sg 3) (La i))) O Y P Q) H locs := hW
      refine lv_iinc (v := nI (i + 1)) (lv' := [(1, .int (nI (i + 1))), (0, .ref (xB X + xkey r 0 0))]) hx hb dX4_fadeLamps_25 hl (k := 1) rfl (nI_1 i) (by decide) rfl (fun ls hl => ?_)
      refine lv_goto (tgt := 2) hx hb dX4_fadeLamps_28 (by decide) ?_
      refine ih_2 (i + 1) (va_up La i (Ffade (sg 3) (La i))) (by omega)  ?_ H locs ls hW (lv_sub hl [1, 0] rfl)
      rw [← hsp_2]; simp [xloop, xfind, LFade, c_2]
  exact loop_2 n 0 L (by omega)  rfl _ _ _ hW (lv_sub hl [1, 0] rfl)
set_option maxHeartbeats 4000000 in
set_option maxRecDepth 100000 in
theorem c_X4_isDisturbed (l : Launch) (X : xX) (G : xG) {r : Nat} {f sg : Nat → Int32} {L O Y P Q : Nat → Nat → Int32} {n : Nat} {a : Nat} (hr : r < 11) (hn : f 4 = nI n) (hn16 : n ≤ 16) (ha : a < 8) {res : Int32} (hres : (Fdist2 n (O a 0) L) = res) : XC l yX4_isDisturbed cX4_isDisturbed 3 (some .boolean) 3 63 0 0 X xsh [.ref (xB X + xkey r 0 0), .ref (xB X + xkey r 3 a)] 603 603 (xval (xB X) (va_up G r (xSt f sg L O Y P Q))) (xval (xB X) (va_up G r (xSt f sg L O Y P Q))) (some (.int res)) := by
  refine XC.of RX4 "isDisturbed" [(0, .ref (xB X + xkey r 0 0)), (1, .ref (xB X + xkey r 3 a))] (by decide) rfl rfl (Nat.le_of_ble_eq_true rfl) rfl ?_
  intro p e s m args below meth c ls hx hb hret hml hts hown hlocks hnm hK hW hl
  have hW : XR X G r (xSt f sg L O Y P Q) s.heap [] := hW
  obtain ⟨Q0, hQ0⟩ : ∃ z, z = MQ below (xQ X xsh 603 (xval (xB X) (va_up G r (xSt f sg L O Y P Q))) (some (.int res))) args s 0 0 (fun q => xB X ≤ q) := ⟨_, rfl⟩
  rw [← hQ0]
  refine lv_iconst (v := nI 0) hx hb dX4_isDisturbed_0 (by decide) ?_
  refine lv_istore_n (lv' := [(2, .int (nI 0)), (0, .ref (xB X + xkey r 0 0)), (1, .ref (xB X + xkey r 3 a))]) hx hb dX4_isDisturbed_1 rfl hl (by decide) rfl (fun ls hl => ?_)
  have loop_2 : ∀ (k_2 i : Nat) , i + k_2 = n → xfind (fun i => Fdisturbs (L i) (O a 0)) k_2 i = xfind (fun i => Fdisturbs (L i) (O a 0)) n 0 → ∀ (H : Heap) (locs : List Loc) (ls : Array Slot), XR X G r (xSt f sg L O Y P Q) H locs → lv_has ls 3 [(0, .ref (xB X + xkey r 0 0)), (1, .ref (xB X + xkey r 3 a)), (2, .int (nI i))] → W p l e { frames := 3, cells := 0, slots := 0, locals := 63 } s m args below meth c H locs 0 0 Q0 (F0 m 2 ls []) := by
    intro k_2
    induction k_2 with
    | zero =>
      intro i  hik_2  hsp_2 H locs ls hW hl
      refine lv_iload_n hx hb dX4_isDisturbed_2 rfl (lv_at hl 2 rfl) ?_
      refine lv_aload_n hx hb dX4_isDisturbed_3 rfl (lv_at hl 0 rfl) ?_
      refine r_get hx hb hts hown hK hW (C := RX4) (T := TX4) (xF_street r hr) inlX4 rfl (by decide) 4 (by decide) (xr_street r hr).2.2.2.2.1 xw_103 rfl (x := nI n) hn dX4_isDisturbed_4 ?_
      refine lv_icmp_ge (tgt := 34) hx hb dX4_isDisturbed_7 (by decide) (fun c_1 => ?_) (fun c_1 => absurd (xge_refl (by omega)) c_1)
      refine lv_iconst (v := 0) hx hb dX4_isDisturbed_34 (by decide) ?_
      obtain rfl : 0 = res := by (rw [← hres]) <;> (exact hsp_2)
      rw [hQ0]
      exact x_iret hx hb hret hlocks rfl hW rfl dX4_isDisturbed_35
    | succ k_2 ih_2 =>
      intro i  hik_2  hsp_2 H locs ls hW hl
      refine lv_iload_n hx hb dX4_isDisturbed_2 rfl (lv_at hl 2 rfl) ?_
      refine lv_aload_n hx hb dX4_isDisturbed_3 rfl (lv_at hl 0 rfl) ?_
      refine r_get hx hb hts hown hK hW (C := RX4) (T := TX4) (xF_street r hr) inlX4 rfl (by decide) 4 (by decide) (xr_street r hr).2.2.2.2.1 xw_103 rfl (x := nI n) hn dX4_isDisturbed_4 ?_
      refine lv_icmp_ge (tgt := 34) hx hb dX4_isDisturbed_7 (by decide) (fun c_2 => absurd c_2 (nI_ge (by omega) (by omega))) (fun c_2 => ?_)
      refine lv_aload_n hx hb dX4_isDisturbed_10 rfl (lv_at hl 0 rfl) ?_
      refine r_getr (C := RX4) (T := TX4) hx hb hts hown hK hW (xF_street r hr).1 (xF_street r hr).2.1 inlX4 rfl (by decide) 1 (by decide) (xr_street r hr).2.1 xw_36 rfl dX4_isDisturbed_11 ?_
      refine lv_iload_n hx hb dX4_isDisturbed_14 rfl (lv_at hl 2 rfl) ?_
      refine r_aald hx hb hK hW (xF_lamps r hr).1 (xF_lamps r hr).2 (by decide) 4 rfl i (by omega) (by decide) rfl (xr_lamps r hr i (by omega)) dX4_isDisturbed_15 ?_
      refine lv_aload_n hx hb dX4_isDisturbed_16 rfl (lv_at hl 1 rfl) ?_
      refine r_get hx hb hts hown hK hW (C := RX1) (T := TX1) (xF_house r hr a ha) inlX1 rfl (by decide) 0 (by decide) (xr_house r hr a ha 0 (by decide)) xw_485 rfl (x := O a 0) rfl dX4_isDisturbed_17 ?_
      have hW := XR.foc2 hW i
      refine x_callV hx hb hml hown hts hK hW hl.1 (c_X2_disturbs l X G (r := r) (i := i) (x := O a 0) (hr := hr) (hi := (by omega)) (hres := rfl)) (xF_lamp r hr i (by omega)).1 (xF_lamp r hr i (by omega)).2.1 (by decide) rfl xw_486 xw_487 xw_488 xw_46 xw_489 hdV_yX2_disturbs ⟨Nat.le_of_ble_eq_true rfl, Nat.le_of_ble_eq_true rfl⟩ rfl (Nat.le_of_ble_eq_true rfl) ⟨Nat.le_refl _, Nat.le_refl _⟩ dX4_isDisturbed_20 (fun H locs hW => ?_)
      have hW : XR X G r (xSt f sg L O Y P Q) H locs := XR.unf2 hW
      refine lv_if_eq (tgt := 28) hx hb dX4_isDisturbed_23 (by decide) (fun c_3 => ?_) (fun c_3 => ?_)
      · skip
        refine lv_iinc (v := nI (i + 1)) (lv' := [(2, .int (nI (i + 1))), (0, .ref (xB X + xkey r 0 0)), (1, .ref (xB X + xkey r 3 a))]) hx hb dX4_isDisturbed_28 hl (k := 2) rfl (nI_1 i) (by decide) rfl (fun ls hl => ?_)
        refine lv_goto (tgt := 2) hx hb dX4_isDisturbed_31 (by decide) ?_
        refine ih_2 (i + 1)  (by omega)  ?_ H locs ls hW (lv_sub hl [1, 2, 0] rfl)
        rw [← hsp_2]; simp [xloop, xfind, Fdist2, c_2, c_3]
      · skip
        refine lv_iconst (v := 1) hx hb dX4_isDisturbed_26 (by decide) ?_
        obtain rfl : 1 = res := by (rw [← hres]) <;> (show _ = xfind _ n 0; rw [← hsp_2]; simp [xfind, c_2, c_3])
        rw [hQ0]
        exact x_iret hx hb hret hlocks rfl hW rfl dX4_isDisturbed_27
  exact loop_2 n 0  (by omega)  rfl _ _ _ hW (lv_sub hl [1, 2, 0] rfl)
set_option maxHeartbeats 4000000 in
set_option maxRecDepth 100000 in
theorem c_X4_blameNearest (l : Launch) (X : xX) (G : xG) {r : Nat} {f sg : Nat → Int32} {L O Y P Q : Nat → Nat → Int32} {n : Nat} {x : Int32} (hr : r < 11) (hn : f 4 = nI n) (hn16 : n ≤ 16) {L' : Nat → Nat → Int32} (ho0 : (LBlame n x L) = L') : XC l yX4_blameNearest cX4_blameNearest 4 none 2 42 0 0 X xsh [.ref (xB X + xkey r 0 0), .int x] 603 603 (xval (xB X) (va_up G r (xSt f sg L O Y P Q))) (xval (xB X) (va_up G r (xSt f sg L' O Y P Q))) none := by
  refine XC.of RX4 "blameNearest" [(0, .ref (xB X + xkey r 0 0)), (1, .int x)] (by decide) rfl rfl (Nat.le_of_ble_eq_true rfl) rfl ?_
  intro p e s m args below meth c ls hx hb hret hml hts hown hlocks hnm hK hW hl
  have hW : XR X G r (xSt f sg L O Y P Q) s.heap [] := hW
  obtain ⟨Q0, hQ0⟩ : ∃ z, z = MQ below (xQ X xsh 603 (xval (xB X) (va_up G r (xSt f sg L' O Y P Q))) none) args s 0 0 (fun q => xB X ≤ q) := ⟨_, rfl⟩
  rw [← hQ0]
  refine lv_aload_n hx hb dX4_blameNearest_0 rfl (lv_at hl 0 rfl) ?_
  refine r_get hx hb hts hown hK hW (C := RX4) (T := TX4) (xF_street r hr) inlX4 rfl (by decide) 4 (by decide) (xr_street r hr).2.2.2.2.1 xw_103 rfl (x := nI n) hn dX4_blameNearest_1 ?_
  refine lv_if_ne (tgt := 8) hx hb dX4_blameNearest_4 (by decide) (fun c_1 => ?_) (fun c_1 => ?_)
  · skip
    have hn1 : 1 ≤ n := xn1 c_1
    refine lv_aload_n hx hb dX4_blameNearest_8 rfl (lv_at hl 0 rfl) ?_
    refine r_getr (C := RX4) (T := TX4) hx hb hts hown hK hW (xF_street r hr).1 (xF_street r hr).2.1 inlX4 rfl (by decide) 1 (by decide) (xr_street r hr).2.1 xw_36 rfl dX4_blameNearest_9 ?_
    refine lv_iconst (v := 0) hx hb dX4_blameNearest_12 (by decide) ?_
    refine r_aald hx hb hK hW (xF_lamps r hr).1 (xF_lamps r hr).2 (by decide) 4 rfl 0 (by decide) (by decide) (by decide) (xr_lamps r hr 0 (by decide)) dX4_blameNearest_13 ?_
    refine lv_astore_n (lv' := [(2, .ref (xB X + xkey r 2 0)), (0, .ref (xB X + xkey r 0 0)), (1, .int x)]) hx hb dX4_blameNearest_14 rfl hl (by decide) rfl (fun ls hl => ?_)
    refine lv_iconst (v := nI 1) hx hb dX4_blameNearest_15 (by decide) ?_
    refine lv_istore_n (lv' := [(3, .int (nI 1)), (2, .ref (xB X + xkey r 2 0)), (0, .ref (xB X + xkey r 0 0)), (1, .int x)]) hx hb dX4_blameNearest_16 rfl hl (by decide) rfl (fun ls hl => ?_)
    have loop_17 : ∀ (k_17 i : Nat) (b : Nat), i + k_17 = n → b < 16 → xloop (fun i b => if Fdist (L i) x < Fdist (L b) x then i else b) k_17 i b = xloop (fun i b => if Fdist (L i) x < Fdist (L b) x then i else b) (n - 1) 1 0 → ∀ (H : Heap) (locs : List Loc) (ls : Array Slot), XR X G r (xSt f sg L O Y P Q) H locs → lv_has ls 4 [(0, .ref (xB X + xkey r 0 0)), (1, .int x), (2, .ref (xB X + xkey r 2 b)), (3, .int (nI i))] → W p l e { frames := 2, cells := 0, slots := 0, locals := 42 } s m args below meth c H locs 0 0 Q0 (F0 m 17 ls []) := by
      intro k_17
      induction k_17 with
      | zero =>
        intro i b hik_17 hv0_17 hsp_17 H locs ls hW hl
        refine lv_iload_n hx hb dX4_blameNearest_17 rfl (lv_at hl 3 rfl) ?_
        refine lv_aload_n hx hb dX4_blameNearest_18 rfl (lv_at hl 0 rfl) ?_
        refine r_get hx hb hts hown hK hW (C := RX4) (T := TX4) (xF_street r hr) inlX4 rfl (by decide) 4 (by decide) (xr_street r hr).2.2.2.2.1 xw_103 rfl (x := nI n) hn dX4_blameNearest_19 ?_
        refine lv_icmp_ge (tgt := 56) hx hb dX4_blameNearest_22 (by decide) (fun c_2 => ?_) (fun c_2 => absurd (xge_refl (by omega)) c_2)
        refine lv_aload_n hx hb dX4_blameNearest_56 rfl (lv_at hl 2 rfl) ?_
        refine lv_dup hx hb dX4_blameNearest_57 rfl ?_
        refine r_get hx hb hts hown hK hW (C := RX2) (T := TX2) (xF_lamp r hr b hv0_17) inlX2 rfl (by decide) 10 (by decide) (xr_lamp r hr b hv0_17 10 (by decide)) xw_480 rfl (x := L b 10) rfl dX4_blameNearest_58 ?_
        refine lv_iconst (v := 1) hx hb dX4_blameNearest_61 (by decide) ?_
        refine lv_iadd hx hb dX4_blameNearest_62 ?_
        have hW := XR.foc2 hW b
        refine r_put hx hb hts hown hK hW (C := RX2) (T := TX2) (xF_lamp r hr b hv0_17) inlX2 tyX2 tyX2_ok nmX2 rfl (by decide) 10 (by decide) (xr_lamp r hr b hv0_17 10 (by decide)) xw_480 rfl rfl rfl rfl xSt2f dX4_blameNearest_63 (fun H locs hW => ?_)
        obtain rfl : (va_up L b (va_up (L b) 10 ((L b 10) + 1))) = L' := by (rw [← ho0]) <;> (have hb9 : b = Fnear n x L := hsp_17; simp [LBlame, c_1, ← hb9])
        rw [hQ0]
        exact x_vret hx hb hret hlocks hW rfl dX4_blameNearest_66
      | succ k_17 ih_17 =>
        intro i b hik_17 hv0_17 hsp_17 H locs ls hW hl
        refine lv_iload_n hx hb dX4_blameNearest_17 rfl (lv_at hl 3 rfl) ?_
        refine lv_aload_n hx hb dX4_blameNearest_18 rfl (lv_at hl 0 rfl) ?_
        refine r_get hx hb hts hown hK hW (C := RX4) (T := TX4) (xF_street r hr) inlX4 rfl (by decide) 4 (by decide) (xr_street r hr).2.2.2.2.1 xw_103 rfl (x := nI n) hn dX4_blameNearest_19 ?_
        refine lv_icmp_ge (tgt := 56) hx hb dX4_blameNearest_22 (by decide) (fun c_3 => absurd c_3 (nI_ge (by omega) (by omega))) (fun c_3 => ?_)
        refine lv_aload_n hx hb dX4_blameNearest_25 rfl (lv_at hl 0 rfl) ?_
        refine r_getr (C := RX4) (T := TX4) hx hb hts hown hK hW (xF_street r hr).1 (xF_street r hr).2.1 inlX4 rfl (by decide) 1 (by decide) (xr_street r hr).2.1 xw_36 rfl dX4_blameNearest_26 ?_
        refine lv_iload_n hx hb dX4_blameNearest_29 rfl (lv_at hl 3 rfl) ?_
        refine r_aald hx hb hK hW (xF_lamps r hr).1 (xF_lamps r hr).2 (by decide) 4 rfl i (by omega) (by decide) rfl (xr_lamps r hr i (by omega)) dX4_blameNearest_30 ?_
        refine lv_iload_n hx hb dX4_blameNearest_31 rfl (lv_at hl 1 rfl) ?_
        have hW := XR.foc2 hW i
        refine x_callV hx hb hml hown hts hK hW hl.1 (c_X2_distanceTo l X G (r := r) (i := i) (x := x) (hr := hr) (hi := (by omega)) (hres := rfl)) (xF_lamp r hr i (by omega)).1 (xF_lamp r hr i (by omega)).2.1 (by decide) rfl xw_350 xw_351 xw_352 xw_46 xw_353 hdV_yX2_distanceTo ⟨Nat.le_of_ble_eq_true rfl, Nat.le_of_ble_eq_true rfl⟩ rfl (Nat.le_of_ble_eq_true rfl) ⟨Nat.le_refl _, Nat.le_refl _⟩ dX4_blameNearest_32 (fun H locs hW => ?_)
        have hW : XR X G r (xSt f sg L O Y P Q) H locs := XR.unf2 hW
        refine lv_aload_n hx hb dX4_blameNearest_35 rfl (lv_at hl 2 rfl) ?_
        refine lv_iload_n hx hb dX4_blameNearest_36 rfl (lv_at hl 1 rfl) ?_
        have hW := XR.foc2 hW b
        refine x_callV hx hb hml hown hts hK hW hl.1 (c_X2_distanceTo l X G (r := r) (i := b) (x := x) (hr := hr) (hi := hv0_17) (hres := rfl)) (xF_lamp r hr b hv0_17).1 (xF_lamp r hr b hv0_17).2.1 (by decide) rfl xw_350 xw_351 xw_352 xw_46 xw_353 hdV_yX2_distanceTo ⟨Nat.le_of_ble_eq_true rfl, Nat.le_of_ble_eq_true rfl⟩ rfl (Nat.le_of_ble_eq_true rfl) ⟨Nat.le_refl _, Nat.le_refl _⟩ dX4_blameNearest_37 (fun H locs hW => ?_)
        have hW : XR X G r (xSt f sg L O Y P Q) H locs := XR.unf2 hW
        refine lv_icmp_ge (tgt := 50) hx hb dX4_blameNearest_40 (by decide) (fun c_4 => ?_) (fun c_4 => ?_)
        · skip
          refine lv_iinc (v := nI (i + 1)) (lv' := [(3, .int (nI (i + 1))), (0, .ref (xB X + xkey r 0 0)), (1, .int x), (2, .ref (xB X + xkey r 2 b))]) hx hb dX4_blameNearest_50 hl (k := 3) rfl (nI_1 i) (by decide) rfl (fun ls hl => ?_)
          refine lv_goto (tgt := 17) hx hb dX4_blameNearest_53 (by decide) ?_
          refine ih_17 (i + 1) b (by omega) (by omega) ?_ H locs ls hW (lv_sub hl [1, 2, 3, 0] rfl)
          rw [← hsp_17]; simp [xloop, xfind, LBlame, c_1, c_3, c_4, Int32.not_lt.mpr c_4]
        · skip
          refine lv_aload_n hx hb dX4_blameNearest_43 rfl (lv_at hl 0 rfl) ?_
          refine r_getr (C := RX4) (T := TX4) hx hb hts hown hK hW (xF_street r hr).1 (xF_street r hr).2.1 inlX4 rfl (by decide) 1 (by decide) (xr_street r hr).2.1 xw_36 rfl dX4_blameNearest_44 ?_
          refine lv_iload_n hx hb dX4_blameNearest_47 rfl (lv_at hl 3 rfl) ?_
          refine r_aald hx hb hK hW (xF_lamps r hr).1 (xF_lamps r hr).2 (by decide) 4 rfl i (by omega) (by decide) rfl (xr_lamps r hr i (by omega)) dX4_blameNearest_48 ?_
          refine lv_astore_n (lv' := [(2, .ref (xB X + xkey r 2 i)), (0, .ref (xB X + xkey r 0 0)), (1, .int x), (3, .int (nI i))]) hx hb dX4_blameNearest_49 rfl hl (by decide) rfl (fun ls hl => ?_)
          refine lv_iinc (v := nI (i + 1)) (lv' := [(3, .int (nI (i + 1))), (2, .ref (xB X + xkey r 2 i)), (0, .ref (xB X + xkey r 0 0)), (1, .int x)]) hx hb dX4_blameNearest_50 hl (k := 3) rfl (nI_1 i) (by decide) rfl (fun ls hl => ?_)
          refine lv_goto (tgt := 17) hx hb dX4_blameNearest_53 (by decide) ?_
          refine ih_17 (i + 1) i (by omega) (by omega) ?_ H locs ls hW (lv_sub hl [2, 3, 1, 0] rfl)
          rw [← hsp_17]; simp [xloop, xfind, LBlame, c_1, c_3, c_4, Int32.not_le.mp c_4]
    exact loop_17 (n - 1) 1 0 (by omega) (by decide) rfl _ _ _ hW (lv_sub hl [2, 3, 1, 0] rfl)
  · skip
    obtain rfl : L = L' := by (rw [← ho0]) <;> (simp [LBlame, c_1])
    rw [hQ0]
    exact x_vret hx hb hret hlocks hW rfl dX4_blameNearest_7
set_option maxHeartbeats 4000000 in
set_option maxRecDepth 100000 in
theorem c_X4_tally (l : Launch) (X : xX) (G : xG) {r : Nat} {f sg : Nat → Int32} {L O Y P Q : Nat → Nat → Int32} {n : Nat} {nh : Nat} {nw : Nat}  (hr : r < 11) (hn : f 4 = nI n) (hn16 : n ≤ 16) (hh : f 5 = nI nh) (hh8 : nh ≤ 8) (hw : f 6 = nI nw) (hw8 : nw ≤ 8) {L' : Nat → Nat → Int32} (ho0 : ((Fdark n nw (LUse n L) Y).1) = L') {O' : Nat → Nat → Int32} (ho1 : (ODist n nh (Fdark n nw (LUse n L) Y).1 O) = O') {Y' : Nat → Nat → Int32} (ho2 : ((Fdark n nw (LUse n L) Y).2) = Y') : XC l yX4_tally cX4_tally 3 none 4 86 0 0 X xsh [.ref (xB X + xkey r 0 0)] 603 603 (xval (xB X) (va_up G r (xSt f sg L O Y P Q))) (xval (xB X) (va_up G r (xSt f sg L' O' Y' P Q))) none := by
  refine XC.of RX4 "tally" [(0, .ref (xB X + xkey r 0 0))] (by decide) rfl rfl (Nat.le_of_ble_eq_true rfl) rfl ?_
  intro p e s m args below meth c ls hx hb hret hml hts hown hlocks hnm hK hW hl
  have hW : XR X G r (xSt f sg L O Y P Q) s.heap [] := hW
  obtain ⟨Q0, hQ0⟩ : ∃ z, z = MQ below (xQ X xsh 603 (xval (xB X) (va_up G r (xSt f sg L' O' Y' P Q))) none) args s 0 0 (fun q => xB X ≤ q) := ⟨_, rfl⟩
  rw [← hQ0]
  refine lv_iconst (v := nI 0) hx hb dX4_tally_0 (by decide) ?_
  refine lv_istore_n (lv' := [(1, .int (nI 0)), (0, .ref (xB X + xkey r 0 0))]) hx hb dX4_tally_1 rfl hl (by decide) rfl (fun ls hl => ?_)
  have loop_2 : ∀ (k_2 i : Nat) (La : Nat → Nat → Int32), i + k_2 = n → xloop (fun i L => va_up L i (Fuse (L i))) k_2 i La = xloop (fun i L => va_up L i (Fuse (L i))) n 0 L → ∀ (H : Heap) (locs : List Loc) (ls : Array Slot), XR X G r (xSt f sg La O Y P Q) H locs → lv_has ls 3 [(0, .ref (xB X + xkey r 0 0)), (1, .int (nI i))] → W p l e { frames := 4, cells := 0, slots := 0, locals := 86 } s m args below meth c H locs 0 0 Q0 (F0 m 2 ls []) := by
    intro k_2
    induction k_2 with
    | zero =>
      intro i La hik_2  hsp_2 H locs ls hW hl
      refine lv_iload_n hx hb dX4_tally_2 rfl (lv_at hl 1 rfl) ?_
      refine lv_aload_n hx hb dX4_tally_3 rfl (lv_at hl 0 rfl) ?_
      refine r_get hx hb hts hown hK hW (C := RX4) (T := TX4) (xF_street r hr) inlX4 rfl (by decide) 4 (by decide) (xr_street r hr).2.2.2.2.1 xw_103 rfl (x := nI n) hn dX4_tally_4 ?_
      refine lv_icmp_ge (tgt := 25) hx hb dX4_tally_7 (by decide) (fun c_1 => ?_) (fun c_1 => absurd (xge_refl (by omega)) c_1)
      refine lv_iconst (v := nI 0) hx hb dX4_tally_25 (by decide) ?_
      refine lv_istore_n (lv' := [(1, .int (nI 0)), (0, .ref (xB X + xkey r 0 0))]) hx hb dX4_tally_26 rfl hl (by decide) rfl (fun ls hl => ?_)
      have loop_27 : ∀ (k_27 i : Nat) (Lb : Nat → Nat → Int32) (Ya : Nat → Nat → Int32), i + k_27 = nw → xloop (fun w (q : (Nat → Nat → Int32) × (Nat → Nat → Int32)) => if q.2 w 5 = 0 then (if Flit n (q.2 w 3) q.1 = 0 then (LBlame n (q.2 w 3) q.1, va_up q.2 w (va_up (q.2 w) 7 (q.2 w 7 + 1))) else q) else q) k_27 i (Lb, Ya) = xloop (fun w (q : (Nat → Nat → Int32) × (Nat → Nat → Int32)) => if q.2 w 5 = 0 then (if Flit n (q.2 w 3) q.1 = 0 then (LBlame n (q.2 w 3) q.1, va_up q.2 w (va_up (q.2 w) 7 (q.2 w 7 + 1))) else q) else q) nw 0 (La, Y) → ∀ (H : Heap) (locs : List Loc) (ls : Array Slot), XR X G r (xSt f sg Lb O Ya P Q) H locs → lv_has ls 3 [(0, .ref (xB X + xkey r 0 0)), (1, .int (nI i))] → W p l e { frames := 4, cells := 0, slots := 0, locals := 86 } s m args below meth c H locs 0 0 Q0 (F0 m 27 ls []) := by
        intro k_27
        induction k_27 with
        | zero =>
          intro i Lb Ya hik_27  hsp_27 H locs ls hW hl
          refine lv_iload_n hx hb dX4_tally_27 rfl (lv_at hl 1 rfl) ?_
          refine lv_aload_n hx hb dX4_tally_28 rfl (lv_at hl 0 rfl) ?_
          refine r_get hx hb hts hown hK hW (C := RX4) (T := TX4) (xF_street r hr) inlX4 rfl (by decide) 6 (by decide) (xr_street r hr).2.2.2.2.2.2.1 xw_105 rfl (x := nI nw) hw dX4_tally_29 ?_
          refine lv_icmp_ge (tgt := 84) hx hb dX4_tally_32 (by decide) (fun c_2 => ?_) (fun c_2 => absurd (xge_refl (by omega)) c_2)
          refine lv_iconst (v := nI 0) hx hb dX4_tally_84 (by decide) ?_
          refine lv_istore_n (lv' := [(1, .int (nI 0)), (0, .ref (xB X + xkey r 0 0))]) hx hb dX4_tally_85 rfl hl (by decide) rfl (fun ls hl => ?_)
          have loop_86 : ∀ (k_86 i : Nat) (Oa : Nat → Nat → Int32), i + k_86 = nh → xloop (fun h (U : Nat → Nat → Int32) => if Fdist2 n (U h 0) Lb = 0 then U else va_up U h (va_up (U h) 1 (U h 1 + 1))) k_86 i Oa = xloop (fun h (U : Nat → Nat → Int32) => if Fdist2 n (U h 0) Lb = 0 then U else va_up U h (va_up (U h) 1 (U h 1 + 1))) nh 0 O → ∀ (H : Heap) (locs : List Loc) (ls : Array Slot), XR X G r (xSt f sg Lb Oa Ya P Q) H locs → lv_has ls 3 [(0, .ref (xB X + xkey r 0 0)), (1, .int (nI i))] → W p l e { frames := 4, cells := 0, slots := 0, locals := 86 } s m args below meth c H locs 0 0 Q0 (F0 m 86 ls []) := by
            intro k_86
            induction k_86 with
            | zero =>
              intro i Oa hik_86  hsp_86 H locs ls hW hl
              refine lv_iload_n hx hb dX4_tally_86 rfl (lv_at hl 1 rfl) ?_
              refine lv_aload_n hx hb dX4_tally_87 rfl (lv_at hl 0 rfl) ?_
              refine r_get hx hb hts hown hK hW (C := RX4) (T := TX4) (xF_street r hr) inlX4 rfl (by decide) 5 (by decide) (xr_street r hr).2.2.2.2.2.1 xw_104 rfl (x := nI nh) hh dX4_tally_88 ?_
              refine lv_icmp_ge (tgt := 128) hx hb dX4_tally_91 (by decide) (fun c_3 => ?_) (fun c_3 => absurd (xge_refl (by omega)) c_3)
              obtain rfl : Lb = L' := by (rw [← ho0]) <;> (have e1 : La = LUse n L := hsp_2; have e2 : (Lb, Ya) = Fdark n nw La Y := hsp_27; first | (rw [← e1, ← e2]; exact hsp_86) | rw [← e1, ← e2])
              obtain rfl : Oa = O' := by (rw [← ho1]) <;> (have e1 : La = LUse n L := hsp_2; have e2 : (Lb, Ya) = Fdark n nw La Y := hsp_27; first | (rw [← e1, ← e2]; exact hsp_86) | rw [← e1, ← e2])
              obtain rfl : Ya = Y' := by (rw [← ho2]) <;> (have e1 : La = LUse n L := hsp_2; have e2 : (Lb, Ya) = Fdark n nw La Y := hsp_27; first | (rw [← e1, ← e2]; exact hsp_86) | rw [← e1, ← e2])
              rw [hQ0]
              exact x_vret hx hb hret hlocks hW rfl dX4_tally_128
            | succ k_86 ih_86 =>
              intro i Oa hik_86  hsp_86 H locs ls hW hl
              refine lv_iload_n hx hb dX4_tally_86 rfl (lv_at hl 1 rfl) ?_
              refine lv_aload_n hx hb dX4_tally_87 rfl (lv_at hl 0 rfl) ?_
              refine r_get hx hb hts hown hK hW (C := RX4) (T := TX4) (xF_street r hr) inlX4 rfl (by decide) 5 (by decide) (xr_street r hr).2.2.2.2.2.1 xw_104 rfl (x := nI nh) hh dX4_tally_88 ?_
              refine lv_icmp_ge (tgt := 128) hx hb dX4_tally_91 (by decide) (fun c_4 => absurd c_4 (nI_ge (by omega) (by omega))) (fun c_4 => ?_)
              refine lv_aload_n hx hb dX4_tally_94 rfl (lv_at hl 0 rfl) ?_
              refine lv_aload_n hx hb dX4_tally_95 rfl (lv_at hl 0 rfl) ?_
              refine r_getr (C := RX4) (T := TX4) hx hb hts hown hK hW (xF_street r hr).1 (xF_street r hr).2.1 inlX4 rfl (by decide) 2 (by decide) (xr_street r hr).2.2.1 xw_38 rfl dX4_tally_96 ?_
              refine lv_iload_n hx hb dX4_tally_99 rfl (lv_at hl 1 rfl) ?_
              refine r_aald hx hb hK hW (xF_houses r hr).1 (xF_houses r hr).2 (by decide) 5 rfl i (by omega) (by decide) rfl (xr_houses r hr i (by omega)) dX4_tally_100 ?_
              refine x_callV hx hb hml hown hts hK hW hl.1 (c_X4_isDisturbed l X G (r := r) (n := n) (a := i) (hr := hr) (hn := (by assumption)) (hn16 := (by assumption)) (ha := (by omega)) (hres := rfl)) (xF_street r hr).1 (xF_street r hr).2.1 (by decide) rfl xw_481 xw_482 xw_483 xw_15 xw_484 hdV_yX4_isDisturbed ⟨Nat.le_of_ble_eq_true rfl, Nat.le_of_ble_eq_true rfl⟩ rfl (Nat.le_of_ble_eq_true rfl) ⟨Nat.le_refl _, Nat.le_refl _⟩ dX4_tally_101 (fun H locs hW => ?_)
              refine lv_if_eq (tgt := 122) hx hb dX4_tally_104 (by decide) (fun c_5 => ?_) (fun c_5 => ?_)
              · skip
                refine lv_iinc (v := nI (i + 1)) (lv' := [(1, .int (nI (i + 1))), (0, .ref (xB X + xkey r 0 0))]) hx hb dX4_tally_122 hl (k := 1) rfl (nI_1 i) (by decide) rfl (fun ls hl => ?_)
                refine lv_goto (tgt := 86) hx hb dX4_tally_125 (by decide) ?_
                refine ih_86 (i + 1) Oa (by omega)  ?_ H locs ls hW (lv_sub hl [1, 0] rfl)
                rw [← hsp_86]; simp [xloop, xfind, xloop, c_1, c_2, c_4, c_5]
              · skip
                refine lv_aload_n hx hb dX4_tally_107 rfl (lv_at hl 0 rfl) ?_
                refine r_getr (C := RX4) (T := TX4) hx hb hts hown hK hW (xF_street r hr).1 (xF_street r hr).2.1 inlX4 rfl (by decide) 2 (by decide) (xr_street r hr).2.2.1 xw_38 rfl dX4_tally_108 ?_
                refine lv_iload_n hx hb dX4_tally_111 rfl (lv_at hl 1 rfl) ?_
                refine r_aald hx hb hK hW (xF_houses r hr).1 (xF_houses r hr).2 (by decide) 5 rfl i (by omega) (by decide) rfl (xr_houses r hr i (by omega)) dX4_tally_112 ?_
                refine lv_dup hx hb dX4_tally_113 rfl ?_
                refine r_get hx hb hts hown hK hW (C := RX1) (T := TX1) (xF_house r hr i (by omega)) inlX1 rfl (by decide) 1 (by decide) (xr_house r hr i (by omega) 1 (by decide)) xw_462 rfl (x := Oa i 1) rfl dX4_tally_114 ?_
                refine lv_iconst (v := 1) hx hb dX4_tally_117 (by decide) ?_
                refine lv_iadd hx hb dX4_tally_118 ?_
                have hW := XR.foc3 hW i
                refine r_put hx hb hts hown hK hW (C := RX1) (T := TX1) (xF_house r hr i (by omega)) inlX1 tyX1 tyX1_ok nmX1 rfl (by decide) 1 (by decide) (xr_house r hr i (by omega) 1 (by decide)) xw_462 rfl rfl rfl rfl xSt3f dX4_tally_119 (fun H locs hW => ?_)
                refine lv_iinc (v := nI (i + 1)) (lv' := [(1, .int (nI (i + 1))), (0, .ref (xB X + xkey r 0 0))]) hx hb dX4_tally_122 hl (k := 1) rfl (nI_1 i) (by decide) rfl (fun ls hl => ?_)
                refine lv_goto (tgt := 86) hx hb dX4_tally_125 (by decide) ?_
                refine ih_86 (i + 1) (va_up Oa i (va_up (Oa i) 1 ((Oa i 1) + 1))) (by omega)  ?_ H locs ls hW (lv_sub hl [1, 0] rfl)
                rw [← hsp_86]; simp [xloop, xfind, xloop, c_1, c_2, c_4, c_5]
          exact loop_86 nh 0 O (by omega)  rfl _ _ _ hW (lv_sub hl [1, 0] rfl)
        | succ k_27 ih_27 =>
          intro i Lb Ya hik_27  hsp_27 H locs ls hW hl
          refine lv_iload_n hx hb dX4_tally_27 rfl (lv_at hl 1 rfl) ?_
          refine lv_aload_n hx hb dX4_tally_28 rfl (lv_at hl 0 rfl) ?_
          refine r_get hx hb hts hown hK hW (C := RX4) (T := TX4) (xF_street r hr) inlX4 rfl (by decide) 6 (by decide) (xr_street r hr).2.2.2.2.2.2.1 xw_105 rfl (x := nI nw) hw dX4_tally_29 ?_
          refine lv_icmp_ge (tgt := 84) hx hb dX4_tally_32 (by decide) (fun c_6 => absurd c_6 (nI_ge (by omega) (by omega))) (fun c_6 => ?_)
          refine lv_aload_n hx hb dX4_tally_35 rfl (lv_at hl 0 rfl) ?_
          refine r_getr (C := RX4) (T := TX4) hx hb hts hown hK hW (xF_street r hr).1 (xF_street r hr).2.1 inlX4 rfl (by decide) 3 (by decide) (xr_street r hr).2.2.2.1 xw_40 rfl dX4_tally_36 ?_
          refine lv_iload_n hx hb dX4_tally_39 rfl (lv_at hl 1 rfl) ?_
          refine r_aald hx hb hK hW (xF_walkers r hr).1 (xF_walkers r hr).2 (by decide) 6 rfl i (by omega) (by decide) rfl (xr_walkers r hr i (by omega)) dX4_tally_40 ?_
          refine lv_astore_n (lv' := [(2, .ref (xB X + xkey r 4 i)), (0, .ref (xB X + xkey r 0 0)), (1, .int (nI i))]) hx hb dX4_tally_41 rfl hl (by decide) rfl (fun ls hl => ?_)
          refine lv_aload_n hx hb dX4_tally_42 rfl (lv_at hl 0 rfl) ?_
          refine r_get hx hb hts hown hK hW (C := RX5) (T := TX5) (xF_walker r hr i (by omega)) inlX5 rfl (by decide) 5 (by decide) ((xr_walker r hr i (by omega)).2.2 5 (by decide) (by decide)) xw_446 rfl (x := Ya i 5) rfl dX4_tally_43 ?_
          refine lv_if_ne (tgt := 78) hx hb dX4_tally_46 (by decide) (fun c_7 => ?_) (fun c_7 => ?_)
          · skip
            refine lv_iinc (v := nI (i + 1)) (lv' := [(1, .int (nI (i + 1))), (2, .ref (xB X + xkey r 4 i)), (0, .ref (xB X + xkey r 0 0))]) hx hb dX4_tally_78 hl (k := 2) rfl (nI_1 i) (by decide) rfl (fun ls hl => ?_)
            refine lv_goto (tgt := 27) hx hb dX4_tally_81 (by decide) ?_
            refine ih_27 (i + 1) Lb Ya (by omega)  ?_ H locs ls hW (lv_sub hl [2, 0] rfl)
            rw [← hsp_27]; simp [xloop, xfind, xloop, c_1, c_6, c_7]
          · skip
            refine lv_aload_n hx hb dX4_tally_49 rfl (lv_at hl 1 rfl) ?_
            refine lv_aload_n hx hb dX4_tally_50 rfl (lv_at hl 0 rfl) ?_
            refine r_get hx hb hts hown hK hW (C := RX5) (T := TX5) (xF_walker r hr i (by omega)) inlX5 rfl (by decide) 3 (by decide) ((xr_walker r hr i (by omega)).2.2 3 (by decide) (by decide)) xw_447 rfl (x := Ya i 3) rfl dX4_tally_51 ?_
            refine x_callV hx hb hml hown hts hK hW hl.1 (c_X4_lampsThatLight l X G (r := r) (n := n) (x := Ya i 3) (hr := hr) (hn := (by assumption)) (hn16 := (by assumption)) (hres := rfl)) (xF_street r hr).1 (xF_street r hr).2.1 (by decide) rfl xw_467 xw_468 xw_469 xw_15 xw_470 hdV_yX4_lampsThatLight ⟨Nat.le_of_ble_eq_true rfl, Nat.le_of_ble_eq_true rfl⟩ rfl (Nat.le_of_ble_eq_true rfl) ⟨Nat.le_refl _, Nat.le_refl _⟩ dX4_tally_54 (fun H locs hW => ?_)
            refine lv_if_ne (tgt := 78) hx hb dX4_tally_57 (by decide) (fun c_8 => ?_) (fun c_8 => ?_)
            · skip
              refine lv_iinc (v := nI (i + 1)) (lv' := [(1, .int (nI (i + 1))), (2, .ref (xB X + xkey r 4 i)), (0, .ref (xB X + xkey r 0 0))]) hx hb dX4_tally_78 hl (k := 2) rfl (nI_1 i) (by decide) rfl (fun ls hl => ?_)
              refine lv_goto (tgt := 27) hx hb dX4_tally_81 (by decide) ?_
              refine ih_27 (i + 1) Lb Ya (by omega)  ?_ H locs ls hW (lv_sub hl [2, 0] rfl)
              rw [← hsp_27]; simp [xloop, xfind, xloop, c_1, c_6, c_7, c_8]
            · skip
              refine lv_aload_n hx hb dX4_tally_60 rfl (lv_at hl 0 rfl) ?_
              refine lv_dup hx hb dX4_tally_61 rfl ?_
              refine r_get hx hb hts hown hK hW (C := RX5) (T := TX5) (xF_walker r hr i (by omega)) inlX5 rfl (by decide) 7 (by decide) ((xr_walker r hr i (by omega)).2.2 7 (by decide) (by decide)) xw_461 rfl (x := Ya i 7) rfl dX4_tally_62 ?_
              refine lv_iconst (v := 1) hx hb dX4_tally_65 (by decide) ?_
              refine lv_iadd hx hb dX4_tally_66 ?_
              have hW := XR.foc4 hW i
              refine r_put hx hb hts hown hK hW (C := RX5) (T := TX5) (xF_walker r hr i (by omega)) inlX5 tyX5 tyX5_ok nmX5 rfl (by decide) 7 (by decide) ((xr_walker r hr i (by omega)).2.2 7 (by decide) (by decide)) xw_461 rfl rfl rfl rfl xSt4f dX4_tally_67 (fun H locs hW => ?_)
              refine lv_aload_n hx hb dX4_tally_70 rfl (lv_at hl 1 rfl) ?_
              refine lv_aload_n hx hb dX4_tally_71 rfl (lv_at hl 0 rfl) ?_
              refine r_get hx hb hts hown hK hW (C := RX5) (T := TX5) (xF_walker r hr i (by omega)) inlX5 rfl (by decide) 3 (by decide) ((xr_walker r hr i (by omega)).2.2 3 (by decide) (by decide)) xw_447 rfl (x := (Ya i) 3) (show (va_up Ya i (va_up (Ya i) 7 ((Ya i 7) + 1))) i 3 = (Ya i) 3 from xrd rfl) dX4_tally_72 ?_
              refine x_callV hx hb hml hown hts hK hW hl.1 (c_X4_blameNearest l X G (r := r) (n := n) (x := (Ya i) 3) (hr := hr) (hn := (by assumption)) (hn16 := (by assumption)) (ho0 := rfl)) (xF_street r hr).1 (xF_street r hr).2.1 (by decide) rfl xw_476 xw_477 xw_478 xw_15 xw_479 hdV_yX4_blameNearest ⟨Nat.le_of_ble_eq_true rfl, Nat.le_of_ble_eq_true rfl⟩ rfl (Nat.le_of_ble_eq_true rfl) ⟨Nat.le_refl _, Nat.le_refl _⟩ dX4_tally_75 (fun H locs hW => ?_)
              have hW : XR X G r (xSt f sg (LBlame n ((Ya i) 3) Lb) O (va_up Ya i (va_up (Ya i) 7 ((Ya i 7) + 1))) P Q) H locs := hW
              refine lv_iinc (v := nI (i + 1)) (lv' := [(1, .int (nI (i + 1))), (2, .ref (xB X + xkey r 4 i)), (0, .ref (xB X + xkey r 0 0))]) hx hb dX4_tally_78 hl (k := 2) rfl (nI_1 i) (by decide) rfl (fun ls hl => ?_)
              refine lv_goto (tgt := 27) hx hb dX4_tally_81 (by decide) ?_
              refine ih_27 (i + 1) (LBlame n ((Ya i) 3) Lb) (va_up Ya i (va_up (Ya i) 7 ((Ya i 7) + 1))) (by omega)  ?_ H locs ls hW (lv_sub hl [2, 0] rfl)
              rw [← hsp_27]; simp [xloop, xfind, xloop, c_1, c_6, c_7, c_8]
      exact loop_27 nw 0 La Y (by omega)  rfl _ _ _ hW (lv_sub hl [1, 0] rfl)
    | succ k_2 ih_2 =>
      intro i La hik_2  hsp_2 H locs ls hW hl
      refine lv_iload_n hx hb dX4_tally_2 rfl (lv_at hl 1 rfl) ?_
      refine lv_aload_n hx hb dX4_tally_3 rfl (lv_at hl 0 rfl) ?_
      refine r_get hx hb hts hown hK hW (C := RX4) (T := TX4) (xF_street r hr) inlX4 rfl (by decide) 4 (by decide) (xr_street r hr).2.2.2.2.1 xw_103 rfl (x := nI n) hn dX4_tally_4 ?_
      refine lv_icmp_ge (tgt := 25) hx hb dX4_tally_7 (by decide) (fun c_9 => absurd c_9 (nI_ge (by omega) (by omega))) (fun c_9 => ?_)
      refine lv_aload_n hx hb dX4_tally_10 rfl (lv_at hl 0 rfl) ?_
      refine r_getr (C := RX4) (T := TX4) hx hb hts hown hK hW (xF_street r hr).1 (xF_street r hr).2.1 inlX4 rfl (by decide) 1 (by decide) (xr_street r hr).2.1 xw_36 rfl dX4_tally_11 ?_
      refine lv_iload_n hx hb dX4_tally_14 rfl (lv_at hl 1 rfl) ?_
      refine r_aald hx hb hK hW (xF_lamps r hr).1 (xF_lamps r hr).2 (by decide) 4 rfl i (by omega) (by decide) rfl (xr_lamps r hr i (by omega)) dX4_tally_15 ?_
      have hW := XR.foc2 hW i
      refine x_callV hx hb hml hown hts hK hW hl.1 (c_X2_useLight l X G (r := r) (i := i) (hr := hr) (hi := (by omega)) (ho0 := rfl)) (xF_lamp r hr i (by omega)).1 (xF_lamp r hr i (by omega)).2.1 (by decide) rfl xw_463 xw_464 xw_465 xw_46 xw_466 hdV_yX2_useLight ⟨Nat.le_of_ble_eq_true rfl, Nat.le_of_ble_eq_true rfl⟩ rfl (Nat.le_of_ble_eq_true rfl) ⟨Nat.le_refl _, Nat.le_refl _⟩ dX4_tally_16 (fun H locs hW => ?_)
      have hW : XR X G r (xSt f sg (va_up La i (Fuse (La i))) O Y P Q) H locs := hW
      refine lv_iinc (v := nI (i + 1)) (lv' := [(1, .int (nI (i + 1))), (0, .ref (xB X + xkey r 0 0))]) hx hb dX4_tally_19 hl (k := 1) rfl (nI_1 i) (by decide) rfl (fun ls hl => ?_)
      refine lv_goto (tgt := 2) hx hb dX4_tally_22 (by decide) ?_
      refine ih_2 (i + 1) (va_up La i (Fuse (La i))) (by omega)  ?_ H locs ls hW (lv_sub hl [1, 0] rfl)
      rw [← hsp_2]; simp [xloop, xfind, xloop, c_9]
  exact loop_2 n 0 L (by omega)  rfl _ _ _ hW (lv_sub hl [1, 0] rfl)
set_option maxHeartbeats 4000000 in
set_option maxRecDepth 100000 in
theorem c_X4_lampsThatHear (l : Launch) (X : xX) (G : xG) {r : Nat} {f sg : Nat → Int32} {L O Y P Q : Nat → Nat → Int32} {n : Nat} {a : Nat} (hr : r < 11) (hn : f 4 = nI n) (hn16 : n ≤ 16) (ha : a < 16) {res : Int32} (hres : (Fhearers n (sg 1) a L) = res) : XC l yX4_lampsThatHear cX4_lampsThatHear 4 (some .int) 3 64 0 0 X xsh [.ref (xB X + xkey r 0 0), .int (nI a)] 603 603 (xval (xB X) (va_up G r (xSt f sg L O Y P Q))) (xval (xB X) (va_up G r (xSt f sg L O Y P Q))) (some (.int res)) := by
  refine XC.of RX4 "lampsThatHear" [(0, .ref (xB X + xkey r 0 0)), (1, .int (nI a))] (by decide) rfl rfl (Nat.le_of_ble_eq_true rfl) rfl ?_
  intro p e s m args below meth c ls hx hb hret hml hts hown hlocks hnm hK hW hl
  have hW : XR X G r (xSt f sg L O Y P Q) s.heap [] := hW
  obtain ⟨Q0, hQ0⟩ : ∃ z, z = MQ below (xQ X xsh 603 (xval (xB X) (va_up G r (xSt f sg L O Y P Q))) (some (.int res))) args s 0 0 (fun q => xB X ≤ q) := ⟨_, rfl⟩
  rw [← hQ0]
  refine lv_iconst (v := 0) hx hb dX4_lampsThatHear_0 (by decide) ?_
  refine lv_istore_n (lv' := [(2, .int 0), (0, .ref (xB X + xkey r 0 0)), (1, .int (nI a))]) hx hb dX4_lampsThatHear_1 rfl hl (by decide) rfl (fun ls hl => ?_)
  refine lv_iconst (v := nI 0) hx hb dX4_lampsThatHear_2 (by decide) ?_
  refine lv_istore_n (lv' := [(3, .int (nI 0)), (2, .int 0), (0, .ref (xB X + xkey r 0 0)), (1, .int (nI a))]) hx hb dX4_lampsThatHear_3 rfl hl (by decide) rfl (fun ls hl => ?_)
  have loop_4 : ∀ (k_4 i : Nat) (da : Int32), i + k_4 = n → xloop (fun i s => if L a 3 = 2 then s else if Fhears (sg 1) L i a = 0 then s else s ||| xbit i) k_4 i da = xloop (fun i s => if L a 3 = 2 then s else if Fhears (sg 1) L i a = 0 then s else s ||| xbit i) n 0 0 → ∀ (H : Heap) (locs : List Loc) (ls : Array Slot), XR X G r (xSt f sg L O Y P Q) H locs → lv_has ls 4 [(0, .ref (xB X + xkey r 0 0)), (1, .int (nI a)), (2, .int da), (3, .int (nI i))] → W p l e { frames := 3, cells := 0, slots := 0, locals := 64 } s m args below meth c H locs 0 0 Q0 (F0 m 4 ls []) := by
    intro k_4
    induction k_4 with
    | zero =>
      intro i da hik_4  hsp_4 H locs ls hW hl
      refine lv_iload_n hx hb dX4_lampsThatHear_4 rfl (lv_at hl 3 rfl) ?_
      refine lv_aload_n hx hb dX4_lampsThatHear_5 rfl (lv_at hl 0 rfl) ?_
      refine r_get hx hb hts hown hK hW (C := RX4) (T := TX4) (xF_street r hr) inlX4 rfl (by decide) 4 (by decide) (xr_street r hr).2.2.2.2.1 xw_103 rfl (x := nI n) hn dX4_lampsThatHear_6 ?_
      refine lv_icmp_ge (tgt := 46) hx hb dX4_lampsThatHear_9 (by decide) (fun c_1 => ?_) (fun c_1 => absurd (xge_refl (by omega)) c_1)
      refine lv_iload_n hx hb dX4_lampsThatHear_46 rfl (lv_at hl 2 rfl) ?_
      obtain rfl : da = res := by (rw [← hres]) <;> (simpa [Fhearers, xloop, xfind, c_1] using hsp_4)
      rw [hQ0]
      exact x_iret hx hb hret hlocks rfl hW rfl dX4_lampsThatHear_47
    | succ k_4 ih_4 =>
      intro i da hik_4  hsp_4 H locs ls hW hl
      refine lv_iload_n hx hb dX4_lampsThatHear_4 rfl (lv_at hl 3 rfl) ?_
      refine lv_aload_n hx hb dX4_lampsThatHear_5 rfl (lv_at hl 0 rfl) ?_
      refine r_get hx hb hts hown hK hW (C := RX4) (T := TX4) (xF_street r hr) inlX4 rfl (by decide) 4 (by decide) (xr_street r hr).2.2.2.2.1 xw_103 rfl (x := nI n) hn dX4_lampsThatHear_6 ?_
      refine lv_icmp_ge (tgt := 46) hx hb dX4_lampsThatHear_9 (by decide) (fun c_2 => absurd c_2 (nI_ge (by omega) (by omega))) (fun c_2 => ?_)
      refine lv_aload_n hx hb dX4_lampsThatHear_12 rfl (lv_at hl 0 rfl) ?_
      refine r_getr (C := RX4) (T := TX4) hx hb hts hown hK hW (xF_street r hr).1 (xF_street r hr).2.1 inlX4 rfl (by decide) 1 (by decide) (xr_street r hr).2.1 xw_36 rfl dX4_lampsThatHear_13 ?_
      refine lv_iload_n hx hb dX4_lampsThatHear_16 rfl (lv_at hl 1 rfl) ?_
      refine r_aald hx hb hK hW (xF_lamps r hr).1 (xF_lamps r hr).2 (by decide) 4 rfl a ha (by decide) rfl (xr_lamps r hr a ha) dX4_lampsThatHear_17 ?_
      refine r_get hx hb hts hown hK hW (C := RX2) (T := TX2) (xF_lamp r hr a ha) inlX2 rfl (by decide) 3 (by decide) (xr_lamp r hr a ha 3 (by decide)) xw_294 rfl (x := L a 3) rfl dX4_lampsThatHear_18 ?_
      refine lv_iconst (v := 2) hx hb dX4_lampsThatHear_21 (by decide) ?_
      refine lv_icmp_eq (tgt := 40) hx hb dX4_lampsThatHear_22 (by decide) (fun c_3 => ?_) (fun c_3 => ?_)
      · skip
        refine lv_iinc (v := nI (i + 1)) (lv' := [(3, .int (nI (i + 1))), (0, .ref (xB X + xkey r 0 0)), (1, .int (nI a)), (2, .int da)]) hx hb dX4_lampsThatHear_40 hl (k := 3) rfl (nI_1 i) (by decide) rfl (fun ls hl => ?_)
        refine lv_goto (tgt := 4) hx hb dX4_lampsThatHear_43 (by decide) ?_
        refine ih_4 (i + 1) da (by omega)  ?_ H locs ls hW (lv_sub hl [1, 2, 3, 0] rfl)
        rw [← hsp_4]; simp [xloop, xfind, Fhearers, xbit, c_2, c_3]
      · skip
        refine lv_aload_n hx hb dX4_lampsThatHear_25 rfl (lv_at hl 0 rfl) ?_
        refine lv_iload_n hx hb dX4_lampsThatHear_26 rfl (lv_at hl 3 rfl) ?_
        refine lv_iload_n hx hb dX4_lampsThatHear_27 rfl (lv_at hl 1 rfl) ?_
        refine x_callV hx hb hml hown hts hK hW hl.1 (c_X4_hears l X G (r := r) (a := i) (b := a) (hr := hr) (ha := (by omega)) (hb2 := ha) (hres := rfl)) (xF_street r hr).1 (xF_street r hr).2.1 (by decide) rfl xw_346 xw_347 xw_348 xw_15 xw_349 hdV_yX4_hears ⟨Nat.le_of_ble_eq_true rfl, Nat.le_of_ble_eq_true rfl⟩ rfl (Nat.le_of_ble_eq_true rfl) ⟨Nat.le_refl _, Nat.le_refl _⟩ dX4_lampsThatHear_28 (fun H locs hW => ?_)
        refine lv_if_eq (tgt := 40) hx hb dX4_lampsThatHear_31 (by decide) (fun c_4 => ?_) (fun c_4 => ?_)
        · skip
          refine lv_iinc (v := nI (i + 1)) (lv' := [(3, .int (nI (i + 1))), (0, .ref (xB X + xkey r 0 0)), (1, .int (nI a)), (2, .int da)]) hx hb dX4_lampsThatHear_40 hl (k := 3) rfl (nI_1 i) (by decide) rfl (fun ls hl => ?_)
          refine lv_goto (tgt := 4) hx hb dX4_lampsThatHear_43 (by decide) ?_
          refine ih_4 (i + 1) da (by omega)  ?_ H locs ls hW (lv_sub hl [1, 2, 3, 0] rfl)
          rw [← hsp_4]; simp [xloop, xfind, Fhearers, xbit, c_2, c_3, c_4]
        · skip
          refine lv_iload_n hx hb dX4_lampsThatHear_34 rfl (lv_at hl 2 rfl) ?_
          refine lv_iconst (v := 1) hx hb dX4_lampsThatHear_35 (by decide) ?_
          refine lv_iload_n hx hb dX4_lampsThatHear_36 rfl (lv_at hl 3 rfl) ?_
          refine lv_ishl hx hb dX4_lampsThatHear_37 ?_
          refine lv_ior hx hb dX4_lampsThatHear_38 ?_
          refine lv_istore_n (lv' := [(2, .int (da ||| (1 <<< ((nI i) &&& 31)))), (0, .ref (xB X + xkey r 0 0)), (1, .int (nI a)), (3, .int (nI i))]) hx hb dX4_lampsThatHear_39 rfl hl (by decide) rfl (fun ls hl => ?_)
          refine lv_iinc (v := nI (i + 1)) (lv' := [(3, .int (nI (i + 1))), (2, .int (da ||| (1 <<< ((nI i) &&& 31)))), (0, .ref (xB X + xkey r 0 0)), (1, .int (nI a))]) hx hb dX4_lampsThatHear_40 hl (k := 3) rfl (nI_1 i) (by decide) rfl (fun ls hl => ?_)
          refine lv_goto (tgt := 4) hx hb dX4_lampsThatHear_43 (by decide) ?_
          refine ih_4 (i + 1) (da ||| (1 <<< ((nI i) &&& 31))) (by omega)  ?_ H locs ls hW (lv_sub hl [2, 3, 1, 0] rfl)
          rw [← hsp_4]; simp [xloop, xfind, Fhearers, xbit, c_2, c_3, c_4]
  exact loop_4 n 0 0 (by omega)  rfl _ _ _ hW (lv_sub hl [2, 3, 1, 0] rfl)
set_option maxHeartbeats 4000000 in
set_option maxRecDepth 100000 in
theorem c_X4_walkersInStreet (l : Launch) (X : xX) (G : xG) {r : Nat} {f sg : Nat → Int32} {L O Y P Q : Nat → Nat → Int32} {nw : Nat}  (hr : r < 11) (hw : f 6 = nI nw) (hw8 : nw ≤ 8) {res : Int32} (hres : (Finstreet nw Y) = res) : XC l yX4_walkersInStreet cX4_walkersInStreet 3 (some .int) 0 0 0 0 X xsh [.ref (xB X + xkey r 0 0)] 603 603 (xval (xB X) (va_up G r (xSt f sg L O Y P Q))) (xval (xB X) (va_up G r (xSt f sg L O Y P Q))) (some (.int res)) := by
  refine XC.of RX4 "walkersInStreet" [(0, .ref (xB X + xkey r 0 0))] (by decide) rfl rfl (Nat.le_of_ble_eq_true rfl) rfl ?_
  intro p e s m args below meth c ls hx hb hret hml hts hown hlocks hnm hK hW hl
  have hW : XR X G r (xSt f sg L O Y P Q) s.heap [] := hW
  obtain ⟨Q0, hQ0⟩ : ∃ z, z = MQ below (xQ X xsh 603 (xval (xB X) (va_up G r (xSt f sg L O Y P Q))) (some (.int res))) args s 0 0 (fun q => xB X ≤ q) := ⟨_, rfl⟩
  rw [← hQ0]
  refine lv_iconst (v := 0) hx hb dX4_walkersInStreet_0 (by decide) ?_
  refine lv_istore_n (lv' := [(1, .int 0), (0, .ref (xB X + xkey r 0 0))]) hx hb dX4_walkersInStreet_1 rfl hl (by decide) rfl (fun ls hl => ?_)
  refine lv_iconst (v := nI 0) hx hb dX4_walkersInStreet_2 (by decide) ?_
  refine lv_istore_n (lv' := [(2, .int (nI 0)), (1, .int 0), (0, .ref (xB X + xkey r 0 0))]) hx hb dX4_walkersInStreet_3 rfl hl (by decide) rfl (fun ls hl => ?_)
  have loop_4 : ∀ (k_4 i : Nat) (da : Int32), i + k_4 = nw → xloop (fun i s => if Y i 5 = 0 then s + 1 else s) k_4 i da = xloop (fun i s => if Y i 5 = 0 then s + 1 else s) nw 0 0 → ∀ (H : Heap) (locs : List Loc) (ls : Array Slot), XR X G r (xSt f sg L O Y P Q) H locs → lv_has ls 3 [(0, .ref (xB X + xkey r 0 0)), (1, .int da), (2, .int (nI i))] → W p l e { frames := 0, cells := 0, slots := 0, locals := 0 } s m args below meth c H locs 0 0 Q0 (F0 m 4 ls []) := by
    intro k_4
    induction k_4 with
    | zero =>
      intro i da hik_4  hsp_4 H locs ls hW hl
      refine lv_iload_n hx hb dX4_walkersInStreet_4 rfl (lv_at hl 2 rfl) ?_
      refine lv_aload_n hx hb dX4_walkersInStreet_5 rfl (lv_at hl 0 rfl) ?_
      refine r_get hx hb hts hown hK hW (C := RX4) (T := TX4) (xF_street r hr) inlX4 rfl (by decide) 6 (by decide) (xr_street r hr).2.2.2.2.2.2.1 xw_105 rfl (x := nI nw) hw dX4_walkersInStreet_6 ?_
      refine lv_icmp_ge (tgt := 33) hx hb dX4_walkersInStreet_9 (by decide) (fun c_1 => ?_) (fun c_1 => absurd (xge_refl (by omega)) c_1)
      refine lv_iload_n hx hb dX4_walkersInStreet_33 rfl (lv_at hl 1 rfl) ?_
      obtain rfl : da = res := by (rw [← hres]) <;> (simpa [Finstreet, xloop, xfind, c_1] using hsp_4)
      rw [hQ0]
      exact x_iret hx hb hret hlocks rfl hW rfl dX4_walkersInStreet_34
    | succ k_4 ih_4 =>
      intro i da hik_4  hsp_4 H locs ls hW hl
      refine lv_iload_n hx hb dX4_walkersInStreet_4 rfl (lv_at hl 2 rfl) ?_
      refine lv_aload_n hx hb dX4_walkersInStreet_5 rfl (lv_at hl 0 rfl) ?_
      refine r_get hx hb hts hown hK hW (C := RX4) (T := TX4) (xF_street r hr) inlX4 rfl (by decide) 6 (by decide) (xr_street r hr).2.2.2.2.2.2.1 xw_105 rfl (x := nI nw) hw dX4_walkersInStreet_6 ?_
      refine lv_icmp_ge (tgt := 33) hx hb dX4_walkersInStreet_9 (by decide) (fun c_2 => absurd c_2 (nI_ge (by omega) (by omega))) (fun c_2 => ?_)
      refine lv_aload_n hx hb dX4_walkersInStreet_12 rfl (lv_at hl 0 rfl) ?_
      refine r_getr (C := RX4) (T := TX4) hx hb hts hown hK hW (xF_street r hr).1 (xF_street r hr).2.1 inlX4 rfl (by decide) 3 (by decide) (xr_street r hr).2.2.2.1 xw_40 rfl dX4_walkersInStreet_13 ?_
      refine lv_iload_n hx hb dX4_walkersInStreet_16 rfl (lv_at hl 2 rfl) ?_
      refine r_aald hx hb hK hW (xF_walkers r hr).1 (xF_walkers r hr).2 (by decide) 6 rfl i (by omega) (by decide) rfl (xr_walkers r hr i (by omega)) dX4_walkersInStreet_17 ?_
      refine r_get hx hb hts hown hK hW (C := RX5) (T := TX5) (xF_walker r hr i (by omega)) inlX5 rfl (by decide) 5 (by decide) ((xr_walker r hr i (by omega)).2.2 5 (by decide) (by decide)) xw_446 rfl (x := Y i 5) rfl dX4_walkersInStreet_18 ?_
      refine lv_if_ne (tgt := 27) hx hb dX4_walkersInStreet_21 (by decide) (fun c_3 => ?_) (fun c_3 => ?_)
      · skip
        refine lv_iinc (v := nI (i + 1)) (lv' := [(2, .int (nI (i + 1))), (0, .ref (xB X + xkey r 0 0)), (1, .int da)]) hx hb dX4_walkersInStreet_27 hl (k := 2) rfl (nI_1 i) (by decide) rfl (fun ls hl => ?_)
        refine lv_goto (tgt := 4) hx hb dX4_walkersInStreet_30 (by decide) ?_
        refine ih_4 (i + 1) da (by omega)  ?_ H locs ls hW (lv_sub hl [1, 2, 0] rfl)
        rw [← hsp_4]; simp [xloop, xfind, Finstreet, c_2, c_3]
      · skip
        refine lv_iinc (v := da + 1) (lv' := [(1, .int (da + 1)), (0, .ref (xB X + xkey r 0 0)), (2, .int (nI i))]) hx hb dX4_walkersInStreet_24 hl (k := 1) rfl rfl (by decide) rfl (fun ls hl => ?_)
        refine lv_iinc (v := nI (i + 1)) (lv' := [(2, .int (nI (i + 1))), (1, .int (da + 1)), (0, .ref (xB X + xkey r 0 0))]) hx hb dX4_walkersInStreet_27 hl (k := 2) rfl (nI_1 i) (by decide) rfl (fun ls hl => ?_)
        refine lv_goto (tgt := 4) hx hb dX4_walkersInStreet_30 (by decide) ?_
        refine ih_4 (i + 1) (da + 1) (by omega)  ?_ H locs ls hW (lv_sub hl [2, 1, 0] rfl)
        rw [← hsp_4]; simp [xloop, xfind, Finstreet, c_2, c_3]
  exact loop_4 nw 0 0 (by omega)  rfl _ _ _ hW (lv_sub hl [2, 1, 0] rfl)
set_option maxHeartbeats 4000000 in
set_option maxRecDepth 100000 in
theorem c_X4_darkTicks (l : Launch) (X : xX) (G : xG) {r : Nat} {f sg : Nat → Int32} {L O Y P Q : Nat → Nat → Int32} {nw : Nat}  (hr : r < 11) (hw : f 6 = nI nw) (hw8 : nw ≤ 8) {res : Int32} (hres : (Fsum nw 7 Y) = res) : XC l yX4_darkTicks cX4_darkTicks 3 (some .int) 0 0 0 0 X xsh [.ref (xB X + xkey r 0 0)] 603 603 (xval (xB X) (va_up G r (xSt f sg L O Y P Q))) (xval (xB X) (va_up G r (xSt f sg L O Y P Q))) (some (.int res)) := by
  refine XC.of RX4 "darkTicks" [(0, .ref (xB X + xkey r 0 0))] (by decide) rfl rfl (Nat.le_of_ble_eq_true rfl) rfl ?_
  intro p e s m args below meth c ls hx hb hret hml hts hown hlocks hnm hK hW hl
  have hW : XR X G r (xSt f sg L O Y P Q) s.heap [] := hW
  obtain ⟨Q0, hQ0⟩ : ∃ z, z = MQ below (xQ X xsh 603 (xval (xB X) (va_up G r (xSt f sg L O Y P Q))) (some (.int res))) args s 0 0 (fun q => xB X ≤ q) := ⟨_, rfl⟩
  rw [← hQ0]
  refine lv_iconst (v := 0) hx hb dX4_darkTicks_0 (by decide) ?_
  refine lv_istore_n (lv' := [(1, .int 0), (0, .ref (xB X + xkey r 0 0))]) hx hb dX4_darkTicks_1 rfl hl (by decide) rfl (fun ls hl => ?_)
  refine lv_iconst (v := nI 0) hx hb dX4_darkTicks_2 (by decide) ?_
  refine lv_istore_n (lv' := [(2, .int (nI 0)), (1, .int 0), (0, .ref (xB X + xkey r 0 0))]) hx hb dX4_darkTicks_3 rfl hl (by decide) rfl (fun ls hl => ?_)
  have loop_4 : ∀ (k_4 i : Nat) (da : Int32), i + k_4 = nw → xloop (fun i s => s + Y i 7) k_4 i da = xloop (fun i s => s + Y i 7) nw 0 0 → ∀ (H : Heap) (locs : List Loc) (ls : Array Slot), XR X G r (xSt f sg L O Y P Q) H locs → lv_has ls 3 [(0, .ref (xB X + xkey r 0 0)), (1, .int da), (2, .int (nI i))] → W p l e { frames := 0, cells := 0, slots := 0, locals := 0 } s m args below meth c H locs 0 0 Q0 (F0 m 4 ls []) := by
    intro k_4
    induction k_4 with
    | zero =>
      intro i da hik_4  hsp_4 H locs ls hW hl
      refine lv_iload_n hx hb dX4_darkTicks_4 rfl (lv_at hl 2 rfl) ?_
      refine lv_aload_n hx hb dX4_darkTicks_5 rfl (lv_at hl 0 rfl) ?_
      refine r_get hx hb hts hown hK hW (C := RX4) (T := TX4) (xF_street r hr) inlX4 rfl (by decide) 6 (by decide) (xr_street r hr).2.2.2.2.2.2.1 xw_105 rfl (x := nI nw) hw dX4_darkTicks_6 ?_
      refine lv_icmp_ge (tgt := 30) hx hb dX4_darkTicks_9 (by decide) (fun c_1 => ?_) (fun c_1 => absurd (xge_refl (by omega)) c_1)
      refine lv_iload_n hx hb dX4_darkTicks_30 rfl (lv_at hl 1 rfl) ?_
      obtain rfl : da = res := by (rw [← hres]) <;> (simpa [Fsum, xloop, xfind, c_1] using hsp_4)
      rw [hQ0]
      exact x_iret hx hb hret hlocks rfl hW rfl dX4_darkTicks_31
    | succ k_4 ih_4 =>
      intro i da hik_4  hsp_4 H locs ls hW hl
      refine lv_iload_n hx hb dX4_darkTicks_4 rfl (lv_at hl 2 rfl) ?_
      refine lv_aload_n hx hb dX4_darkTicks_5 rfl (lv_at hl 0 rfl) ?_
      refine r_get hx hb hts hown hK hW (C := RX4) (T := TX4) (xF_street r hr) inlX4 rfl (by decide) 6 (by decide) (xr_street r hr).2.2.2.2.2.2.1 xw_105 rfl (x := nI nw) hw dX4_darkTicks_6 ?_
      refine lv_icmp_ge (tgt := 30) hx hb dX4_darkTicks_9 (by decide) (fun c_2 => absurd c_2 (nI_ge (by omega) (by omega))) (fun c_2 => ?_)
      refine lv_iload_n hx hb dX4_darkTicks_12 rfl (lv_at hl 1 rfl) ?_
      refine lv_aload_n hx hb dX4_darkTicks_13 rfl (lv_at hl 0 rfl) ?_
      refine r_getr (C := RX4) (T := TX4) hx hb hts hown hK hW (xF_street r hr).1 (xF_street r hr).2.1 inlX4 rfl (by decide) 3 (by decide) (xr_street r hr).2.2.2.1 xw_40 rfl dX4_darkTicks_14 ?_
      refine lv_iload_n hx hb dX4_darkTicks_17 rfl (lv_at hl 2 rfl) ?_
      refine r_aald hx hb hK hW (xF_walkers r hr).1 (xF_walkers r hr).2 (by decide) 6 rfl i (by omega) (by decide) rfl (xr_walkers r hr i (by omega)) dX4_darkTicks_18 ?_
      refine r_get hx hb hts hown hK hW (C := RX5) (T := TX5) (xF_walker r hr i (by omega)) inlX5 rfl (by decide) 7 (by decide) ((xr_walker r hr i (by omega)).2.2 7 (by decide) (by decide)) xw_461 rfl (x := Y i 7) rfl dX4_darkTicks_19 ?_
      refine lv_iadd hx hb dX4_darkTicks_22 ?_
      refine lv_istore_n (lv' := [(1, .int (da + (Y i 7))), (0, .ref (xB X + xkey r 0 0)), (2, .int (nI i))]) hx hb dX4_darkTicks_23 rfl hl (by decide) rfl (fun ls hl => ?_)
      refine lv_iinc (v := nI (i + 1)) (lv' := [(2, .int (nI (i + 1))), (1, .int (da + (Y i 7))), (0, .ref (xB X + xkey r 0 0))]) hx hb dX4_darkTicks_24 hl (k := 2) rfl (nI_1 i) (by decide) rfl (fun ls hl => ?_)
      refine lv_goto (tgt := 4) hx hb dX4_darkTicks_27 (by decide) ?_
      refine ih_4 (i + 1) (da + (Y i 7)) (by omega)  ?_ H locs ls hW (lv_sub hl [2, 1, 0] rfl)
      rw [← hsp_4]; simp [xloop, xfind, Fsum, c_2]
  exact loop_4 nw 0 0 (by omega)  rfl _ _ _ hW (lv_sub hl [2, 1, 0] rfl)
set_option maxHeartbeats 4000000 in
set_option maxRecDepth 100000 in
theorem c_X4_lightUnits (l : Launch) (X : xX) (G : xG) {r : Nat} {f sg : Nat → Int32} {L O Y P Q : Nat → Nat → Int32} {n : Nat}  (hr : r < 11) (hn : f 4 = nI n) (hn16 : n ≤ 16) {res : Int32} (hres : (Fsum n 7 L) = res) : XC l yX4_lightUnits cX4_lightUnits 3 (some .int) 0 0 0 0 X xsh [.ref (xB X + xkey r 0 0)] 603 603 (xval (xB X) (va_up G r (xSt f sg L O Y P Q))) (xval (xB X) (va_up G r (xSt f sg L O Y P Q))) (some (.int res)) := by
  refine XC.of RX4 "lightUnits" [(0, .ref (xB X + xkey r 0 0))] (by decide) rfl rfl (Nat.le_of_ble_eq_true rfl) rfl ?_
  intro p e s m args below meth c ls hx hb hret hml hts hown hlocks hnm hK hW hl
  have hW : XR X G r (xSt f sg L O Y P Q) s.heap [] := hW
  obtain ⟨Q0, hQ0⟩ : ∃ z, z = MQ below (xQ X xsh 603 (xval (xB X) (va_up G r (xSt f sg L O Y P Q))) (some (.int res))) args s 0 0 (fun q => xB X ≤ q) := ⟨_, rfl⟩
  rw [← hQ0]
  refine lv_iconst (v := 0) hx hb dX4_lightUnits_0 (by decide) ?_
  refine lv_istore_n (lv' := [(1, .int 0), (0, .ref (xB X + xkey r 0 0))]) hx hb dX4_lightUnits_1 rfl hl (by decide) rfl (fun ls hl => ?_)
  refine lv_iconst (v := nI 0) hx hb dX4_lightUnits_2 (by decide) ?_
  refine lv_istore_n (lv' := [(2, .int (nI 0)), (1, .int 0), (0, .ref (xB X + xkey r 0 0))]) hx hb dX4_lightUnits_3 rfl hl (by decide) rfl (fun ls hl => ?_)
  have loop_4 : ∀ (k_4 i : Nat) (da : Int32), i + k_4 = n → xloop (fun i s => s + L i 7) k_4 i da = xloop (fun i s => s + L i 7) n 0 0 → ∀ (H : Heap) (locs : List Loc) (ls : Array Slot), XR X G r (xSt f sg L O Y P Q) H locs → lv_has ls 3 [(0, .ref (xB X + xkey r 0 0)), (1, .int da), (2, .int (nI i))] → W p l e { frames := 0, cells := 0, slots := 0, locals := 0 } s m args below meth c H locs 0 0 Q0 (F0 m 4 ls []) := by
    intro k_4
    induction k_4 with
    | zero =>
      intro i da hik_4  hsp_4 H locs ls hW hl
      refine lv_iload_n hx hb dX4_lightUnits_4 rfl (lv_at hl 2 rfl) ?_
      refine lv_aload_n hx hb dX4_lightUnits_5 rfl (lv_at hl 0 rfl) ?_
      refine r_get hx hb hts hown hK hW (C := RX4) (T := TX4) (xF_street r hr) inlX4 rfl (by decide) 4 (by decide) (xr_street r hr).2.2.2.2.1 xw_103 rfl (x := nI n) hn dX4_lightUnits_6 ?_
      refine lv_icmp_ge (tgt := 30) hx hb dX4_lightUnits_9 (by decide) (fun c_1 => ?_) (fun c_1 => absurd (xge_refl (by omega)) c_1)
      refine lv_iload_n hx hb dX4_lightUnits_30 rfl (lv_at hl 1 rfl) ?_
      obtain rfl : da = res := by (rw [← hres]) <;> (simpa [Fsum, xloop, xfind, c_1] using hsp_4)
      rw [hQ0]
      exact x_iret hx hb hret hlocks rfl hW rfl dX4_lightUnits_31
    | succ k_4 ih_4 =>
      intro i da hik_4  hsp_4 H locs ls hW hl
      refine lv_iload_n hx hb dX4_lightUnits_4 rfl (lv_at hl 2 rfl) ?_
      refine lv_aload_n hx hb dX4_lightUnits_5 rfl (lv_at hl 0 rfl) ?_
      refine r_get hx hb hts hown hK hW (C := RX4) (T := TX4) (xF_street r hr) inlX4 rfl (by decide) 4 (by decide) (xr_street r hr).2.2.2.2.1 xw_103 rfl (x := nI n) hn dX4_lightUnits_6 ?_
      refine lv_icmp_ge (tgt := 30) hx hb dX4_lightUnits_9 (by decide) (fun c_2 => absurd c_2 (nI_ge (by omega) (by omega))) (fun c_2 => ?_)
      refine lv_iload_n hx hb dX4_lightUnits_12 rfl (lv_at hl 1 rfl) ?_
      refine lv_aload_n hx hb dX4_lightUnits_13 rfl (lv_at hl 0 rfl) ?_
      refine r_getr (C := RX4) (T := TX4) hx hb hts hown hK hW (xF_street r hr).1 (xF_street r hr).2.1 inlX4 rfl (by decide) 1 (by decide) (xr_street r hr).2.1 xw_36 rfl dX4_lightUnits_14 ?_
      refine lv_iload_n hx hb dX4_lightUnits_17 rfl (lv_at hl 2 rfl) ?_
      refine r_aald hx hb hK hW (xF_lamps r hr).1 (xF_lamps r hr).2 (by decide) 4 rfl i (by omega) (by decide) rfl (xr_lamps r hr i (by omega)) dX4_lightUnits_18 ?_
      refine r_get hx hb hts hown hK hW (C := RX2) (T := TX2) (xF_lamp r hr i (by omega)) inlX2 rfl (by decide) 7 (by decide) (xr_lamp r hr i (by omega) 7 (by decide)) xw_661 rfl (x := L i 7) rfl dX4_lightUnits_19 ?_
      refine lv_iadd hx hb dX4_lightUnits_22 ?_
      refine lv_istore_n (lv' := [(1, .int (da + (L i 7))), (0, .ref (xB X + xkey r 0 0)), (2, .int (nI i))]) hx hb dX4_lightUnits_23 rfl hl (by decide) rfl (fun ls hl => ?_)
      refine lv_iinc (v := nI (i + 1)) (lv' := [(2, .int (nI (i + 1))), (1, .int (da + (L i 7))), (0, .ref (xB X + xkey r 0 0))]) hx hb dX4_lightUnits_24 hl (k := 2) rfl (nI_1 i) (by decide) rfl (fun ls hl => ?_)
      refine lv_goto (tgt := 4) hx hb dX4_lightUnits_27 (by decide) ?_
      refine ih_4 (i + 1) (da + (L i 7)) (by omega)  ?_ H locs ls hW (lv_sub hl [2, 1, 0] rfl)
      rw [← hsp_4]; simp [xloop, xfind, Fsum, c_2]
  exact loop_4 n 0 0 (by omega)  rfl _ _ _ hW (lv_sub hl [2, 1, 0] rfl)
set_option maxHeartbeats 4000000 in
set_option maxRecDepth 100000 in
theorem c_X4_disturbedTicks (l : Launch) (X : xX) (G : xG) {r : Nat} {f sg : Nat → Int32} {L O Y P Q : Nat → Nat → Int32} {nh : Nat}  (hr : r < 11) (hh : f 5 = nI nh) (hh8 : nh ≤ 8) {res : Int32} (hres : (Fsum nh 1 O) = res) : XC l yX4_disturbedTicks cX4_disturbedTicks 3 (some .int) 0 0 0 0 X xsh [.ref (xB X + xkey r 0 0)] 603 603 (xval (xB X) (va_up G r (xSt f sg L O Y P Q))) (xval (xB X) (va_up G r (xSt f sg L O Y P Q))) (some (.int res)) := by
  refine XC.of RX4 "disturbedTicks" [(0, .ref (xB X + xkey r 0 0))] (by decide) rfl rfl (Nat.le_of_ble_eq_true rfl) rfl ?_
  intro p e s m args below meth c ls hx hb hret hml hts hown hlocks hnm hK hW hl
  have hW : XR X G r (xSt f sg L O Y P Q) s.heap [] := hW
  obtain ⟨Q0, hQ0⟩ : ∃ z, z = MQ below (xQ X xsh 603 (xval (xB X) (va_up G r (xSt f sg L O Y P Q))) (some (.int res))) args s 0 0 (fun q => xB X ≤ q) := ⟨_, rfl⟩
  rw [← hQ0]
  refine lv_iconst (v := 0) hx hb dX4_disturbedTicks_0 (by decide) ?_
  refine lv_istore_n (lv' := [(1, .int 0), (0, .ref (xB X + xkey r 0 0))]) hx hb dX4_disturbedTicks_1 rfl hl (by decide) rfl (fun ls hl => ?_)
  refine lv_iconst (v := nI 0) hx hb dX4_disturbedTicks_2 (by decide) ?_
  refine lv_istore_n (lv' := [(2, .int (nI 0)), (1, .int 0), (0, .ref (xB X + xkey r 0 0))]) hx hb dX4_disturbedTicks_3 rfl hl (by decide) rfl (fun ls hl => ?_)
  have loop_4 : ∀ (k_4 i : Nat) (da : Int32), i + k_4 = nh → xloop (fun i s => s + O i 1) k_4 i da = xloop (fun i s => s + O i 1) nh 0 0 → ∀ (H : Heap) (locs : List Loc) (ls : Array Slot), XR X G r (xSt f sg L O Y P Q) H locs → lv_has ls 3 [(0, .ref (xB X + xkey r 0 0)), (1, .int da), (2, .int (nI i))] → W p l e { frames := 0, cells := 0, slots := 0, locals := 0 } s m args below meth c H locs 0 0 Q0 (F0 m 4 ls []) := by
    intro k_4
    induction k_4 with
    | zero =>
      intro i da hik_4  hsp_4 H locs ls hW hl
      refine lv_iload_n hx hb dX4_disturbedTicks_4 rfl (lv_at hl 2 rfl) ?_
      refine lv_aload_n hx hb dX4_disturbedTicks_5 rfl (lv_at hl 0 rfl) ?_
      refine r_get hx hb hts hown hK hW (C := RX4) (T := TX4) (xF_street r hr) inlX4 rfl (by decide) 5 (by decide) (xr_street r hr).2.2.2.2.2.1 xw_104 rfl (x := nI nh) hh dX4_disturbedTicks_6 ?_
      refine lv_icmp_ge (tgt := 30) hx hb dX4_disturbedTicks_9 (by decide) (fun c_1 => ?_) (fun c_1 => absurd (xge_refl (by omega)) c_1)
      refine lv_iload_n hx hb dX4_disturbedTicks_30 rfl (lv_at hl 1 rfl) ?_
      obtain rfl : da = res := by (rw [← hres]) <;> (simpa [Fsum, xloop, xfind, c_1] using hsp_4)
      rw [hQ0]
      exact x_iret hx hb hret hlocks rfl hW rfl dX4_disturbedTicks_31
    | succ k_4 ih_4 =>
      intro i da hik_4  hsp_4 H locs ls hW hl
      refine lv_iload_n hx hb dX4_disturbedTicks_4 rfl (lv_at hl 2 rfl) ?_
      refine lv_aload_n hx hb dX4_disturbedTicks_5 rfl (lv_at hl 0 rfl) ?_
      refine r_get hx hb hts hown hK hW (C := RX4) (T := TX4) (xF_street r hr) inlX4 rfl (by decide) 5 (by decide) (xr_street r hr).2.2.2.2.2.1 xw_104 rfl (x := nI nh) hh dX4_disturbedTicks_6 ?_
      refine lv_icmp_ge (tgt := 30) hx hb dX4_disturbedTicks_9 (by decide) (fun c_2 => absurd c_2 (nI_ge (by omega) (by omega))) (fun c_2 => ?_)
      refine lv_iload_n hx hb dX4_disturbedTicks_12 rfl (lv_at hl 1 rfl) ?_
      refine lv_aload_n hx hb dX4_disturbedTicks_13 rfl (lv_at hl 0 rfl) ?_
      refine r_getr (C := RX4) (T := TX4) hx hb hts hown hK hW (xF_street r hr).1 (xF_street r hr).2.1 inlX4 rfl (by decide) 2 (by decide) (xr_street r hr).2.2.1 xw_38 rfl dX4_disturbedTicks_14 ?_
      refine lv_iload_n hx hb dX4_disturbedTicks_17 rfl (lv_at hl 2 rfl) ?_
      refine r_aald hx hb hK hW (xF_houses r hr).1 (xF_houses r hr).2 (by decide) 5 rfl i (by omega) (by decide) rfl (xr_houses r hr i (by omega)) dX4_disturbedTicks_18 ?_
      refine r_get hx hb hts hown hK hW (C := RX1) (T := TX1) (xF_house r hr i (by omega)) inlX1 rfl (by decide) 1 (by decide) (xr_house r hr i (by omega) 1 (by decide)) xw_462 rfl (x := O i 1) rfl dX4_disturbedTicks_19 ?_
      refine lv_iadd hx hb dX4_disturbedTicks_22 ?_
      refine lv_istore_n (lv' := [(1, .int (da + (O i 1))), (0, .ref (xB X + xkey r 0 0)), (2, .int (nI i))]) hx hb dX4_disturbedTicks_23 rfl hl (by decide) rfl (fun ls hl => ?_)
      refine lv_iinc (v := nI (i + 1)) (lv' := [(2, .int (nI (i + 1))), (1, .int (da + (O i 1))), (0, .ref (xB X + xkey r 0 0))]) hx hb dX4_disturbedTicks_24 hl (k := 2) rfl (nI_1 i) (by decide) rfl (fun ls hl => ?_)
      refine lv_goto (tgt := 4) hx hb dX4_disturbedTicks_27 (by decide) ?_
      refine ih_4 (i + 1) (da + (O i 1)) (by omega)  ?_ H locs ls hW (lv_sub hl [2, 1, 0] rfl)
      rw [← hsp_4]; simp [xloop, xfind, Fsum, c_2]
  exact loop_4 nh 0 0 (by omega)  rfl _ _ _ hW (lv_sub hl [2, 1, 0] rfl)
set_option maxHeartbeats 4000000 in
set_option maxRecDepth 100000 in
theorem c_X4_coughsSoFar (l : Launch) (X : xX) (G : xG) {r : Nat} {f sg : Nat → Int32} {L O Y P Q : Nat → Nat → Int32} {n : Nat}  (hr : r < 11) (hn : f 4 = nI n) (hn16 : n ≤ 16) {res : Int32} (hres : (Fsum n 8 L) = res) : XC l yX4_coughsSoFar cX4_coughsSoFar 3 (some .int) 0 0 0 0 X xsh [.ref (xB X + xkey r 0 0)] 603 603 (xval (xB X) (va_up G r (xSt f sg L O Y P Q))) (xval (xB X) (va_up G r (xSt f sg L O Y P Q))) (some (.int res)) := by
  refine XC.of RX4 "coughsSoFar" [(0, .ref (xB X + xkey r 0 0))] (by decide) rfl rfl (Nat.le_of_ble_eq_true rfl) rfl ?_
  intro p e s m args below meth c ls hx hb hret hml hts hown hlocks hnm hK hW hl
  have hW : XR X G r (xSt f sg L O Y P Q) s.heap [] := hW
  obtain ⟨Q0, hQ0⟩ : ∃ z, z = MQ below (xQ X xsh 603 (xval (xB X) (va_up G r (xSt f sg L O Y P Q))) (some (.int res))) args s 0 0 (fun q => xB X ≤ q) := ⟨_, rfl⟩
  rw [← hQ0]
  refine lv_iconst (v := 0) hx hb dX4_coughsSoFar_0 (by decide) ?_
  refine lv_istore_n (lv' := [(1, .int 0), (0, .ref (xB X + xkey r 0 0))]) hx hb dX4_coughsSoFar_1 rfl hl (by decide) rfl (fun ls hl => ?_)
  refine lv_iconst (v := nI 0) hx hb dX4_coughsSoFar_2 (by decide) ?_
  refine lv_istore_n (lv' := [(2, .int (nI 0)), (1, .int 0), (0, .ref (xB X + xkey r 0 0))]) hx hb dX4_coughsSoFar_3 rfl hl (by decide) rfl (fun ls hl => ?_)
  have loop_4 : ∀ (k_4 i : Nat) (da : Int32), i + k_4 = n → xloop (fun i s => s + L i 8) k_4 i da = xloop (fun i s => s + L i 8) n 0 0 → ∀ (H : Heap) (locs : List Loc) (ls : Array Slot), XR X G r (xSt f sg L O Y P Q) H locs → lv_has ls 3 [(0, .ref (xB X + xkey r 0 0)), (1, .int da), (2, .int (nI i))] → W p l e { frames := 0, cells := 0, slots := 0, locals := 0 } s m args below meth c H locs 0 0 Q0 (F0 m 4 ls []) := by
    intro k_4
    induction k_4 with
    | zero =>
      intro i da hik_4  hsp_4 H locs ls hW hl
      refine lv_iload_n hx hb dX4_coughsSoFar_4 rfl (lv_at hl 2 rfl) ?_
      refine lv_aload_n hx hb dX4_coughsSoFar_5 rfl (lv_at hl 0 rfl) ?_
      refine r_get hx hb hts hown hK hW (C := RX4) (T := TX4) (xF_street r hr) inlX4 rfl (by decide) 4 (by decide) (xr_street r hr).2.2.2.2.1 xw_103 rfl (x := nI n) hn dX4_coughsSoFar_6 ?_
      refine lv_icmp_ge (tgt := 30) hx hb dX4_coughsSoFar_9 (by decide) (fun c_1 => ?_) (fun c_1 => absurd (xge_refl (by omega)) c_1)
      refine lv_iload_n hx hb dX4_coughsSoFar_30 rfl (lv_at hl 1 rfl) ?_
      obtain rfl : da = res := by (rw [← hres]) <;> (simpa [Fsum, xloop, xfind, c_1] using hsp_4)
      rw [hQ0]
      exact x_iret hx hb hret hlocks rfl hW rfl dX4_coughsSoFar_31
    | succ k_4 ih_4 =>
      intro i da hik_4  hsp_4 H locs ls hW hl
      refine lv_iload_n hx hb dX4_coughsSoFar_4 rfl (lv_at hl 2 rfl) ?_
      refine lv_aload_n hx hb dX4_coughsSoFar_5 rfl (lv_at hl 0 rfl) ?_
      refine r_get hx hb hts hown hK hW (C := RX4) (T := TX4) (xF_street r hr) inlX4 rfl (by decide) 4 (by decide) (xr_street r hr).2.2.2.2.1 xw_103 rfl (x := nI n) hn dX4_coughsSoFar_6 ?_
      refine lv_icmp_ge (tgt := 30) hx hb dX4_coughsSoFar_9 (by decide) (fun c_2 => absurd c_2 (nI_ge (by omega) (by omega))) (fun c_2 => ?_)
      refine lv_iload_n hx hb dX4_coughsSoFar_12 rfl (lv_at hl 1 rfl) ?_
      refine lv_aload_n hx hb dX4_coughsSoFar_13 rfl (lv_at hl 0 rfl) ?_
      refine r_getr (C := RX4) (T := TX4) hx hb hts hown hK hW (xF_street r hr).1 (xF_street r hr).2.1 inlX4 rfl (by decide) 1 (by decide) (xr_street r hr).2.1 xw_36 rfl dX4_coughsSoFar_14 ?_
      refine lv_iload_n hx hb dX4_coughsSoFar_17 rfl (lv_at hl 2 rfl) ?_
      refine r_aald hx hb hK hW (xF_lamps r hr).1 (xF_lamps r hr).2 (by decide) 4 rfl i (by omega) (by decide) rfl (xr_lamps r hr i (by omega)) dX4_coughsSoFar_18 ?_
      refine r_get hx hb hts hown hK hW (C := RX2) (T := TX2) (xF_lamp r hr i (by omega)) inlX2 rfl (by decide) 8 (by decide) (xr_lamp r hr i (by omega) 8 (by decide)) xw_345 rfl (x := L i 8) rfl dX4_coughsSoFar_19 ?_
      refine lv_iadd hx hb dX4_coughsSoFar_22 ?_
      refine lv_istore_n (lv' := [(1, .int (da + (L i 8))), (0, .ref (xB X + xkey r 0 0)), (2, .int (nI i))]) hx hb dX4_coughsSoFar_23 rfl hl (by decide) rfl (fun ls hl => ?_)
      refine lv_iinc (v := nI (i + 1)) (lv' := [(2, .int (nI (i + 1))), (1, .int (da + (L i 8))), (0, .ref (xB X + xkey r 0 0))]) hx hb dX4_coughsSoFar_24 hl (k := 2) rfl (nI_1 i) (by decide) rfl (fun ls hl => ?_)
      refine lv_goto (tgt := 4) hx hb dX4_coughsSoFar_27 (by decide) ?_
      refine ih_4 (i + 1) (da + (L i 8)) (by omega)  ?_ H locs ls hW (lv_sub hl [2, 1, 0] rfl)
      rw [← hsp_4]; simp [xloop, xfind, Fsum, c_2]
  exact loop_4 n 0 0 (by omega)  rfl _ _ _ hW (lv_sub hl [2, 1, 0] rfl)
