/-! ===== the model: forecasts ===== -/
theorem xngt {a b : Nat} (h : b ≤ a) (ha : a < 2 ^ 31) : ¬ nI a < nI b := by
  intro c
  rcases Nat.lt_or_ge a b with q | q
  · omega
  · exact absurd c (Int32.not_lt.mpr (by
      rcases Nat.lt_or_eq_of_le q with q | q
      · exact Int32.le_of_lt (nI_lt q ha)
      · rw [q]; exact Int32.le_refl _))
theorem xasym {a b : Int32} (h : a < b) : ¬ b < a := fun c => absurd (Int32.lt_trans h c) Int32.lt_irrefl
theorem xgne {a b : Int32} (h : b < a) : ¬ a = b := fun c => absurd h (by rw [c]; exact Int32.lt_irrefl)
def Mhome : Nat → Nat → (Nat → Int32) → Int32
  | 0, _, _ => -6
  | k + 1, i, r => if Mstr r = 0 then nI i else Mhome k (i + 1) (Mgo r (r 3).toNatClampNeg)
def Mbrought (n nh nw m : Nat) (w : Int32) (q : xM6) : Int32 := Mcounted n nh nw w (Mticks n nh nw m q).2.1 (Mticks n nh nw m q).2.2.1 (Mticks n nh nw m q).2.2.2.1 - Mcounted n nh nw w q.2.1 q.2.2.1 q.2.2.2.1
def Mbr {α : Type} (x w : Int32) (A B : α) : α := if Fin3 x 1 200 = 0 then A else if Fin3 w 0 3 = 0 then A else B
theorem MW_ticks {n nh nw : Nat} : ∀ (k i : Nat) (q : xM6), (∀ j, j < 8 → MW (q.2.2.2.1 j)) → ∀ j, j < 8 → MW ((xloop (fun _ q => Mpass n nh nw q) k i q).2.2.2.1 j)
  | 0, _, _, h => h
  | k + 1, i, q, h => MW_ticks k (i + 1) (Mpass n nh nw q) (MW_pass h)
abbrev xM7 : Type := (Nat → Int32) × (Nat → Int32) × (Nat → Int32) × (Nat → Int32) × Int32 × Int32 × Int32
def Mb1 (L O Y : Nat → Nat → Int32) (i : Nat) (z : xM7) : xM6 := (va_up z.1 1 (nI i), L, O, Y, z.2.2.1, z.2.2.2.1)
def Mb2 (n nh nw m : Nat) (L O Y : Nat → Nat → Int32) (q : xM6) : xM6 := (q.1, L, O, Y, (Mticks n nh nw m q).2.2.2.2.1, (Mticks n nh nw m q).2.2.2.2.2)
def Mbu (n nh nw m : Nat) (L O Y : Nat → Nat → Int32) (i : Nat) (z : xM7) : Int32 := if z.2.2.2.2.1 < 0 ∨ Mbrought n nh nw m 0 (Mb1 L O Y i z) ≤ z.2.2.2.2.2.1 then Mbrought n nh nw m 1 (Mb2 n nh nw m L O Y (Mb1 L O Y i z)) else 0
def Mb4 (n nh nw m : Nat) (L O Y : Nat → Nat → Int32) (i : Nat) (z : xM7) : (Nat → Int32) × (Nat → Int32) × (Nat → Int32) :=
  if z.2.2.2.2.1 < 0 ∨ Mbrought n nh nw m 0 (Mb1 L O Y i z) ≤ z.2.2.2.2.2.1 then
    (Mcp (xat (va_up z.1 1 (nI i)) L O Y) (Mcp (xat (va_up z.1 1 (nI i)) L O Y) z.2.1), (Mticks n nh nw m (Mb2 n nh nw m L O Y (Mb1 L O Y i z))).2.2.2.2.1, (Mticks n nh nw m (Mb2 n nh nw m L O Y (Mb1 L O Y i z))).2.2.2.2.2)
  else (Mcp (xat (va_up z.1 1 (nI i)) L O Y) z.2.1, (Mticks n nh nw m (Mb1 L O Y i z)).2.2.2.2.1, (Mticks n nh nw m (Mb1 L O Y i z)).2.2.2.2.2)
def Mbest1 (n nh nw m : Nat) (L O Y : Nat → Nat → Int32) (i : Nat) (z : xM7) : xM7 :=
  (va_up z.1 1 (nI i), (Mb4 n nh nw m L O Y i z).1, (Mb4 n nh nw m L O Y i z).2.1, (Mb4 n nh nw m L O Y i z).2.2,
   if z.2.2.2.2.1 < 0 ∨ Mbrought n nh nw m 0 (Mb1 L O Y i z) < z.2.2.2.2.2.1 ∨ (Mbrought n nh nw m 0 (Mb1 L O Y i z) = z.2.2.2.2.2.1 ∧ Mbu n nh nw m L O Y i z < z.2.2.2.2.2.2)
   then (nI i, Mbrought n nh nw m 0 (Mb1 L O Y i z), Mbu n nh nw m L O Y i z) else z.2.2.2.2)
def Mbest (n nh nw m : Nat) (L O Y : Nat → Nat → Int32) (sg pe pg ph : Nat → Int32) : xM7 := xloop (Mbest1 n nh nw m L O Y) 60 1 (sg, pe, pg, ph, -6, 0, 0)
def Mwo (n nh nw i : Nat) (q : xM6) : xM6 := Mticks n nh nw 100 (q.1, va_up q.2.1 i (Mmend 2 (q.2.1 i)), q.2.2)
def Mneed1 (n nh nw : Nat) (d : Int32) (sg : Nat → Int32) (L O Y : Nat → Nat → Int32) (i : Nat) (z : (Nat → Int32) × (Nat → Int32) × (Nat → Int32) × Int32) : (Nat → Int32) × (Nat → Int32) × (Nat → Int32) × Int32 :=
  (Mcp (xat sg L O Y) z.1, (Mwo n nh nw i (sg, L, O, Y, z.2.1, z.2.2.1)).2.2.2.2.1, (Mwo n nh nw i (sg, L, O, Y, z.2.1, z.2.2.1)).2.2.2.2.2,
   if Msum nw 5 (Mwo n nh nw i (sg, L, O, Y, z.2.1, z.2.2.1)).2.2.2.1 - Msum nw 5 Y ≤ d then z.2.2.2 ||| xbit i else z.2.2.2 ||| 0)
def Mneed (n nh nw : Nat) (sg : Nat → Int32) (L O Y : Nat → Nat → Int32) (pe pg ph : Nat → Int32) : (Nat → Int32) × (Nat → Int32) × (Nat → Int32) × Int32 :=
  xloop (Mneed1 n nh nw (Mbrought n nh nw 100 0 (sg, L, O, Y, pg, ph)) sg L O Y) n 0 (Mcp (xat sg L O Y) pe, (Mticks n nh nw 100 (sg, L, O, Y, pg, ph)).2.2.2.2.1, (Mticks n nh nw 100 (sg, L, O, Y, pg, ph)).2.2.2.2.2, 0)
theorem hdV_yX7_homeIn : yX7_homeIn.cls = RX7 ∧ yX7_homeIn.cls ≠ "java/lang/invoke/MethodHandle" ∧ yX7_homeIn.cls ≠ "java/lang/invoke/VarHandle" ∧ (parseMethodDescriptor yX7_homeIn.desc).map (fun d => d.parameters.length) = some 1 := by decide +kernel
theorem hdV_yX7_brought : yX7_brought.cls = RX7 ∧ yX7_brought.cls ≠ "java/lang/invoke/MethodHandle" ∧ yX7_brought.cls ≠ "java/lang/invoke/VarHandle" ∧ (parseMethodDescriptor yX7_brought.desc).map (fun d => d.parameters.length) = some 2 := by decide +kernel
theorem hdV_yX7_brings : yX7_brings.cls = RX7 ∧ yX7_brings.cls ≠ "java/lang/invoke/MethodHandle" ∧ yX7_brings.cls ≠ "java/lang/invoke/VarHandle" ∧ (parseMethodDescriptor yX7_brings.desc).map (fun d => d.parameters.length) = some 2 := by decide +kernel
theorem hdV_yX7_bestReach : yX7_bestReach.cls = RX7 ∧ yX7_bestReach.cls ≠ "java/lang/invoke/MethodHandle" ∧ yX7_bestReach.cls ≠ "java/lang/invoke/VarHandle" ∧ (parseMethodDescriptor yX7_bestReach.desc).map (fun d => d.parameters.length) = some 1 := by decide +kernel
theorem hdV_yX7_darkWithout : yX7_darkWithout.cls = RX7 ∧ yX7_darkWithout.cls ≠ "java/lang/invoke/MethodHandle" ∧ yX7_darkWithout.cls ≠ "java/lang/invoke/VarHandle" ∧ (parseMethodDescriptor yX7_darkWithout.desc).map (fun d => d.parameters.length) = some 1 := by decide +kernel
theorem hdV_yX7_needless : yX7_needless.cls = RX7 ∧ yX7_needless.cls ≠ "java/lang/invoke/MethodHandle" ∧ yX7_needless.cls ≠ "java/lang/invoke/VarHandle" ∧ (parseMethodDescriptor yX7_needless.desc).map (fun d => d.parameters.length) = some 0 := by decide +kernel
set_option maxHeartbeats 4000000 in
set_option maxRecDepth 100000 in
theorem c_X7_homeIn (l : Launch) (X : xX) (G : xG) {f sg pb pc pd pe pg ph pp pq pt pu : Nat → Int32} {L O Y : Nat → Nat → Int32} {nw : Nat} {x : Int32} (hw : sg 9 = nI nw) (hw8 : nw ≤ 8) (hY : ∀ j, j < 8 → MW (Y j)) {pe' : Nat → Int32} (ho0 : (Mof (sg 9) x pe (Mcp (xat sg L O Y) pe)) = pe') {res : Int32} (hres : (Mof (sg 9) x (-1) (Mhome 501 0 (Y x.toNatClampNeg))) = res) : XC l yX7_homeIn cX7_homeIn 3 (some .int) 4 90 0 0 X xsh [.ref (xB X + xkey 12 0 0), .int x] 603 603 (xval (xB X) (va_up G 12 (xMa f sg L O Y pb pc pd pe pg ph pp pq pt pu))) (xval (xB X) (va_up G 12 (xMa f sg L O Y pb pc pd pe' pg ph pp pq pt pu))) (some (.int res)) := by
  refine XC.of RX7 "homeIn" [(0, .ref (xB X + xkey 12 0 0)), (1, .int x)] (by decide) rfl rfl (Nat.le_of_ble_eq_true rfl) rfl ?_
  intro p e s m args below meth c ls hx hb hret hml hts hown hlocks hnm hK hW hl
  have hW : XR X G 12 (xMa f sg L O Y pb pc pd pe pg ph pp pq pt pu) s.heap [] := hW
  obtain ⟨Q0, hQ0⟩ : ∃ z, z = MQ below (xQ X xsh 603 (xval (xB X) (va_up G 12 (xMa f sg L O Y pb pc pd pe' pg ph pp pq pt pu))) (some (.int res))) args s 0 0 (fun q => xB X ≤ q) := ⟨_, rfl⟩
  rw [← hQ0]
  refine lv_aload_n hx hb dX7_homeIn_0 rfl (lv_at hl 0 rfl) ?_
  refine lv_iload_n hx hb dX7_homeIn_1 rfl (lv_at hl 1 rfl) ?_
  refine x_callV hx hb hml hown hts hK hW hl.1 (c_X7_isWalker l X G (x := x)  (hres := rfl)) (xF_mo0).1 (xF_mo0).2.1 (by decide) rfl xw_274 xw_275 xw_276 xw_5 xw_277 hdV_yX7_isWalker ⟨Nat.le_of_ble_eq_true rfl, Nat.le_of_ble_eq_true rfl⟩ rfl (Nat.le_of_ble_eq_true rfl) ⟨Nat.le_refl _, Nat.le_refl _⟩ dX7_homeIn_2 (fun H locs hW => ?_)
  refine lv_if_ne (tgt := 10) hx hb dX7_homeIn_5 (by decide) (fun c_1 => ?_) (fun c_1 => ?_)
  · skip
    have hx9 := xin hw (by omega) c_1
    have hx8 : x.toNatClampNeg < nw := hx9.1
    refine lv_aload_n hx hb dX7_homeIn_10 rfl (lv_at hl 0 rfl) ?_
    refine x_callV hx hb hml hown hts hK hW hl.1 (c_X7_layAside l X G   (ho0 := rfl)) (xF_mo0).1 (xF_mo0).2.1 (by decide) rfl xw_706 xw_707 xw_708 xw_5 xw_709 hdV_yX7_layAside ⟨Nat.le_of_ble_eq_true rfl, Nat.le_of_ble_eq_true rfl⟩ rfl (Nat.le_of_ble_eq_true rfl) ⟨Nat.le_refl _, Nat.le_refl _⟩ dX7_homeIn_11 (fun H locs hW => ?_)
    have hW : XR X G 12 (xMa f sg L O Y pb pc pd (Mcp (xat sg L O Y) pe) pg ph pp pq pt pu) H locs := hW
    have hW := XR.mfoc4 hW x.toNatClampNeg
    refine lv_iconst (v := nI 0) hx hb dX7_homeIn_14 (by decide) ?_
    refine lv_istore_n (lv' := [(2, .int (nI 0)), (0, .ref (xB X + xkey 12 0 0)), (1, .int x)]) hx hb dX7_homeIn_15 rfl hl (by decide) rfl (fun ls hl => ?_)
    have loop_16 : ∀ (k_16 i : Nat) (ω : Nat → Int32), i + k_16 = 501 → MW ω → Mhome k_16 i ω = Mhome 501 0 (Y x.toNatClampNeg) → ∀ (H : Heap) (locs : List Loc) (ls : Array Slot), XR X G 12 (xMa f sg L O (va_up Y x.toNatClampNeg ω) pb pc pd (Mcp (xat sg L O Y) pe) pg ph pp pq pt pu) H locs → lv_has ls 3 [(0, .ref (xB X + xkey 12 0 0)), (1, .int x), (2, .int (nI i))] → W p l e { frames := 4, cells := 0, slots := 0, locals := 90 } s m args below meth c H locs 0 0 Q0 (F0 m 16 ls []) := by
      intro k_16
      induction k_16 with
      | zero =>
        intro i ω hik_16 hv0_16 hsp_16 H locs ls hW hl
        refine lv_iload_n hx hb dX7_homeIn_16 rfl (lv_at hl 2 rfl) ?_
        refine lv_sipush (v := nI 500) hx hb dX7_homeIn_17 (by decide) ?_
        refine lv_icmp_gt (tgt := 42) hx hb dX7_homeIn_20 (by decide) (fun c_2 => ?_) (fun c_2 => absurd (nI_lt (by omega) (by omega)) c_2)
        refine lv_aload_n hx hb dX7_homeIn_42 rfl (lv_at hl 0 rfl) ?_
        refine x_callV hx hb hml hown hts hK hW hl.1 (c_X7_layBack l X G (sg0 := sg) (L0 := L) (O0 := O) (Y0 := Y) (hpe := (fun k hk => Mcp_at hk)) (ho0 := rfl) (ho1 := rfl) (ho2 := rfl) (ho3 := rfl)) (xF_mo0).1 (xF_mo0).2.1 (by decide) rfl xw_710 xw_711 xw_712 xw_5 xw_713 hdV_yX7_layBack ⟨Nat.le_of_ble_eq_true rfl, Nat.le_of_ble_eq_true rfl⟩ rfl (Nat.le_of_ble_eq_true rfl) ⟨Nat.le_refl _, Nat.le_refl _⟩ dX7_homeIn_43 (fun H locs hW => ?_)
        have hW : XR X G 12 (xMa f (sg) (L) (O) (Y) pb pc pd (Mcp (xat sg L O Y) pe) pg ph pp pq pt pu) H locs := hW
        refine lv_iload_n hx hb dX7_homeIn_46 rfl (lv_at hl 2 rfl) ?_
        refine lv_sipush (v := nI 500) hx hb dX7_homeIn_47 (by decide) ?_
        refine lv_icmp_gt (tgt := 57) hx hb dX7_homeIn_50 (by decide) (fun c_3 => ?_) (fun c_3 => absurd (nI_lt (by omega) (by omega)) c_3)
        refine lv_bipush (v := (-6)) hx hb dX7_homeIn_57 (by decide) ?_
        obtain rfl : (Mcp (xat sg L O Y) pe) = pe' := by (rw [← ho0]) <;> (first | (simp [Mof, c_1, c_2, c_3]; done) | (simp only [Mof, if_neg c_1]; rw [← hsp_16]; simp [Mhome, c_1, c_2, c_3]))
        obtain rfl : (-6) = res := by (rw [← hres]) <;> (first | (simp [Mof, c_1, c_2, c_3]; done) | (simp only [Mof, if_neg c_1]; rw [← hsp_16]; simp [Mhome, c_1, c_2, c_3]))
        rw [hQ0]
        exact x_iret hx hb hret hlocks rfl hW rfl dX7_homeIn_59
      | succ k_16 ih_16 =>
        intro i ω hik_16 hv0_16 hsp_16 H locs ls hW hl
        refine lv_iload_n hx hb dX7_homeIn_16 rfl (lv_at hl 2 rfl) ?_
        refine lv_sipush (v := nI 500) hx hb dX7_homeIn_17 (by decide) ?_
        refine lv_icmp_gt (tgt := 42) hx hb dX7_homeIn_20 (by decide) (fun c_4 => absurd c_4 (xngt (by omega) (by omega))) (fun c_4 => ?_)
        refine lv_aload_n hx hb dX7_homeIn_23 rfl (lv_at hl 0 rfl) ?_
        refine lv_iload_n hx hb dX7_homeIn_24 rfl (lv_at hl 1 rfl) ?_
        refine lv_eqi (y := nI x.toNatClampNeg) hx9.2 ?_
        refine x_callV hx hb hml hown hts hK hW hl.1 (c_X7_isInStreet l X G (i := x.toNatClampNeg) (hi := (by omega)) (hres := rfl)) (xF_mo0).1 (xF_mo0).2.1 (by decide) rfl xw_282 xw_283 xw_284 xw_5 xw_285 hdV_yX7_isInStreet ⟨Nat.le_of_ble_eq_true rfl, Nat.le_of_ble_eq_true rfl⟩ rfl (Nat.le_of_ble_eq_true rfl) ⟨Nat.le_refl _, Nat.le_refl _⟩ dX7_homeIn_25 (fun H locs hW => ?_)
        refine lv_eqi (y := Mstr ω) (congrArg Mstr va_up_at) ?_
        refine lv_if_eq (tgt := 42) hx hb dX7_homeIn_28 (by decide) (fun c_5 => ?_) (fun c_5 => ?_)
        · skip
          refine lv_aload_n hx hb dX7_homeIn_42 rfl (lv_at hl 0 rfl) ?_
          refine x_callV hx hb hml hown hts hK hW hl.1 (c_X7_layBack l X G (sg0 := sg) (L0 := L) (O0 := O) (Y0 := Y) (hpe := (fun k hk => Mcp_at hk)) (ho0 := rfl) (ho1 := rfl) (ho2 := rfl) (ho3 := rfl)) (xF_mo0).1 (xF_mo0).2.1 (by decide) rfl xw_710 xw_711 xw_712 xw_5 xw_713 hdV_yX7_layBack ⟨Nat.le_of_ble_eq_true rfl, Nat.le_of_ble_eq_true rfl⟩ rfl (Nat.le_of_ble_eq_true rfl) ⟨Nat.le_refl _, Nat.le_refl _⟩ dX7_homeIn_43 (fun H locs hW => ?_)
          have hW : XR X G 12 (xMa f (sg) (L) (O) (Y) pb pc pd (Mcp (xat sg L O Y) pe) pg ph pp pq pt pu) H locs := hW
          refine lv_iload_n hx hb dX7_homeIn_46 rfl (lv_at hl 2 rfl) ?_
          refine lv_sipush (v := nI 500) hx hb dX7_homeIn_47 (by decide) ?_
          refine lv_icmp_gt (tgt := 57) hx hb dX7_homeIn_50 (by decide) (fun c_6 => absurd c_6 (xngt (by omega) (by omega))) (fun c_6 => ?_)
          refine lv_iload_n hx hb dX7_homeIn_53 rfl (lv_at hl 2 rfl) ?_
          refine lv_goto (tgt := 59) hx hb dX7_homeIn_54 (by decide) ?_
          obtain rfl : (Mcp (xat sg L O Y) pe) = pe' := by (rw [← ho0]) <;> (first | (simp [Mof, c_1, c_4, c_5, c_6]; done) | (simp only [Mof, if_neg c_1]; rw [← hsp_16]; simp [Mhome, c_1, c_4, c_5, c_6]))
          obtain rfl : nI i = res := by (rw [← hres]) <;> (first | (simp [Mof, c_1, c_4, c_5, c_6]; done) | (simp only [Mof, if_neg c_1]; rw [← hsp_16]; simp [Mhome, c_1, c_4, c_5, c_6]))
          rw [hQ0]
          exact x_iret hx hb hret hlocks rfl hW rfl dX7_homeIn_59
        · skip
          refine lv_aload_n hx hb dX7_homeIn_31 rfl (lv_at hl 0 rfl) ?_
          refine lv_iload_n hx hb dX7_homeIn_32 rfl (lv_at hl 1 rfl) ?_
          refine lv_eqi (y := nI x.toNatClampNeg) hx9.2 ?_
          refine x_callV hx hb hml hown hts hK hW hl.1 (c_X7_go l X G (i := x.toNatClampNeg) (g := (ω 3).toNatClampNeg) (hi := (by omega)) (hg := hv0_16.1) (hg6 := hv0_16.2) (ho0 := rfl)) (xF_mo0).1 (xF_mo0).2.1 (by decide) rfl xw_502 xw_503 xw_504 xw_5 xw_505 hdV_yX7_go ⟨Nat.le_of_ble_eq_true rfl, Nat.le_of_ble_eq_true rfl⟩ rfl (Nat.le_of_ble_eq_true rfl) ⟨Nat.le_refl _, Nat.le_refl _⟩ dX7_homeIn_33 (fun H locs hW => ?_)
          have hW : XR X G 12 (xMa f sg L O (va_up Y x.toNatClampNeg (Mgo ω ((ω 3).toNatClampNeg))) pb pc pd (Mcp (xat sg L O Y) pe) pg ph pp pq pt pu) H locs := hW
          refine lv_iinc (v := nI (i + 1)) (lv' := [(2, .int (nI (i + 1))), (0, .ref (xB X + xkey 12 0 0)), (1, .int x)]) hx hb dX7_homeIn_36 hl (k := 2) rfl (nI_1 i) (by decide) rfl (fun ls hl => ?_)
          refine lv_goto (tgt := 16) hx hb dX7_homeIn_39 (by decide) ?_
          refine ih_16 (i + 1) (Mgo ω ((ω 3).toNatClampNeg)) (by omega) (MW_go hv0_16) ?_ H locs ls hW (lv_sub hl [1, 2, 0] rfl)
          rw [← hsp_16]; simp [Mhome, c_1, c_4, c_5]
    exact loop_16 501 0 (Y x.toNatClampNeg) (by omega) (hY _ (by omega)) rfl _ _ _ hW (lv_sub hl [1, 2, 0] rfl)
  · skip
    refine lv_iconst (v := (-1)) hx hb dX7_homeIn_8 (by decide) ?_
    obtain rfl : pe = pe' := by (rw [← ho0]) <;> (first | (simp [Mof, c_1]; done) | (simp only [Mof, if_neg c_1]; rw [← hsp_16]; simp [Mhome, c_1]))
    obtain rfl : (-1) = res := by (rw [← hres]) <;> (first | (simp [Mof, c_1]; done) | (simp only [Mof, if_neg c_1]; rw [← hsp_16]; simp [Mhome, c_1]))
    rw [hQ0]
    exact x_iret hx hb hret hlocks rfl hW rfl dX7_homeIn_9
set_option maxHeartbeats 4000000 in
set_option maxRecDepth 100000 in
theorem c_X7_brought (l : Launch) (X : xX) (G : xG) {f sg pb pc pd pe pg ph pp pq pt pu : Nat → Int32} {L O Y : Nat → Nat → Int32} {n nh nw tk : Nat} {w : Int32} (hn : sg 7 = nI n) (hn16 : n ≤ 16) (hh : sg 8 = nI nh) (hh8 : nh ≤ 8) (hw : sg 9 = nI nw) (hw8 : nw ≤ 8) (hY : ∀ j, j < 8 → MW (Y j)) (hm : tk ≤ 200) {pe' : Nat → Int32} (ho0 : (Mcp (xat sg L O Y) pe) = pe') {pg' : Nat → Int32} (ho1 : ((Mticks n nh nw tk (sg, L, O, Y, pg, ph)).2.2.2.2.1) = pg') {ph' : Nat → Int32} (ho2 : ((Mticks n nh nw tk (sg, L, O, Y, pg, ph)).2.2.2.2.2) = ph') {res : Int32} (hres : (Mbrought n nh nw tk w (sg, L, O, Y, pg, ph)) = res) : XC l yX7_brought cX7_brought 5 (some .int) 5 112 0 0 X xsh [.ref (xB X + xkey 12 0 0), .int (nI tk), .int w] 603 603 (xval (xB X) (va_up G 12 (xMa f sg L O Y pb pc pd pe pg ph pp pq pt pu))) (xval (xB X) (va_up G 12 (xMa f sg L O Y pb pc pd pe' pg' ph' pp pq pt pu))) (some (.int res)) := by
  refine XC.of RX7 "brought" [(0, .ref (xB X + xkey 12 0 0)), (1, .int (nI tk)), (2, .int w)] (by decide) rfl rfl (Nat.le_of_ble_eq_true rfl) rfl ?_
  intro p e s m args below meth c ls hx hb hret hml hts hown hlocks hnm hK hW hl
  have hW : XR X G 12 (xMa f sg L O Y pb pc pd pe pg ph pp pq pt pu) s.heap [] := hW
  obtain ⟨Q0, hQ0⟩ : ∃ z, z = MQ below (xQ X xsh 603 (xval (xB X) (va_up G 12 (xMa f sg L O Y pb pc pd pe' pg' ph' pp pq pt pu))) (some (.int res))) args s 0 0 (fun q => xB X ≤ q) := ⟨_, rfl⟩
  rw [← hQ0]
  refine lv_aload_n hx hb dX7_brought_0 rfl (lv_at hl 0 rfl) ?_
  refine x_callV hx hb hml hown hts hK hW hl.1 (c_X7_layAside l X G   (ho0 := rfl)) (xF_mo0).1 (xF_mo0).2.1 (by decide) rfl xw_706 xw_707 xw_708 xw_5 xw_709 hdV_yX7_layAside ⟨Nat.le_of_ble_eq_true rfl, Nat.le_of_ble_eq_true rfl⟩ rfl (Nat.le_of_ble_eq_true rfl) ⟨Nat.le_refl _, Nat.le_refl _⟩ dX7_brought_1 (fun H locs hW => ?_)
  have hW : XR X G 12 (xMa f sg L O Y pb pc pd (Mcp (xat sg L O Y) pe) pg ph pp pq pt pu) H locs := hW
  refine lv_aload_n hx hb dX7_brought_4 rfl (lv_at hl 0 rfl) ?_
  refine lv_iload_n hx hb dX7_brought_5 rfl (lv_at hl 2 rfl) ?_
  refine x_callV hx hb hml hown hts hK hW hl.1 (c_X7_counted l X G (n := n) (nh := nh) (nw := nw) (x := w) (hn := (by assumption)) (hn16 := (by assumption)) (hh := (by assumption)) (hh8 := (by assumption)) (hw := (by assumption)) (hw8 := (by assumption)) (hres := rfl)) (xF_mo0).1 (xF_mo0).2.1 (by decide) rfl xw_732 xw_733 xw_734 xw_5 xw_735 hdV_yX7_counted ⟨Nat.le_of_ble_eq_true rfl, Nat.le_of_ble_eq_true rfl⟩ rfl (Nat.le_of_ble_eq_true rfl) ⟨Nat.le_refl _, Nat.le_refl _⟩ dX7_brought_6 (fun H locs hW => ?_)
  refine lv_istore_n (lv' := [(3, .int (Mcounted n nh nw w L O Y)), (0, .ref (xB X + xkey 12 0 0)), (1, .int (nI tk)), (2, .int w)]) hx hb dX7_brought_9 rfl hl (by decide) rfl (fun ls hl => ?_)
  refine lv_iconst (v := nI 0) hx hb dX7_brought_10 (by decide) ?_
  refine lv_istore (lv' := [(4, .int (nI 0)), (3, .int (Mcounted n nh nw w L O Y)), (0, .ref (xB X + xkey 12 0 0)), (1, .int (nI tk)), (2, .int w)]) hx hb dX7_brought_11 hl (by decide) rfl (fun ls hl => ?_)
  have loop_13 : ∀ (k_13 i : Nat) (sa : Nat → Int32) (La : Nat → Nat → Int32) (Oa : Nat → Nat → Int32) (Ya : Nat → Nat → Int32) (ga : Nat → Int32) (ha : Nat → Int32), i + k_13 = tk → sa 7 = nI n → sa 8 = nI nh → sa 9 = nI nw → (∀ j, j < 8 → MW (Ya j)) → xloop (fun _ q => Mpass n nh nw q) k_13 i (sa, La, Oa, Ya, ga, ha) = xloop (fun _ q => Mpass n nh nw q) tk 0 (sg, L, O, Y, pg, ph) → ∀ (H : Heap) (locs : List Loc) (ls : Array Slot), XR X G 12 (xMa f sa La Oa Ya pb pc pd (Mcp (xat sg L O Y) pe) ga ha pp pq pt pu) H locs → lv_has ls 5 [(0, .ref (xB X + xkey 12 0 0)), (1, .int (nI tk)), (2, .int w), (3, .int (Mcounted n nh nw w L O Y)), (4, .int (nI i))] → W p l e { frames := 5, cells := 0, slots := 0, locals := 112 } s m args below meth c H locs 0 0 Q0 (F0 m 13 ls []) := by
    intro k_13
    induction k_13 with
    | zero =>
      intro i sa La Oa Ya ga ha hik_13 hv0_13 hv1_13 hv2_13 hv3_13 hsp_13 H locs ls hW hl
      refine lv_iload hx hb dX7_brought_13 (lv_at hl 4 rfl) ?_
      refine lv_iload_n hx hb dX7_brought_15 rfl (lv_at hl 1 rfl) ?_
      refine lv_icmp_ge (tgt := 29) hx hb dX7_brought_16 (by decide) (fun c_1 => ?_) (fun c_1 => absurd (xge_refl (by omega)) c_1)
      refine lv_aload_n hx hb dX7_brought_29 rfl (lv_at hl 0 rfl) ?_
      refine lv_iload_n hx hb dX7_brought_30 rfl (lv_at hl 2 rfl) ?_
      refine x_callV hx hb hml hown hts hK hW hl.1 (c_X7_counted l X G (n := n) (nh := nh) (nw := nw) (x := w) (hn := (by assumption)) (hn16 := (by assumption)) (hh := (by assumption)) (hh8 := (by assumption)) (hw := (by assumption)) (hw8 := (by assumption)) (hres := rfl)) (xF_mo0).1 (xF_mo0).2.1 (by decide) rfl xw_732 xw_733 xw_734 xw_5 xw_735 hdV_yX7_counted ⟨Nat.le_of_ble_eq_true rfl, Nat.le_of_ble_eq_true rfl⟩ rfl (Nat.le_of_ble_eq_true rfl) ⟨Nat.le_refl _, Nat.le_refl _⟩ dX7_brought_31 (fun H locs hW => ?_)
      refine lv_iload_n hx hb dX7_brought_34 rfl (lv_at hl 3 rfl) ?_
      refine lv_isub hx hb dX7_brought_35 ?_
      refine lv_istore (lv' := [(4, .int ((Mcounted n nh nw w La Oa Ya) - (Mcounted n nh nw w L O Y))), (0, .ref (xB X + xkey 12 0 0)), (1, .int (nI tk)), (2, .int w), (3, .int (Mcounted n nh nw w L O Y))]) hx hb dX7_brought_36 hl (by decide) rfl (fun ls hl => ?_)
      refine lv_aload_n hx hb dX7_brought_38 rfl (lv_at hl 1 rfl) ?_
      refine x_callV hx hb hml hown hts hK hW hl.1 (c_X7_layBack l X G (sg0 := sg) (L0 := L) (O0 := O) (Y0 := Y) (hpe := (fun k hk => Mcp_at hk)) (ho0 := rfl) (ho1 := rfl) (ho2 := rfl) (ho3 := rfl)) (xF_mo0).1 (xF_mo0).2.1 (by decide) rfl xw_710 xw_711 xw_712 xw_5 xw_713 hdV_yX7_layBack ⟨Nat.le_of_ble_eq_true rfl, Nat.le_of_ble_eq_true rfl⟩ rfl (Nat.le_of_ble_eq_true rfl) ⟨Nat.le_refl _, Nat.le_refl _⟩ dX7_brought_39 (fun H locs hW => ?_)
      have hW : XR X G 12 (xMa f (sg) (L) (O) (Y) pb pc pd (Mcp (xat sg L O Y) pe) ga ha pp pq pt pu) H locs := hW
      refine lv_iload hx hb dX7_brought_42 (lv_at hl 0 rfl) ?_
      obtain rfl : (Mcp (xat sg L O Y) pe) = pe' := by (rw [← ho0]) <;> (have e9 : (sa, La, Oa, Ya, ga, ha) = Mticks n nh nw tk (sg, L, O, Y, pg, ph) := hsp_13; first | rfl | (unfold Mbrought; rw [← e9]) | rw [← e9])
      obtain rfl : ga = pg' := by (rw [← ho1]) <;> (have e9 : (sa, La, Oa, Ya, ga, ha) = Mticks n nh nw tk (sg, L, O, Y, pg, ph) := hsp_13; first | rfl | (unfold Mbrought; rw [← e9]) | rw [← e9])
      obtain rfl : ha = ph' := by (rw [← ho2]) <;> (have e9 : (sa, La, Oa, Ya, ga, ha) = Mticks n nh nw tk (sg, L, O, Y, pg, ph) := hsp_13; first | rfl | (unfold Mbrought; rw [← e9]) | rw [← e9])
      obtain rfl : (Mcounted n nh nw w La Oa Ya) - (Mcounted n nh nw w L O Y) = res := by (rw [← hres]) <;> (have e9 : (sa, La, Oa, Ya, ga, ha) = Mticks n nh nw tk (sg, L, O, Y, pg, ph) := hsp_13; first | rfl | (unfold Mbrought; rw [← e9]) | rw [← e9])
      rw [hQ0]
      exact x_iret hx hb hret hlocks rfl hW rfl dX7_brought_44
    | succ k_13 ih_13 =>
      intro i sa La Oa Ya ga ha hik_13 hv0_13 hv1_13 hv2_13 hv3_13 hsp_13 H locs ls hW hl
      refine lv_iload hx hb dX7_brought_13 (lv_at hl 4 rfl) ?_
      refine lv_iload_n hx hb dX7_brought_15 rfl (lv_at hl 1 rfl) ?_
      refine lv_icmp_ge (tgt := 29) hx hb dX7_brought_16 (by decide) (fun c_2 => absurd c_2 (nI_ge (by omega) (by omega))) (fun c_2 => ?_)
      refine lv_aload_n hx hb dX7_brought_19 rfl (lv_at hl 0 rfl) ?_
      refine x_callV hx hb hml hown hts hK hW hl.1 (c_X7_pass l X G (n := n) (nh := nh) (nw := nw) (hn := (by assumption)) (hn16 := (by assumption)) (hh := (by assumption)) (hh8 := (by assumption)) (hw := (by assumption)) (hw8 := (by assumption)) (hY := (by assumption)) (ho0 := rfl) (ho1 := rfl) (ho2 := rfl) (ho3 := rfl) (ho4 := rfl) (ho5 := rfl)) (xF_mo0).1 (xF_mo0).2.1 (by decide) rfl xw_498 xw_499 xw_500 xw_5 xw_501 hdV_yX7_pass ⟨Nat.le_of_ble_eq_true rfl, Nat.le_of_ble_eq_true rfl⟩ rfl (Nat.le_of_ble_eq_true rfl) ⟨Nat.le_refl _, Nat.le_refl _⟩ dX7_brought_20 (fun H locs hW => ?_)
      have hW : XR X G 12 (xMa f ((Mpass n nh nw (sa, La, Oa, Ya, ga, ha)).1) ((Mpass n nh nw (sa, La, Oa, Ya, ga, ha)).2.1) ((Mpass n nh nw (sa, La, Oa, Ya, ga, ha)).2.2.1) ((Mpass n nh nw (sa, La, Oa, Ya, ga, ha)).2.2.2.1) pb pc pd (Mcp (xat sg L O Y) pe) ((Mpass n nh nw (sa, La, Oa, Ya, ga, ha)).2.2.2.2.1) ((Mpass n nh nw (sa, La, Oa, Ya, ga, ha)).2.2.2.2.2) pp pq pt pu) H locs := hW
      refine lv_iinc (v := nI (i + 1)) (lv' := [(4, .int (nI (i + 1))), (0, .ref (xB X + xkey 12 0 0)), (1, .int (nI tk)), (2, .int w), (3, .int (Mcounted n nh nw w L O Y))]) hx hb dX7_brought_23 hl (k := 4) rfl (nI_1 i) (by decide) rfl (fun ls hl => ?_)
      refine lv_goto (tgt := 13) hx hb dX7_brought_26 (by decide) ?_
      refine ih_13 (i + 1) ((Mpass n nh nw (sa, La, Oa, Ya, ga, ha)).1) ((Mpass n nh nw (sa, La, Oa, Ya, ga, ha)).2.1) ((Mpass n nh nw (sa, La, Oa, Ya, ga, ha)).2.2.1) ((Mpass n nh nw (sa, La, Oa, Ya, ga, ha)).2.2.2.1) ((Mpass n nh nw (sa, La, Oa, Ya, ga, ha)).2.2.2.2.1) ((Mpass n nh nw (sa, La, Oa, Ya, ga, ha)).2.2.2.2.2) (by omega) hv0_13 hv1_13 hv2_13 (MW_pass (q := (sa, La, Oa, Ya, ga, ha)) hv3_13) ?_ H locs ls hW (lv_sub hl [1, 2, 3, 4, 0] rfl)
      rw [← hsp_13]; rfl
  exact loop_13 tk 0 sg L O Y pg ph (by omega) hn hh hw hY rfl _ _ _ hW (lv_sub hl [2, 3, 4, 1, 0] rfl)
set_option maxHeartbeats 4000000 in
set_option maxRecDepth 100000 in
theorem c_X7_brings (l : Launch) (X : xX) (G : xG) {f sg pb pc pd pe pg ph pp pq pt pu : Nat → Int32} {L O Y : Nat → Nat → Int32} {n nh nw : Nat} {x w : Int32} (hn : sg 7 = nI n) (hn16 : n ≤ 16) (hh : sg 8 = nI nh) (hh8 : nh ≤ 8) (hw : sg 9 = nI nw) (hw8 : nw ≤ 8) (hY : ∀ j, j < 8 → MW (Y j)) {pe' : Nat → Int32} (ho0 : (Mbr x w pe (Mcp (xat sg L O Y) pe)) = pe') {pg' : Nat → Int32} (ho1 : (Mbr x w pg ((Mticks n nh nw x.toNatClampNeg (sg, L, O, Y, pg, ph)).2.2.2.2.1)) = pg') {ph' : Nat → Int32} (ho2 : (Mbr x w ph ((Mticks n nh nw x.toNatClampNeg (sg, L, O, Y, pg, ph)).2.2.2.2.2)) = ph') {res : Int32} (hres : (Mbr x w (-2) (Mbrought n nh nw x.toNatClampNeg w (sg, L, O, Y, pg, ph))) = res) : XC l yX7_brings cX7_brings 3 (some .int) 6 136 0 0 X xsh [.ref (xB X + xkey 12 0 0), .int x, .int w] 603 603 (xval (xB X) (va_up G 12 (xMa f sg L O Y pb pc pd pe pg ph pp pq pt pu))) (xval (xB X) (va_up G 12 (xMa f sg L O Y pb pc pd pe' pg' ph' pp pq pt pu))) (some (.int res)) := by
  refine XC.of RX7 "brings" [(0, .ref (xB X + xkey 12 0 0)), (1, .int x), (2, .int w)] (by decide) rfl rfl (Nat.le_of_ble_eq_true rfl) rfl ?_
  intro p e s m args below meth c ls hx hb hret hml hts hown hlocks hnm hK hW hl
  have hW : XR X G 12 (xMa f sg L O Y pb pc pd pe pg ph pp pq pt pu) s.heap [] := hW
  obtain ⟨Q0, hQ0⟩ : ∃ z, z = MQ below (xQ X xsh 603 (xval (xB X) (va_up G 12 (xMa f sg L O Y pb pc pd pe' pg' ph' pp pq pt pu))) (some (.int res))) args s 0 0 (fun q => xB X ≤ q) := ⟨_, rfl⟩
  rw [← hQ0]
  refine lv_iload_n hx hb dX7_brings_0 rfl (lv_at hl 1 rfl) ?_
  refine lv_iconst (v := 1) hx hb dX7_brings_1 (by decide) ?_
  refine lv_sipush (v := 200) hx hb dX7_brings_2 (by decide) ?_
  refine x_callS hx hb hml hown hts hK hW hl.1 (c_X7_in l X _ (v := x) (lo := 1) (hi := 200) (hres := rfl)) xw_159 xw_160 xw_5 xw_161 hdS_yX7_in ⟨Nat.le_of_ble_eq_true rfl, Nat.le_of_ble_eq_true rfl⟩ rfl (Nat.le_of_ble_eq_true rfl) ⟨Nat.le_refl _, Nat.le_refl _⟩ dX7_brings_5 (fun H locs hW => ?_)
  refine lv_if_eq (tgt := 29) hx hb dX7_brings_8 (by decide) (fun c_1 => ?_) (fun c_1 => ?_)
  · skip
    refine lv_bipush (v := (-2)) hx hb dX7_brings_29 (by decide) ?_
    obtain rfl : pe = pe' := by (rw [← ho0]) <;> (simp [Mbr, c_1])
    obtain rfl : pg = pg' := by (rw [← ho1]) <;> (simp [Mbr, c_1])
    obtain rfl : ph = ph' := by (rw [← ho2]) <;> (simp [Mbr, c_1])
    obtain rfl : (-2) = res := by (rw [← hres]) <;> (simp [Mbr, c_1])
    rw [hQ0]
    exact x_iret hx hb hret hlocks rfl hW rfl dX7_brings_31
  · skip
    refine lv_iload_n hx hb dX7_brings_11 rfl (lv_at hl 2 rfl) ?_
    refine lv_iconst (v := 0) hx hb dX7_brings_12 (by decide) ?_
    refine lv_iconst (v := 3) hx hb dX7_brings_13 (by decide) ?_
    refine x_callS hx hb hml hown hts hK hW hl.1 (c_X7_in l X _ (v := w) (lo := 0) (hi := 3) (hres := rfl)) xw_159 xw_160 xw_5 xw_161 hdS_yX7_in ⟨Nat.le_of_ble_eq_true rfl, Nat.le_of_ble_eq_true rfl⟩ rfl (Nat.le_of_ble_eq_true rfl) ⟨Nat.le_refl _, Nat.le_refl _⟩ dX7_brings_14 (fun H locs hW => ?_)
    refine lv_if_eq (tgt := 29) hx hb dX7_brings_17 (by decide) (fun c_2 => ?_) (fun c_2 => ?_)
    · skip
      refine lv_bipush (v := (-2)) hx hb dX7_brings_29 (by decide) ?_
      obtain rfl : pe = pe' := by (rw [← ho0]) <;> (simp [Mbr, c_1, c_2])
      obtain rfl : pg = pg' := by (rw [← ho1]) <;> (simp [Mbr, c_1, c_2])
      obtain rfl : ph = ph' := by (rw [← ho2]) <;> (simp [Mbr, c_1, c_2])
      obtain rfl : (-2) = res := by (rw [← hres]) <;> (simp [Mbr, c_1, c_2])
      rw [hQ0]
      exact x_iret hx hb hret hlocks rfl hW rfl dX7_brings_31
    · skip
      have hx9 := xfin1 200 rfl (by decide) c_1
      refine lv_aload_n hx hb dX7_brings_20 rfl (lv_at hl 0 rfl) ?_
      refine lv_iload_n hx hb dX7_brings_21 rfl (lv_at hl 1 rfl) ?_
      refine lv_eqi (y := nI x.toNatClampNeg) hx9.2 ?_
      refine lv_iload_n hx hb dX7_brings_22 rfl (lv_at hl 2 rfl) ?_
      refine x_callV hx hb hml hown hts hK hW hl.1 (c_X7_brought l X G (n := n) (nh := nh) (nw := nw) (tk := x.toNatClampNeg) (w := w) (hn := (by assumption)) (hn16 := (by assumption)) (hh := (by assumption)) (hh8 := (by assumption)) (hw := (by assumption)) (hw8 := (by assumption)) (hY := (by assumption)) (hm := hx9.1) (ho0 := rfl) (ho1 := rfl) (ho2 := rfl) (hres := rfl)) (xF_mo0).1 (xF_mo0).2.1 (by decide) rfl xw_728 xw_729 xw_730 xw_5 xw_731 hdV_yX7_brought ⟨Nat.le_of_ble_eq_true rfl, Nat.le_of_ble_eq_true rfl⟩ rfl (Nat.le_of_ble_eq_true rfl) ⟨Nat.le_refl _, Nat.le_refl _⟩ dX7_brings_23 (fun H locs hW => ?_)
      have hW : XR X G 12 (xMa f sg L O Y pb pc pd (Mcp (xat sg L O Y) pe) ((Mticks n nh nw x.toNatClampNeg (sg, L, O, Y, pg, ph)).2.2.2.2.1) ((Mticks n nh nw x.toNatClampNeg (sg, L, O, Y, pg, ph)).2.2.2.2.2) pp pq pt pu) H locs := hW
      refine lv_goto (tgt := 31) hx hb dX7_brings_26 (by decide) ?_
      obtain rfl : (Mcp (xat sg L O Y) pe) = pe' := by (rw [← ho0]) <;> (simp [Mbr, c_1, c_2])
      obtain rfl : ((Mticks n nh nw x.toNatClampNeg (sg, L, O, Y, pg, ph)).2.2.2.2.1) = pg' := by (rw [← ho1]) <;> (simp [Mbr, c_1, c_2])
      obtain rfl : ((Mticks n nh nw x.toNatClampNeg (sg, L, O, Y, pg, ph)).2.2.2.2.2) = ph' := by (rw [← ho2]) <;> (simp [Mbr, c_1, c_2])
      obtain rfl : Mbrought n nh nw x.toNatClampNeg w (sg, L, O, Y, pg, ph) = res := by (rw [← hres]) <;> (simp [Mbr, c_1, c_2])
      rw [hQ0]
      exact x_iret hx hb hret hlocks rfl hW rfl dX7_brings_31
set_option maxHeartbeats 4000000 in
set_option maxRecDepth 100000 in
theorem c_X7_bestReach (l : Launch) (X : xX) (G : xG) {f sg pb pc pd pe pg ph pp pq pt pu : Nat → Int32} {L O Y : Nat → Nat → Int32} {n nh nw : Nat} {x : Int32} (hn : sg 7 = nI n) (hn16 : n ≤ 16) (hh : sg 8 = nI nh) (hh8 : nh ≤ 8) (hw : sg 9 = nI nw) (hw8 : nw ≤ 8) (hY : ∀ j, j < 8 → MW (Y j)) {pe' : Nat → Int32} (ho0 : (Mtk x pe ((Mbest n nh nw x.toNatClampNeg L O Y sg pe pg ph).2.1)) = pe') {pg' : Nat → Int32} (ho1 : (Mtk x pg ((Mbest n nh nw x.toNatClampNeg L O Y sg pe pg ph).2.2.1)) = pg') {ph' : Nat → Int32} (ho2 : (Mtk x ph ((Mbest n nh nw x.toNatClampNeg L O Y sg pe pg ph).2.2.2.1)) = ph') {res : Int32} (hres : (Mtk x (-2) ((Mbest n nh nw x.toNatClampNeg L O Y sg pe pg ph).2.2.2.2.1)) = res) : XC l yX7_bestReach cX7_bestReach 9 (some .int) 6 136 0 0 X xsh [.ref (xB X + xkey 12 0 0), .int x] 603 603 (xval (xB X) (va_up G 12 (xMa f sg L O Y pb pc pd pe pg ph pp pq pt pu))) (xval (xB X) (va_up G 12 (xMa f sg L O Y pb pc pd pe' pg' ph' pp pq pt pu))) (some (.int res)) := by
  refine XC.of RX7 "bestReach" [(0, .ref (xB X + xkey 12 0 0)), (1, .int x)] (by decide) rfl rfl (Nat.le_of_ble_eq_true rfl) rfl ?_
  intro p e s m args below meth c ls hx hb hret hml hts hown hlocks hnm hK hW hl
  have hW : XR X G 12 (xMa f sg L O Y pb pc pd pe pg ph pp pq pt pu) s.heap [] := hW
  obtain ⟨Q0, hQ0⟩ : ∃ z, z = MQ below (xQ X xsh 603 (xval (xB X) (va_up G 12 (xMa f sg L O Y pb pc pd pe' pg' ph' pp pq pt pu))) (some (.int res))) args s 0 0 (fun q => xB X ≤ q) := ⟨_, rfl⟩
  rw [← hQ0]
  refine lv_iload_n hx hb dX7_bestReach_0 rfl (lv_at hl 1 rfl) ?_
  refine lv_iconst (v := 1) hx hb dX7_bestReach_1 (by decide) ?_
  refine lv_sipush (v := 200) hx hb dX7_bestReach_2 (by decide) ?_
  refine x_callS hx hb hml hown hts hK hW hl.1 (c_X7_in l X _ (v := x) (lo := 1) (hi := 200) (hres := rfl)) xw_159 xw_160 xw_5 xw_161 hdS_yX7_in ⟨Nat.le_of_ble_eq_true rfl, Nat.le_of_ble_eq_true rfl⟩ rfl (Nat.le_of_ble_eq_true rfl) ⟨Nat.le_refl _, Nat.le_refl _⟩ dX7_bestReach_5 (fun H locs hW => ?_)
  refine lv_if_ne (tgt := 14) hx hb dX7_bestReach_8 (by decide) (fun c_1 => ?_) (fun c_1 => ?_)
  · skip
    have hx9 := xfin1 200 rfl (by decide) c_1
    refine lv_aload_n hx hb dX7_bestReach_14 rfl (lv_at hl 0 rfl) ?_
    refine r_getr (C := RX7) (T := TX7) hx hb hts hown hK hW (xF_mo0).1 (xF_mo0).2.1 inlX7 rfl (by decide) 0 (by decide) (show xro (xkey 12 0 0) 0 = some (xkey 12 1 0) from by decide +kernel) xw_79 rfl dX7_bestReach_15 ?_
    refine lv_iconst (v := 1) hx hb dX7_bestReach_18 (by decide) ?_
    refine r_iald hx hb hK hW (N := 440) (xF_mo1) 1 (by decide) (by decide) (by decide) (xr_model 1 (by decide) (by decide) 1) (x := sg 1) (xat_s (sg := sg) (L := L) (O := O) (Y := Y) (k := 1) (by omega)) dX7_bestReach_19 ?_
    refine lv_istore_n (lv' := [(2, .int (sg 1)), (0, .ref (xB X + xkey 12 0 0)), (1, .int x)]) hx hb dX7_bestReach_20 rfl hl (by decide) rfl (fun ls hl => ?_)
    refine lv_bipush (v := (-6)) hx hb dX7_bestReach_21 (by decide) ?_
    refine lv_istore_n (lv' := [(3, .int (-6)), (2, .int (sg 1)), (0, .ref (xB X + xkey 12 0 0)), (1, .int x)]) hx hb dX7_bestReach_23 rfl hl (by decide) rfl (fun ls hl => ?_)
    refine lv_iconst (v := 0) hx hb dX7_bestReach_24 (by decide) ?_
    refine lv_istore (lv' := [(4, .int 0), (3, .int (-6)), (2, .int (sg 1)), (0, .ref (xB X + xkey 12 0 0)), (1, .int x)]) hx hb dX7_bestReach_25 hl (by decide) rfl (fun ls hl => ?_)
    refine lv_iconst (v := 0) hx hb dX7_bestReach_27 (by decide) ?_
    refine lv_istore (lv' := [(5, .int 0), (4, .int 0), (3, .int (-6)), (2, .int (sg 1)), (0, .ref (xB X + xkey 12 0 0)), (1, .int x)]) hx hb dX7_bestReach_28 hl (by decide) rfl (fun ls hl => ?_)
    refine lv_iconst (v := nI 1) hx hb dX7_bestReach_30 (by decide) ?_
    refine lv_istore (lv' := [(6, .int (nI 1)), (5, .int 0), (4, .int 0), (3, .int (-6)), (2, .int (sg 1)), (0, .ref (xB X + xkey 12 0 0)), (1, .int x)]) hx hb dX7_bestReach_31 hl (by decide) rfl (fun ls hl => ?_)
    have loop_33 : ∀ (k_33 i : Nat) (sa : Nat → Int32) (ea : Nat → Int32) (ga : Nat → Int32) (ha : Nat → Int32) (ba : Int32) (fa : Int32) (la : Int32), i + k_33 = 61 → (∀ j, j ≠ 1 → sa j = sg j) → sa 7 = nI n → sa 8 = nI nh → sa 9 = nI nw → xloop (Mbest1 n nh nw x.toNatClampNeg L O Y) k_33 i (sa, ea, ga, ha, ba, fa, la) = xloop (Mbest1 n nh nw x.toNatClampNeg L O Y) 60 1 (sg, pe, pg, ph, (-6), 0, 0) → ∀ (H : Heap) (locs : List Loc) (ls : Array Slot), XR X G 12 (xMa f sa L O Y pb pc pd ea ga ha pp pq pt pu) H locs → lv_has ls 9 [(0, .ref (xB X + xkey 12 0 0)), (1, .int x), (2, .int (sg 1)), (3, .int ba), (4, .int fa), (5, .int la), (6, .int (nI i))] → W p l e { frames := 6, cells := 0, slots := 0, locals := 136 } s m args below meth c H locs 0 0 Q0 (F0 m 33 ls []) := by
      intro k_33
      induction k_33 with
      | zero =>
        intro i sa ea ga ha ba fa la hik_33 hv0_33 hv1_33 hv2_33 hv3_33 hsp_33 H locs ls hW hl
        refine lv_iload hx hb dX7_bestReach_33 (lv_at hl 6 rfl) ?_
        refine lv_bipush (v := nI 60) hx hb dX7_bestReach_35 (by decide) ?_
        refine lv_icmp_gt (tgt := 121) hx hb dX7_bestReach_37 (by decide) (fun c_2 => ?_) (fun c_2 => absurd (nI_lt (by omega) (by omega)) c_2)
        refine lv_aload_n hx hb dX7_bestReach_121 rfl (lv_at hl 0 rfl) ?_
        refine r_getr (C := RX7) (T := TX7) hx hb hts hown hK hW (xF_mo0).1 (xF_mo0).2.1 inlX7 rfl (by decide) 0 (by decide) (show xro (xkey 12 0 0) 0 = some (xkey 12 1 0) from by decide +kernel) xw_79 rfl dX7_bestReach_122 ?_
        refine lv_iconst (v := 1) hx hb dX7_bestReach_125 (by decide) ?_
        refine lv_iload_n hx hb dX7_bestReach_126 rfl (lv_at hl 2 rfl) ?_
        refine r_iast hx hb hK hW (N := 440) (xF_mo1) 1 (by decide) (by decide) (by decide) (xr_model 1 (by decide) (by decide) 1) (xMa1 (w := 1) (by omega)) dX7_bestReach_127 (fun H locs hW => ?_)
        have e9 : va_up sa 1 (sg 1) = sg := funext (fun j => by by_cases h : j = 1; (rw [h, va_up_at]); (rw [va_up_ne _ _ h]; exact hv0_33 j h))
        rw [e9] at hW
        refine lv_iload_n hx hb dX7_bestReach_128 rfl (lv_at hl 3 rfl) ?_
        obtain rfl : ea = pe' := by (rw [← ho0]) <;> (first | (simp [Mtk, c_1, c_2]; done) | (have e9 : (sa, ea, ga, ha, ba, fa, la) = Mbest n nh nw x.toNatClampNeg L O Y sg pe pg ph := hsp_33; unfold Mtk; rw [if_neg c_1, ← e9]))
        obtain rfl : ga = pg' := by (rw [← ho1]) <;> (first | (simp [Mtk, c_1, c_2]; done) | (have e9 : (sa, ea, ga, ha, ba, fa, la) = Mbest n nh nw x.toNatClampNeg L O Y sg pe pg ph := hsp_33; unfold Mtk; rw [if_neg c_1, ← e9]))
        obtain rfl : ha = ph' := by (rw [← ho2]) <;> (first | (simp [Mtk, c_1, c_2]; done) | (have e9 : (sa, ea, ga, ha, ba, fa, la) = Mbest n nh nw x.toNatClampNeg L O Y sg pe pg ph := hsp_33; unfold Mtk; rw [if_neg c_1, ← e9]))
        obtain rfl : ba = res := by (rw [← hres]) <;> (first | (simp [Mtk, c_1, c_2]; done) | (have e9 : (sa, ea, ga, ha, ba, fa, la) = Mbest n nh nw x.toNatClampNeg L O Y sg pe pg ph := hsp_33; unfold Mtk; rw [if_neg c_1, ← e9]))
        rw [hQ0]
        exact x_iret hx hb hret hlocks rfl hW rfl dX7_bestReach_129
      | succ k_33 ih_33 =>
        intro i sa ea ga ha ba fa la hik_33 hv0_33 hv1_33 hv2_33 hv3_33 hsp_33 H locs ls hW hl
        refine lv_iload hx hb dX7_bestReach_33 (lv_at hl 6 rfl) ?_
        refine lv_bipush (v := nI 60) hx hb dX7_bestReach_35 (by decide) ?_
        refine lv_icmp_gt (tgt := 121) hx hb dX7_bestReach_37 (by decide) (fun c_3 => absurd c_3 (xngt (by omega) (by omega))) (fun c_3 => ?_)
        refine lv_aload_n hx hb dX7_bestReach_40 rfl (lv_at hl 0 rfl) ?_
        refine r_getr (C := RX7) (T := TX7) hx hb hts hown hK hW (xF_mo0).1 (xF_mo0).2.1 inlX7 rfl (by decide) 0 (by decide) (show xro (xkey 12 0 0) 0 = some (xkey 12 1 0) from by decide +kernel) xw_79 rfl dX7_bestReach_41 ?_
        refine lv_iconst (v := 1) hx hb dX7_bestReach_44 (by decide) ?_
        refine lv_iload hx hb dX7_bestReach_45 (lv_at hl 6 rfl) ?_
        refine r_iast hx hb hK hW (N := 440) (xF_mo1) 1 (by decide) (by decide) (by decide) (xr_model 1 (by decide) (by decide) 1) (xMa1 (w := 1) (by omega)) dX7_bestReach_47 (fun H locs hW => ?_)
        refine lv_aload_n hx hb dX7_bestReach_48 rfl (lv_at hl 0 rfl) ?_
        refine lv_iload_n hx hb dX7_bestReach_49 rfl (lv_at hl 1 rfl) ?_
        refine lv_eqi (y := nI x.toNatClampNeg) hx9.2 ?_
        refine lv_iconst (v := 0) hx hb dX7_bestReach_50 (by decide) ?_
        refine x_callV hx hb hml hown hts hK hW hl.1 (c_X7_brought l X G (n := n) (nh := nh) (nw := nw) (tk := x.toNatClampNeg) (w := 0) (hn := (show (va_up sa 1 (nI i)) 7 = nI n from hv1_33)) (hn16 := (by assumption)) (hh := (show (va_up sa 1 (nI i)) 8 = nI nh from hv2_33)) (hh8 := (by assumption)) (hw := (show (va_up sa 1 (nI i)) 9 = nI nw from hv3_33)) (hw8 := (by assumption)) (hY := (by assumption)) (hm := hx9.1) (ho0 := rfl) (ho1 := rfl) (ho2 := rfl) (hres := rfl)) (xF_mo0).1 (xF_mo0).2.1 (by decide) rfl xw_728 xw_729 xw_730 xw_5 xw_731 hdV_yX7_brought ⟨Nat.le_of_ble_eq_true rfl, Nat.le_of_ble_eq_true rfl⟩ rfl (Nat.le_of_ble_eq_true rfl) ⟨Nat.le_refl _, Nat.le_refl _⟩ dX7_bestReach_51 (fun H locs hW => ?_)
        have hW : XR X G 12 (xMa f (va_up sa 1 (nI i)) L O Y pb pc pd (Mcp (xat (va_up sa 1 (nI i)) L O Y) ea) ((Mticks n nh nw x.toNatClampNeg ((va_up sa 1 (nI i)), L, O, Y, ga, ha)).2.2.2.2.1) ((Mticks n nh nw x.toNatClampNeg ((va_up sa 1 (nI i)), L, O, Y, ga, ha)).2.2.2.2.2) pp pq pt pu) H locs := hW
        refine lv_istore (lv' := [(7, .int (Mbrought n nh nw x.toNatClampNeg 0 ((va_up sa 1 (nI i)), L, O, Y, ga, ha))), (0, .ref (xB X + xkey 12 0 0)), (1, .int x), (2, .int (sg 1)), (3, .int ba), (4, .int fa), (5, .int la), (6, .int (nI i))]) hx hb dX7_bestReach_54 hl (by decide) rfl (fun ls hl => ?_)
        refine lv_iload_n hx hb dX7_bestReach_56 rfl (lv_at hl 4 rfl) ?_
        refine lv_if_lt (tgt := 67) hx hb dX7_bestReach_57 (by decide) (fun c_4 => ?_) (fun c_4 => ?_)
        · skip
          refine lv_aload_n hx hb dX7_bestReach_67 rfl (lv_at hl 1 rfl) ?_
          refine lv_iload_n hx hb dX7_bestReach_68 rfl (lv_at hl 2 rfl) ?_
          refine lv_eqi (y := nI x.toNatClampNeg) hx9.2 ?_
          refine lv_iconst (v := 1) hx hb dX7_bestReach_69 (by decide) ?_
          refine x_callV hx hb hml hown hts hK hW hl.1 (c_X7_brought l X G (n := n) (nh := nh) (nw := nw) (tk := x.toNatClampNeg) (w := 1) (hn := (show (va_up sa 1 (nI i)) 7 = nI n from hv1_33)) (hn16 := (by assumption)) (hh := (show (va_up sa 1 (nI i)) 8 = nI nh from hv2_33)) (hh8 := (by assumption)) (hw := (show (va_up sa 1 (nI i)) 9 = nI nw from hv3_33)) (hw8 := (by assumption)) (hY := (by assumption)) (hm := hx9.1) (ho0 := rfl) (ho1 := rfl) (ho2 := rfl) (hres := rfl)) (xF_mo0).1 (xF_mo0).2.1 (by decide) rfl xw_728 xw_729 xw_730 xw_5 xw_731 hdV_yX7_brought ⟨Nat.le_of_ble_eq_true rfl, Nat.le_of_ble_eq_true rfl⟩ rfl (Nat.le_of_ble_eq_true rfl) ⟨Nat.le_refl _, Nat.le_refl _⟩ dX7_bestReach_70 (fun H locs hW => ?_)
          have hW : XR X G 12 (xMa f (va_up sa 1 (nI i)) L O Y pb pc pd (Mcp (xat (va_up sa 1 (nI i)) L O Y) (Mcp (xat (va_up sa 1 (nI i)) L O Y) ea)) ((Mticks n nh nw x.toNatClampNeg ((va_up sa 1 (nI i)), L, O, Y, ((Mticks n nh nw x.toNatClampNeg ((va_up sa 1 (nI i)), L, O, Y, ga, ha)).2.2.2.2.1), ((Mticks n nh nw x.toNatClampNeg ((va_up sa 1 (nI i)), L, O, Y, ga, ha)).2.2.2.2.2))).2.2.2.2.1) ((Mticks n nh nw x.toNatClampNeg ((va_up sa 1 (nI i)), L, O, Y, ((Mticks n nh nw x.toNatClampNeg ((va_up sa 1 (nI i)), L, O, Y, ga, ha)).2.2.2.2.1), ((Mticks n nh nw x.toNatClampNeg ((va_up sa 1 (nI i)), L, O, Y, ga, ha)).2.2.2.2.2))).2.2.2.2.2) pp pq pt pu) H locs := hW
          refine lv_goto (tgt := 77) hx hb dX7_bestReach_73 (by decide) ?_
          refine lv_istore (lv' := [(8, .int (Mbrought n nh nw x.toNatClampNeg 1 ((va_up sa 1 (nI i)), L, O, Y, ((Mticks n nh nw x.toNatClampNeg ((va_up sa 1 (nI i)), L, O, Y, ga, ha)).2.2.2.2.1), ((Mticks n nh nw x.toNatClampNeg ((va_up sa 1 (nI i)), L, O, Y, ga, ha)).2.2.2.2.2)))), (7, .int (Mbrought n nh nw x.toNatClampNeg 0 ((va_up sa 1 (nI i)), L, O, Y, ga, ha))), (0, .ref (xB X + xkey 12 0 0)), (1, .int x), (2, .int (sg 1)), (3, .int ba), (4, .int fa), (5, .int la), (6, .int (nI i))]) hx hb dX7_bestReach_77 hl (by decide) rfl (fun ls hl => ?_)
          refine lv_iload_n hx hb dX7_bestReach_79 rfl (lv_at hl 5 rfl) ?_
          refine lv_if_lt (tgt := 104) hx hb dX7_bestReach_80 (by decide) (fun c_5 => ?_) (fun c_5 => absurd c_4 c_5)
          refine lv_iload hx hb dX7_bestReach_104 (lv_at hl 8 rfl) ?_
          refine lv_istore_n (lv' := [(3, .int (nI i)), (8, .int (Mbrought n nh nw x.toNatClampNeg 1 ((va_up sa 1 (nI i)), L, O, Y, ((Mticks n nh nw x.toNatClampNeg ((va_up sa 1 (nI i)), L, O, Y, ga, ha)).2.2.2.2.1), ((Mticks n nh nw x.toNatClampNeg ((va_up sa 1 (nI i)), L, O, Y, ga, ha)).2.2.2.2.2)))), (7, .int (Mbrought n nh nw x.toNatClampNeg 0 ((va_up sa 1 (nI i)), L, O, Y, ga, ha))), (0, .ref (xB X + xkey 12 0 0)), (1, .int x), (2, .int (sg 1)), (4, .int fa), (5, .int la), (6, .int (nI i))]) hx hb dX7_bestReach_106 rfl hl (by decide) rfl (fun ls hl => ?_)
          refine lv_iload hx hb dX7_bestReach_107 (lv_at hl 2 rfl) ?_
          refine lv_istore (lv' := [(4, .int (Mbrought n nh nw x.toNatClampNeg 0 ((va_up sa 1 (nI i)), L, O, Y, ga, ha))), (3, .int (nI i)), (8, .int (Mbrought n nh nw x.toNatClampNeg 1 ((va_up sa 1 (nI i)), L, O, Y, ((Mticks n nh nw x.toNatClampNeg ((va_up sa 1 (nI i)), L, O, Y, ga, ha)).2.2.2.2.1), ((Mticks n nh nw x.toNatClampNeg ((va_up sa 1 (nI i)), L, O, Y, ga, ha)).2.2.2.2.2)))), (7, .int (Mbrought n nh nw x.toNatClampNeg 0 ((va_up sa 1 (nI i)), L, O, Y, ga, ha))), (0, .ref (xB X + xkey 12 0 0)), (1, .int x), (2, .int (sg 1)), (5, .int la), (6, .int (nI i))]) hx hb dX7_bestReach_109 hl (by decide) rfl (fun ls hl => ?_)
          refine lv_iload hx hb dX7_bestReach_111 (lv_at hl 2 rfl) ?_
          refine lv_istore (lv' := [(5, .int (Mbrought n nh nw x.toNatClampNeg 1 ((va_up sa 1 (nI i)), L, O, Y, ((Mticks n nh nw x.toNatClampNeg ((va_up sa 1 (nI i)), L, O, Y, ga, ha)).2.2.2.2.1), ((Mticks n nh nw x.toNatClampNeg ((va_up sa 1 (nI i)), L, O, Y, ga, ha)).2.2.2.2.2)))), (4, .int (Mbrought n nh nw x.toNatClampNeg 0 ((va_up sa 1 (nI i)), L, O, Y, ga, ha))), (3, .int (nI i)), (8, .int (Mbrought n nh nw x.toNatClampNeg 1 ((va_up sa 1 (nI i)), L, O, Y, ((Mticks n nh nw x.toNatClampNeg ((va_up sa 1 (nI i)), L, O, Y, ga, ha)).2.2.2.2.1), ((Mticks n nh nw x.toNatClampNeg ((va_up sa 1 (nI i)), L, O, Y, ga, ha)).2.2.2.2.2)))), (7, .int (Mbrought n nh nw x.toNatClampNeg 0 ((va_up sa 1 (nI i)), L, O, Y, ga, ha))), (0, .ref (xB X + xkey 12 0 0)), (1, .int x), (2, .int (sg 1)), (6, .int (nI i))]) hx hb dX7_bestReach_113 hl (by decide) rfl (fun ls hl => ?_)
          refine lv_iinc (v := nI (i + 1)) (lv' := [(6, .int (nI (i + 1))), (5, .int (Mbrought n nh nw x.toNatClampNeg 1 ((va_up sa 1 (nI i)), L, O, Y, ((Mticks n nh nw x.toNatClampNeg ((va_up sa 1 (nI i)), L, O, Y, ga, ha)).2.2.2.2.1), ((Mticks n nh nw x.toNatClampNeg ((va_up sa 1 (nI i)), L, O, Y, ga, ha)).2.2.2.2.2)))), (4, .int (Mbrought n nh nw x.toNatClampNeg 0 ((va_up sa 1 (nI i)), L, O, Y, ga, ha))), (3, .int (nI i)), (8, .int (Mbrought n nh nw x.toNatClampNeg 1 ((va_up sa 1 (nI i)), L, O, Y, ((Mticks n nh nw x.toNatClampNeg ((va_up sa 1 (nI i)), L, O, Y, ga, ha)).2.2.2.2.1), ((Mticks n nh nw x.toNatClampNeg ((va_up sa 1 (nI i)), L, O, Y, ga, ha)).2.2.2.2.2)))), (7, .int (Mbrought n nh nw x.toNatClampNeg 0 ((va_up sa 1 (nI i)), L, O, Y, ga, ha))), (0, .ref (xB X + xkey 12 0 0)), (1, .int x), (2, .int (sg 1))]) hx hb dX7_bestReach_115 hl (k := 8) rfl (nI_1 i) (by decide) rfl (fun ls hl => ?_)
          refine lv_goto (tgt := 33) hx hb dX7_bestReach_118 (by decide) ?_
          refine ih_33 (i + 1) (va_up sa 1 (nI i)) (Mcp (xat (va_up sa 1 (nI i)) L O Y) (Mcp (xat (va_up sa 1 (nI i)) L O Y) ea)) ((Mticks n nh nw x.toNatClampNeg ((va_up sa 1 (nI i)), L, O, Y, ((Mticks n nh nw x.toNatClampNeg ((va_up sa 1 (nI i)), L, O, Y, ga, ha)).2.2.2.2.1), ((Mticks n nh nw x.toNatClampNeg ((va_up sa 1 (nI i)), L, O, Y, ga, ha)).2.2.2.2.2))).2.2.2.2.1) ((Mticks n nh nw x.toNatClampNeg ((va_up sa 1 (nI i)), L, O, Y, ((Mticks n nh nw x.toNatClampNeg ((va_up sa 1 (nI i)), L, O, Y, ga, ha)).2.2.2.2.1), ((Mticks n nh nw x.toNatClampNeg ((va_up sa 1 (nI i)), L, O, Y, ga, ha)).2.2.2.2.2))).2.2.2.2.2) (nI i) (Mbrought n nh nw x.toNatClampNeg 0 ((va_up sa 1 (nI i)), L, O, Y, ga, ha)) (Mbrought n nh nw x.toNatClampNeg 1 ((va_up sa 1 (nI i)), L, O, Y, ((Mticks n nh nw x.toNatClampNeg ((va_up sa 1 (nI i)), L, O, Y, ga, ha)).2.2.2.2.1), ((Mticks n nh nw x.toNatClampNeg ((va_up sa 1 (nI i)), L, O, Y, ga, ha)).2.2.2.2.2))) (by omega) (fun j h => by rw [va_up_ne _ _ h]; exact hv0_33 j h) hv1_33 hv2_33 hv3_33 ?_ H locs ls hW (lv_sub hl [6, 7, 8, 3, 2, 1, 0] rfl)
          rw [← hsp_33]; simp [xloop, Mbest1, Mbu, Mb4, Mb1, Mb2, c_1, c_3, c_4, Int32.not_le.mpr c_4, c_5]
        · skip
          refine lv_iload hx hb dX7_bestReach_60 (lv_at hl 0 rfl) ?_
          refine lv_iload hx hb dX7_bestReach_62 (lv_at hl 5 rfl) ?_
          refine lv_icmp_gt (tgt := 76) hx hb dX7_bestReach_64 (by decide) (fun c_6 => ?_) (fun c_6 => ?_)
          · skip
            refine lv_iconst (v := 0) hx hb dX7_bestReach_76 (by decide) ?_
            refine lv_istore (lv' := [(8, .int 0), (7, .int (Mbrought n nh nw x.toNatClampNeg 0 ((va_up sa 1 (nI i)), L, O, Y, ga, ha))), (0, .ref (xB X + xkey 12 0 0)), (1, .int x), (2, .int (sg 1)), (3, .int ba), (4, .int fa), (5, .int la), (6, .int (nI i))]) hx hb dX7_bestReach_77 hl (by decide) rfl (fun ls hl => ?_)
            refine lv_iload_n hx hb dX7_bestReach_79 rfl (lv_at hl 5 rfl) ?_
            refine lv_if_lt (tgt := 104) hx hb dX7_bestReach_80 (by decide) (fun c_7 => absurd c_7 c_4) (fun c_7 => ?_)
            refine lv_iload hx hb dX7_bestReach_83 (lv_at hl 1 rfl) ?_
            refine lv_iload hx hb dX7_bestReach_85 (lv_at hl 6 rfl) ?_
            refine lv_icmp_lt (tgt := 104) hx hb dX7_bestReach_87 (by decide) (fun c_8 => absurd c_8 (xasym c_6)) (fun c_8 => ?_)
            refine lv_iload hx hb dX7_bestReach_90 (lv_at hl 1 rfl) ?_
            refine lv_iload hx hb dX7_bestReach_92 (lv_at hl 6 rfl) ?_
            refine lv_icmp_ne (tgt := 115) hx hb dX7_bestReach_94 (by decide) (fun c_9 => ?_) (fun c_9 => absurd c_9 (xgne c_6))
            refine lv_iinc (v := nI (i + 1)) (lv' := [(6, .int (nI (i + 1))), (8, .int 0), (7, .int (Mbrought n nh nw x.toNatClampNeg 0 ((va_up sa 1 (nI i)), L, O, Y, ga, ha))), (0, .ref (xB X + xkey 12 0 0)), (1, .int x), (2, .int (sg 1)), (3, .int ba), (4, .int fa), (5, .int la)]) hx hb dX7_bestReach_115 hl (k := 8) rfl (nI_1 i) (by decide) rfl (fun ls hl => ?_)
            refine lv_goto (tgt := 33) hx hb dX7_bestReach_118 (by decide) ?_
            refine ih_33 (i + 1) (va_up sa 1 (nI i)) (Mcp (xat (va_up sa 1 (nI i)) L O Y) ea) ((Mticks n nh nw x.toNatClampNeg ((va_up sa 1 (nI i)), L, O, Y, ga, ha)).2.2.2.2.1) ((Mticks n nh nw x.toNatClampNeg ((va_up sa 1 (nI i)), L, O, Y, ga, ha)).2.2.2.2.2) ba fa la (by omega) (fun j h => by rw [va_up_ne _ _ h]; exact hv0_33 j h) hv1_33 hv2_33 hv3_33 ?_ H locs ls hW (lv_sub hl [3, 4, 5, 6, 7, 8, 0] rfl)
            rw [← hsp_33]; simp [xloop, Mbest1, Mbu, Mb4, Mb1, Mb2, c_1, c_3, c_4, Int32.not_lt.mp c_4, c_6, Int32.not_le.mpr c_6, c_7, c_8, c_9]
          · skip
            refine lv_aload_n hx hb dX7_bestReach_67 rfl (lv_at hl 1 rfl) ?_
            refine lv_iload_n hx hb dX7_bestReach_68 rfl (lv_at hl 2 rfl) ?_
            refine lv_eqi (y := nI x.toNatClampNeg) hx9.2 ?_
            refine lv_iconst (v := 1) hx hb dX7_bestReach_69 (by decide) ?_
            refine x_callV hx hb hml hown hts hK hW hl.1 (c_X7_brought l X G (n := n) (nh := nh) (nw := nw) (tk := x.toNatClampNeg) (w := 1) (hn := (show (va_up sa 1 (nI i)) 7 = nI n from hv1_33)) (hn16 := (by assumption)) (hh := (show (va_up sa 1 (nI i)) 8 = nI nh from hv2_33)) (hh8 := (by assumption)) (hw := (show (va_up sa 1 (nI i)) 9 = nI nw from hv3_33)) (hw8 := (by assumption)) (hY := (by assumption)) (hm := hx9.1) (ho0 := rfl) (ho1 := rfl) (ho2 := rfl) (hres := rfl)) (xF_mo0).1 (xF_mo0).2.1 (by decide) rfl xw_728 xw_729 xw_730 xw_5 xw_731 hdV_yX7_brought ⟨Nat.le_of_ble_eq_true rfl, Nat.le_of_ble_eq_true rfl⟩ rfl (Nat.le_of_ble_eq_true rfl) ⟨Nat.le_refl _, Nat.le_refl _⟩ dX7_bestReach_70 (fun H locs hW => ?_)
            have hW : XR X G 12 (xMa f (va_up sa 1 (nI i)) L O Y pb pc pd (Mcp (xat (va_up sa 1 (nI i)) L O Y) (Mcp (xat (va_up sa 1 (nI i)) L O Y) ea)) ((Mticks n nh nw x.toNatClampNeg ((va_up sa 1 (nI i)), L, O, Y, ((Mticks n nh nw x.toNatClampNeg ((va_up sa 1 (nI i)), L, O, Y, ga, ha)).2.2.2.2.1), ((Mticks n nh nw x.toNatClampNeg ((va_up sa 1 (nI i)), L, O, Y, ga, ha)).2.2.2.2.2))).2.2.2.2.1) ((Mticks n nh nw x.toNatClampNeg ((va_up sa 1 (nI i)), L, O, Y, ((Mticks n nh nw x.toNatClampNeg ((va_up sa 1 (nI i)), L, O, Y, ga, ha)).2.2.2.2.1), ((Mticks n nh nw x.toNatClampNeg ((va_up sa 1 (nI i)), L, O, Y, ga, ha)).2.2.2.2.2))).2.2.2.2.2) pp pq pt pu) H locs := hW
            refine lv_goto (tgt := 77) hx hb dX7_bestReach_73 (by decide) ?_
            refine lv_istore (lv' := [(8, .int (Mbrought n nh nw x.toNatClampNeg 1 ((va_up sa 1 (nI i)), L, O, Y, ((Mticks n nh nw x.toNatClampNeg ((va_up sa 1 (nI i)), L, O, Y, ga, ha)).2.2.2.2.1), ((Mticks n nh nw x.toNatClampNeg ((va_up sa 1 (nI i)), L, O, Y, ga, ha)).2.2.2.2.2)))), (7, .int (Mbrought n nh nw x.toNatClampNeg 0 ((va_up sa 1 (nI i)), L, O, Y, ga, ha))), (0, .ref (xB X + xkey 12 0 0)), (1, .int x), (2, .int (sg 1)), (3, .int ba), (4, .int fa), (5, .int la), (6, .int (nI i))]) hx hb dX7_bestReach_77 hl (by decide) rfl (fun ls hl => ?_)
            refine lv_iload_n hx hb dX7_bestReach_79 rfl (lv_at hl 5 rfl) ?_
            refine lv_if_lt (tgt := 104) hx hb dX7_bestReach_80 (by decide) (fun c_10 => absurd c_10 c_4) (fun c_10 => ?_)
            refine lv_iload hx hb dX7_bestReach_83 (lv_at hl 1 rfl) ?_
            refine lv_iload hx hb dX7_bestReach_85 (lv_at hl 6 rfl) ?_
            refine lv_icmp_lt (tgt := 104) hx hb dX7_bestReach_87 (by decide) (fun c_11 => ?_) (fun c_11 => ?_)
            · skip
              refine lv_iload hx hb dX7_bestReach_104 (lv_at hl 8 rfl) ?_
              refine lv_istore_n (lv' := [(3, .int (nI i)), (8, .int (Mbrought n nh nw x.toNatClampNeg 1 ((va_up sa 1 (nI i)), L, O, Y, ((Mticks n nh nw x.toNatClampNeg ((va_up sa 1 (nI i)), L, O, Y, ga, ha)).2.2.2.2.1), ((Mticks n nh nw x.toNatClampNeg ((va_up sa 1 (nI i)), L, O, Y, ga, ha)).2.2.2.2.2)))), (7, .int (Mbrought n nh nw x.toNatClampNeg 0 ((va_up sa 1 (nI i)), L, O, Y, ga, ha))), (0, .ref (xB X + xkey 12 0 0)), (1, .int x), (2, .int (sg 1)), (4, .int fa), (5, .int la), (6, .int (nI i))]) hx hb dX7_bestReach_106 rfl hl (by decide) rfl (fun ls hl => ?_)
              refine lv_iload hx hb dX7_bestReach_107 (lv_at hl 2 rfl) ?_
              refine lv_istore (lv' := [(4, .int (Mbrought n nh nw x.toNatClampNeg 0 ((va_up sa 1 (nI i)), L, O, Y, ga, ha))), (3, .int (nI i)), (8, .int (Mbrought n nh nw x.toNatClampNeg 1 ((va_up sa 1 (nI i)), L, O, Y, ((Mticks n nh nw x.toNatClampNeg ((va_up sa 1 (nI i)), L, O, Y, ga, ha)).2.2.2.2.1), ((Mticks n nh nw x.toNatClampNeg ((va_up sa 1 (nI i)), L, O, Y, ga, ha)).2.2.2.2.2)))), (7, .int (Mbrought n nh nw x.toNatClampNeg 0 ((va_up sa 1 (nI i)), L, O, Y, ga, ha))), (0, .ref (xB X + xkey 12 0 0)), (1, .int x), (2, .int (sg 1)), (5, .int la), (6, .int (nI i))]) hx hb dX7_bestReach_109 hl (by decide) rfl (fun ls hl => ?_)
              refine lv_iload hx hb dX7_bestReach_111 (lv_at hl 2 rfl) ?_
              refine lv_istore (lv' := [(5, .int (Mbrought n nh nw x.toNatClampNeg 1 ((va_up sa 1 (nI i)), L, O, Y, ((Mticks n nh nw x.toNatClampNeg ((va_up sa 1 (nI i)), L, O, Y, ga, ha)).2.2.2.2.1), ((Mticks n nh nw x.toNatClampNeg ((va_up sa 1 (nI i)), L, O, Y, ga, ha)).2.2.2.2.2)))), (4, .int (Mbrought n nh nw x.toNatClampNeg 0 ((va_up sa 1 (nI i)), L, O, Y, ga, ha))), (3, .int (nI i)), (8, .int (Mbrought n nh nw x.toNatClampNeg 1 ((va_up sa 1 (nI i)), L, O, Y, ((Mticks n nh nw x.toNatClampNeg ((va_up sa 1 (nI i)), L, O, Y, ga, ha)).2.2.2.2.1), ((Mticks n nh nw x.toNatClampNeg ((va_up sa 1 (nI i)), L, O, Y, ga, ha)).2.2.2.2.2)))), (7, .int (Mbrought n nh nw x.toNatClampNeg 0 ((va_up sa 1 (nI i)), L, O, Y, ga, ha))), (0, .ref (xB X + xkey 12 0 0)), (1, .int x), (2, .int (sg 1)), (6, .int (nI i))]) hx hb dX7_bestReach_113 hl (by decide) rfl (fun ls hl => ?_)
              refine lv_iinc (v := nI (i + 1)) (lv' := [(6, .int (nI (i + 1))), (5, .int (Mbrought n nh nw x.toNatClampNeg 1 ((va_up sa 1 (nI i)), L, O, Y, ((Mticks n nh nw x.toNatClampNeg ((va_up sa 1 (nI i)), L, O, Y, ga, ha)).2.2.2.2.1), ((Mticks n nh nw x.toNatClampNeg ((va_up sa 1 (nI i)), L, O, Y, ga, ha)).2.2.2.2.2)))), (4, .int (Mbrought n nh nw x.toNatClampNeg 0 ((va_up sa 1 (nI i)), L, O, Y, ga, ha))), (3, .int (nI i)), (8, .int (Mbrought n nh nw x.toNatClampNeg 1 ((va_up sa 1 (nI i)), L, O, Y, ((Mticks n nh nw x.toNatClampNeg ((va_up sa 1 (nI i)), L, O, Y, ga, ha)).2.2.2.2.1), ((Mticks n nh nw x.toNatClampNeg ((va_up sa 1 (nI i)), L, O, Y, ga, ha)).2.2.2.2.2)))), (7, .int (Mbrought n nh nw x.toNatClampNeg 0 ((va_up sa 1 (nI i)), L, O, Y, ga, ha))), (0, .ref (xB X + xkey 12 0 0)), (1, .int x), (2, .int (sg 1))]) hx hb dX7_bestReach_115 hl (k := 8) rfl (nI_1 i) (by decide) rfl (fun ls hl => ?_)
              refine lv_goto (tgt := 33) hx hb dX7_bestReach_118 (by decide) ?_
              refine ih_33 (i + 1) (va_up sa 1 (nI i)) (Mcp (xat (va_up sa 1 (nI i)) L O Y) (Mcp (xat (va_up sa 1 (nI i)) L O Y) ea)) ((Mticks n nh nw x.toNatClampNeg ((va_up sa 1 (nI i)), L, O, Y, ((Mticks n nh nw x.toNatClampNeg ((va_up sa 1 (nI i)), L, O, Y, ga, ha)).2.2.2.2.1), ((Mticks n nh nw x.toNatClampNeg ((va_up sa 1 (nI i)), L, O, Y, ga, ha)).2.2.2.2.2))).2.2.2.2.1) ((Mticks n nh nw x.toNatClampNeg ((va_up sa 1 (nI i)), L, O, Y, ((Mticks n nh nw x.toNatClampNeg ((va_up sa 1 (nI i)), L, O, Y, ga, ha)).2.2.2.2.1), ((Mticks n nh nw x.toNatClampNeg ((va_up sa 1 (nI i)), L, O, Y, ga, ha)).2.2.2.2.2))).2.2.2.2.2) (nI i) (Mbrought n nh nw x.toNatClampNeg 0 ((va_up sa 1 (nI i)), L, O, Y, ga, ha)) (Mbrought n nh nw x.toNatClampNeg 1 ((va_up sa 1 (nI i)), L, O, Y, ((Mticks n nh nw x.toNatClampNeg ((va_up sa 1 (nI i)), L, O, Y, ga, ha)).2.2.2.2.1), ((Mticks n nh nw x.toNatClampNeg ((va_up sa 1 (nI i)), L, O, Y, ga, ha)).2.2.2.2.2))) (by omega) (fun j h => by rw [va_up_ne _ _ h]; exact hv0_33 j h) hv1_33 hv2_33 hv3_33 ?_ H locs ls hW (lv_sub hl [6, 7, 8, 3, 2, 1, 0] rfl)
              rw [← hsp_33]; simp [xloop, Mbest1, Mbu, Mb4, Mb1, Mb2, c_1, c_3, c_4, Int32.not_lt.mp c_4, c_6, Int32.not_lt.mp c_6, c_10, c_11, Int32.not_le.mpr c_11]
            · skip
              refine lv_iload hx hb dX7_bestReach_90 (lv_at hl 1 rfl) ?_
              refine lv_iload hx hb dX7_bestReach_92 (lv_at hl 6 rfl) ?_
              refine lv_icmp_ne (tgt := 115) hx hb dX7_bestReach_94 (by decide) (fun c_12 => ?_) (fun c_12 => ?_)
              · skip
                refine lv_iinc (v := nI (i + 1)) (lv' := [(6, .int (nI (i + 1))), (8, .int (Mbrought n nh nw x.toNatClampNeg 1 ((va_up sa 1 (nI i)), L, O, Y, ((Mticks n nh nw x.toNatClampNeg ((va_up sa 1 (nI i)), L, O, Y, ga, ha)).2.2.2.2.1), ((Mticks n nh nw x.toNatClampNeg ((va_up sa 1 (nI i)), L, O, Y, ga, ha)).2.2.2.2.2)))), (7, .int (Mbrought n nh nw x.toNatClampNeg 0 ((va_up sa 1 (nI i)), L, O, Y, ga, ha))), (0, .ref (xB X + xkey 12 0 0)), (1, .int x), (2, .int (sg 1)), (3, .int ba), (4, .int fa), (5, .int la)]) hx hb dX7_bestReach_115 hl (k := 8) rfl (nI_1 i) (by decide) rfl (fun ls hl => ?_)
                refine lv_goto (tgt := 33) hx hb dX7_bestReach_118 (by decide) ?_
                refine ih_33 (i + 1) (va_up sa 1 (nI i)) (Mcp (xat (va_up sa 1 (nI i)) L O Y) (Mcp (xat (va_up sa 1 (nI i)) L O Y) ea)) ((Mticks n nh nw x.toNatClampNeg ((va_up sa 1 (nI i)), L, O, Y, ((Mticks n nh nw x.toNatClampNeg ((va_up sa 1 (nI i)), L, O, Y, ga, ha)).2.2.2.2.1), ((Mticks n nh nw x.toNatClampNeg ((va_up sa 1 (nI i)), L, O, Y, ga, ha)).2.2.2.2.2))).2.2.2.2.1) ((Mticks n nh nw x.toNatClampNeg ((va_up sa 1 (nI i)), L, O, Y, ((Mticks n nh nw x.toNatClampNeg ((va_up sa 1 (nI i)), L, O, Y, ga, ha)).2.2.2.2.1), ((Mticks n nh nw x.toNatClampNeg ((va_up sa 1 (nI i)), L, O, Y, ga, ha)).2.2.2.2.2))).2.2.2.2.2) ba fa la (by omega) (fun j h => by rw [va_up_ne _ _ h]; exact hv0_33 j h) hv1_33 hv2_33 hv3_33 ?_ H locs ls hW (lv_sub hl [3, 4, 5, 6, 7, 8, 0] rfl)
                rw [← hsp_33]; simp [xloop, Mbest1, Mbu, Mb4, Mb1, Mb2, c_1, c_3, c_4, Int32.not_lt.mp c_4, c_6, Int32.not_lt.mp c_6, c_10, c_11, Int32.not_lt.mp c_11, c_12]
              · skip
                refine lv_iload hx hb dX7_bestReach_97 (lv_at hl 0 rfl) ?_
                refine lv_iload hx hb dX7_bestReach_99 (lv_at hl 7 rfl) ?_
                refine lv_icmp_ge (tgt := 115) hx hb dX7_bestReach_101 (by decide) (fun c_13 => ?_) (fun c_13 => ?_)
                · skip
                  refine lv_iinc (v := nI (i + 1)) (lv' := [(6, .int (nI (i + 1))), (8, .int (Mbrought n nh nw x.toNatClampNeg 1 ((va_up sa 1 (nI i)), L, O, Y, ((Mticks n nh nw x.toNatClampNeg ((va_up sa 1 (nI i)), L, O, Y, ga, ha)).2.2.2.2.1), ((Mticks n nh nw x.toNatClampNeg ((va_up sa 1 (nI i)), L, O, Y, ga, ha)).2.2.2.2.2)))), (7, .int (Mbrought n nh nw x.toNatClampNeg 0 ((va_up sa 1 (nI i)), L, O, Y, ga, ha))), (0, .ref (xB X + xkey 12 0 0)), (1, .int x), (2, .int (sg 1)), (3, .int ba), (4, .int fa), (5, .int la)]) hx hb dX7_bestReach_115 hl (k := 8) rfl (nI_1 i) (by decide) rfl (fun ls hl => ?_)
                  refine lv_goto (tgt := 33) hx hb dX7_bestReach_118 (by decide) ?_
                  refine ih_33 (i + 1) (va_up sa 1 (nI i)) (Mcp (xat (va_up sa 1 (nI i)) L O Y) (Mcp (xat (va_up sa 1 (nI i)) L O Y) ea)) ((Mticks n nh nw x.toNatClampNeg ((va_up sa 1 (nI i)), L, O, Y, ((Mticks n nh nw x.toNatClampNeg ((va_up sa 1 (nI i)), L, O, Y, ga, ha)).2.2.2.2.1), ((Mticks n nh nw x.toNatClampNeg ((va_up sa 1 (nI i)), L, O, Y, ga, ha)).2.2.2.2.2))).2.2.2.2.1) ((Mticks n nh nw x.toNatClampNeg ((va_up sa 1 (nI i)), L, O, Y, ((Mticks n nh nw x.toNatClampNeg ((va_up sa 1 (nI i)), L, O, Y, ga, ha)).2.2.2.2.1), ((Mticks n nh nw x.toNatClampNeg ((va_up sa 1 (nI i)), L, O, Y, ga, ha)).2.2.2.2.2))).2.2.2.2.2) ba fa la (by omega) (fun j h => by rw [va_up_ne _ _ h]; exact hv0_33 j h) hv1_33 hv2_33 hv3_33 ?_ H locs ls hW (lv_sub hl [3, 4, 5, 6, 7, 8, 0] rfl)
                  rw [← hsp_33]; simp [xloop, Mbest1, Mbu, Mb4, Mb1, Mb2, c_1, c_3, c_4, Int32.not_lt.mp c_4, c_6, Int32.not_lt.mp c_6, c_10, c_11, Int32.not_lt.mp c_11, c_12, c_13, Int32.not_lt.mpr c_13]
                · skip
                  refine lv_iload hx hb dX7_bestReach_104 (lv_at hl 8 rfl) ?_
                  refine lv_istore_n (lv' := [(3, .int (nI i)), (8, .int (Mbrought n nh nw x.toNatClampNeg 1 ((va_up sa 1 (nI i)), L, O, Y, ((Mticks n nh nw x.toNatClampNeg ((va_up sa 1 (nI i)), L, O, Y, ga, ha)).2.2.2.2.1), ((Mticks n nh nw x.toNatClampNeg ((va_up sa 1 (nI i)), L, O, Y, ga, ha)).2.2.2.2.2)))), (7, .int (Mbrought n nh nw x.toNatClampNeg 0 ((va_up sa 1 (nI i)), L, O, Y, ga, ha))), (0, .ref (xB X + xkey 12 0 0)), (1, .int x), (2, .int (sg 1)), (4, .int fa), (5, .int la), (6, .int (nI i))]) hx hb dX7_bestReach_106 rfl hl (by decide) rfl (fun ls hl => ?_)
                  refine lv_iload hx hb dX7_bestReach_107 (lv_at hl 2 rfl) ?_
                  refine lv_istore (lv' := [(4, .int (Mbrought n nh nw x.toNatClampNeg 0 ((va_up sa 1 (nI i)), L, O, Y, ga, ha))), (3, .int (nI i)), (8, .int (Mbrought n nh nw x.toNatClampNeg 1 ((va_up sa 1 (nI i)), L, O, Y, ((Mticks n nh nw x.toNatClampNeg ((va_up sa 1 (nI i)), L, O, Y, ga, ha)).2.2.2.2.1), ((Mticks n nh nw x.toNatClampNeg ((va_up sa 1 (nI i)), L, O, Y, ga, ha)).2.2.2.2.2)))), (7, .int (Mbrought n nh nw x.toNatClampNeg 0 ((va_up sa 1 (nI i)), L, O, Y, ga, ha))), (0, .ref (xB X + xkey 12 0 0)), (1, .int x), (2, .int (sg 1)), (5, .int la), (6, .int (nI i))]) hx hb dX7_bestReach_109 hl (by decide) rfl (fun ls hl => ?_)
                  refine lv_iload hx hb dX7_bestReach_111 (lv_at hl 2 rfl) ?_
                  refine lv_istore (lv' := [(5, .int (Mbrought n nh nw x.toNatClampNeg 1 ((va_up sa 1 (nI i)), L, O, Y, ((Mticks n nh nw x.toNatClampNeg ((va_up sa 1 (nI i)), L, O, Y, ga, ha)).2.2.2.2.1), ((Mticks n nh nw x.toNatClampNeg ((va_up sa 1 (nI i)), L, O, Y, ga, ha)).2.2.2.2.2)))), (4, .int (Mbrought n nh nw x.toNatClampNeg 0 ((va_up sa 1 (nI i)), L, O, Y, ga, ha))), (3, .int (nI i)), (8, .int (Mbrought n nh nw x.toNatClampNeg 1 ((va_up sa 1 (nI i)), L, O, Y, ((Mticks n nh nw x.toNatClampNeg ((va_up sa 1 (nI i)), L, O, Y, ga, ha)).2.2.2.2.1), ((Mticks n nh nw x.toNatClampNeg ((va_up sa 1 (nI i)), L, O, Y, ga, ha)).2.2.2.2.2)))), (7, .int (Mbrought n nh nw x.toNatClampNeg 0 ((va_up sa 1 (nI i)), L, O, Y, ga, ha))), (0, .ref (xB X + xkey 12 0 0)), (1, .int x), (2, .int (sg 1)), (6, .int (nI i))]) hx hb dX7_bestReach_113 hl (by decide) rfl (fun ls hl => ?_)
                  refine lv_iinc (v := nI (i + 1)) (lv' := [(6, .int (nI (i + 1))), (5, .int (Mbrought n nh nw x.toNatClampNeg 1 ((va_up sa 1 (nI i)), L, O, Y, ((Mticks n nh nw x.toNatClampNeg ((va_up sa 1 (nI i)), L, O, Y, ga, ha)).2.2.2.2.1), ((Mticks n nh nw x.toNatClampNeg ((va_up sa 1 (nI i)), L, O, Y, ga, ha)).2.2.2.2.2)))), (4, .int (Mbrought n nh nw x.toNatClampNeg 0 ((va_up sa 1 (nI i)), L, O, Y, ga, ha))), (3, .int (nI i)), (8, .int (Mbrought n nh nw x.toNatClampNeg 1 ((va_up sa 1 (nI i)), L, O, Y, ((Mticks n nh nw x.toNatClampNeg ((va_up sa 1 (nI i)), L, O, Y, ga, ha)).2.2.2.2.1), ((Mticks n nh nw x.toNatClampNeg ((va_up sa 1 (nI i)), L, O, Y, ga, ha)).2.2.2.2.2)))), (7, .int (Mbrought n nh nw x.toNatClampNeg 0 ((va_up sa 1 (nI i)), L, O, Y, ga, ha))), (0, .ref (xB X + xkey 12 0 0)), (1, .int x), (2, .int (sg 1))]) hx hb dX7_bestReach_115 hl (k := 8) rfl (nI_1 i) (by decide) rfl (fun ls hl => ?_)
                  refine lv_goto (tgt := 33) hx hb dX7_bestReach_118 (by decide) ?_
                  refine ih_33 (i + 1) (va_up sa 1 (nI i)) (Mcp (xat (va_up sa 1 (nI i)) L O Y) (Mcp (xat (va_up sa 1 (nI i)) L O Y) ea)) ((Mticks n nh nw x.toNatClampNeg ((va_up sa 1 (nI i)), L, O, Y, ((Mticks n nh nw x.toNatClampNeg ((va_up sa 1 (nI i)), L, O, Y, ga, ha)).2.2.2.2.1), ((Mticks n nh nw x.toNatClampNeg ((va_up sa 1 (nI i)), L, O, Y, ga, ha)).2.2.2.2.2))).2.2.2.2.1) ((Mticks n nh nw x.toNatClampNeg ((va_up sa 1 (nI i)), L, O, Y, ((Mticks n nh nw x.toNatClampNeg ((va_up sa 1 (nI i)), L, O, Y, ga, ha)).2.2.2.2.1), ((Mticks n nh nw x.toNatClampNeg ((va_up sa 1 (nI i)), L, O, Y, ga, ha)).2.2.2.2.2))).2.2.2.2.2) (nI i) (Mbrought n nh nw x.toNatClampNeg 0 ((va_up sa 1 (nI i)), L, O, Y, ga, ha)) (Mbrought n nh nw x.toNatClampNeg 1 ((va_up sa 1 (nI i)), L, O, Y, ((Mticks n nh nw x.toNatClampNeg ((va_up sa 1 (nI i)), L, O, Y, ga, ha)).2.2.2.2.1), ((Mticks n nh nw x.toNatClampNeg ((va_up sa 1 (nI i)), L, O, Y, ga, ha)).2.2.2.2.2))) (by omega) (fun j h => by rw [va_up_ne _ _ h]; exact hv0_33 j h) hv1_33 hv2_33 hv3_33 ?_ H locs ls hW (lv_sub hl [6, 7, 8, 3, 2, 1, 0] rfl)
                  rw [← hsp_33]; simp [xloop, Mbest1, Mbu, Mb4, Mb1, Mb2, c_1, c_3, c_4, Int32.not_lt.mp c_4, c_6, Int32.not_lt.mp c_6, c_10, c_11, Int32.not_lt.mp c_11, c_12, c_13, Int32.not_le.mp c_13]
    exact loop_33 60 1 sg pe pg ph (-6) 0 0 (by omega) (fun _ _ => rfl) hn hh hw rfl _ _ _ hW (lv_sub hl [5, 6, 4, 3, 2, 1, 0] rfl)
  · skip
    refine lv_bipush (v := (-2)) hx hb dX7_bestReach_11 (by decide) ?_
    obtain rfl : pe = pe' := by (rw [← ho0]) <;> (first | (simp [Mtk, c_1]; done) | (have e9 : (sa, ea, ga, ha, ba, fa, la) = Mbest n nh nw x.toNatClampNeg L O Y sg pe pg ph := hsp_33; unfold Mtk; rw [if_neg c_1, ← e9]))
    obtain rfl : pg = pg' := by (rw [← ho1]) <;> (first | (simp [Mtk, c_1]; done) | (have e9 : (sa, ea, ga, ha, ba, fa, la) = Mbest n nh nw x.toNatClampNeg L O Y sg pe pg ph := hsp_33; unfold Mtk; rw [if_neg c_1, ← e9]))
    obtain rfl : ph = ph' := by (rw [← ho2]) <;> (first | (simp [Mtk, c_1]; done) | (have e9 : (sa, ea, ga, ha, ba, fa, la) = Mbest n nh nw x.toNatClampNeg L O Y sg pe pg ph := hsp_33; unfold Mtk; rw [if_neg c_1, ← e9]))
    obtain rfl : (-2) = res := by (rw [← hres]) <;> (first | (simp [Mtk, c_1]; done) | (have e9 : (sa, ea, ga, ha, ba, fa, la) = Mbest n nh nw x.toNatClampNeg L O Y sg pe pg ph := hsp_33; unfold Mtk; rw [if_neg c_1, ← e9]))
    rw [hQ0]
    exact x_iret hx hb hret hlocks rfl hW rfl dX7_bestReach_13
set_option maxHeartbeats 4000000 in
set_option maxRecDepth 100000 in
theorem c_X7_darkWithout (l : Launch) (X : xX) (G : xG) {f sg pb pc pd pe pg ph pp pq pt pu : Nat → Int32} {L O Y : Nat → Nat → Int32} {n nh nw i : Nat} (hn : sg 7 = nI n) (hn16 : n ≤ 16) (hh : sg 8 = nI nh) (hh8 : nh ≤ 8) (hw : sg 9 = nI nw) (hw8 : nw ≤ 8) (hY : ∀ j, j < 8 → MW (Y j)) (hi : i < 16) {pe' : Nat → Int32} (ho0 : (Mcp (xat sg L O Y) pe) = pe') {pg' : Nat → Int32} (ho1 : ((Mwo n nh nw i (sg, L, O, Y, pg, ph)).2.2.2.2.1) = pg') {ph' : Nat → Int32} (ho2 : ((Mwo n nh nw i (sg, L, O, Y, pg, ph)).2.2.2.2.2) = ph') {res : Int32} (hres : (Msum nw 5 (Mwo n nh nw i (sg, L, O, Y, pg, ph)).2.2.2.1 - Msum nw 5 Y) = res) : XC l yX7_darkWithout cX7_darkWithout 4 (some .int) 5 112 0 0 X xsh [.ref (xB X + xkey 12 0 0), .int (nI i)] 603 603 (xval (xB X) (va_up G 12 (xMa f sg L O Y pb pc pd pe pg ph pp pq pt pu))) (xval (xB X) (va_up G 12 (xMa f sg L O Y pb pc pd pe' pg' ph' pp pq pt pu))) (some (.int res)) := by
  refine XC.of RX7 "darkWithout" [(0, .ref (xB X + xkey 12 0 0)), (1, .int (nI i))] (by decide) rfl rfl (Nat.le_of_ble_eq_true rfl) rfl ?_
  intro p e s m args below meth c ls hx hb hret hml hts hown hlocks hnm hK hW hl
  have hW : XR X G 12 (xMa f sg L O Y pb pc pd pe pg ph pp pq pt pu) s.heap [] := hW
  obtain ⟨Q0, hQ0⟩ : ∃ z, z = MQ below (xQ X xsh 603 (xval (xB X) (va_up G 12 (xMa f sg L O Y pb pc pd pe' pg' ph' pp pq pt pu))) (some (.int res))) args s 0 0 (fun q => xB X ≤ q) := ⟨_, rfl⟩
  rw [← hQ0]
  refine lv_aload_n hx hb dX7_darkWithout_0 rfl (lv_at hl 0 rfl) ?_
  refine x_callV hx hb hml hown hts hK hW hl.1 (c_X7_layAside l X G   (ho0 := rfl)) (xF_mo0).1 (xF_mo0).2.1 (by decide) rfl xw_706 xw_707 xw_708 xw_5 xw_709 hdV_yX7_layAside ⟨Nat.le_of_ble_eq_true rfl, Nat.le_of_ble_eq_true rfl⟩ rfl (Nat.le_of_ble_eq_true rfl) ⟨Nat.le_refl _, Nat.le_refl _⟩ dX7_darkWithout_1 (fun H locs hW => ?_)
  have hW : XR X G 12 (xMa f sg L O Y pb pc pd (Mcp (xat sg L O Y) pe) pg ph pp pq pt pu) H locs := hW
  refine lv_aload_n hx hb dX7_darkWithout_4 rfl (lv_at hl 0 rfl) ?_
  refine x_callV hx hb hml hown hts hK hW hl.1 (c_X7_darkTicks l X G (nw := nw) (hw := (by assumption)) (hw8 := (by assumption)) (hres := rfl)) (xF_mo0).1 (xF_mo0).2.1 (by decide) rfl xw_687 xw_688 xw_689 xw_5 xw_690 hdV_yX7_darkTicks ⟨Nat.le_of_ble_eq_true rfl, Nat.le_of_ble_eq_true rfl⟩ rfl (Nat.le_of_ble_eq_true rfl) ⟨Nat.le_refl _, Nat.le_refl _⟩ dX7_darkWithout_5 (fun H locs hW => ?_)
  refine lv_istore_n (lv' := [(2, .int (Msum nw 5 Y)), (0, .ref (xB X + xkey 12 0 0)), (1, .int (nI i))]) hx hb dX7_darkWithout_8 rfl hl (by decide) rfl (fun ls hl => ?_)
  refine lv_aload_n hx hb dX7_darkWithout_9 rfl (lv_at hl 1 rfl) ?_
  refine lv_iload_n hx hb dX7_darkWithout_10 rfl (lv_at hl 2 rfl) ?_
  refine lv_iconst (v := 2) hx hb dX7_darkWithout_11 (by decide) ?_
  have hW := XR.mfoc2 hW i
  refine x_callV hx hb hml hown hts hK hW hl.1 (c_X7_mendTo l X G (i := i) (h := 2) (hi := hi) (ho0 := rfl)) (xF_mo0).1 (xF_mo0).2.1 (by decide) rfl xw_315 xw_316 xw_317 xw_5 xw_318 hdV_yX7_mendTo ⟨Nat.le_of_ble_eq_true rfl, Nat.le_of_ble_eq_true rfl⟩ rfl (Nat.le_of_ble_eq_true rfl) ⟨Nat.le_refl _, Nat.le_refl _⟩ dX7_darkWithout_12 (fun H locs hW => ?_)
  have hW : XR X G 12 (xMa f sg (va_up L i (Mmend 2 (L i))) O Y pb pc pd (Mcp (xat sg L O Y) pe) pg ph pp pq pt pu) H locs := hW
  refine lv_iconst (v := nI 0) hx hb dX7_darkWithout_15 (by decide) ?_
  refine lv_istore_n (lv' := [(3, .int (nI 0)), (2, .int (Msum nw 5 Y)), (0, .ref (xB X + xkey 12 0 0)), (1, .int (nI i))]) hx hb dX7_darkWithout_16 rfl hl (by decide) rfl (fun ls hl => ?_)
  have loop_17 : ∀ (k_17 k : Nat) (sa : Nat → Int32) (La : Nat → Nat → Int32) (Oa : Nat → Nat → Int32) (Ya : Nat → Nat → Int32) (ga : Nat → Int32) (ha : Nat → Int32), k + k_17 = 100 → sa 7 = nI n → sa 8 = nI nh → sa 9 = nI nw → (∀ j, j < 8 → MW (Ya j)) → xloop (fun _ q => Mpass n nh nw q) k_17 k (sa, La, Oa, Ya, ga, ha) = xloop (fun _ q => Mpass n nh nw q) 100 0 (sg, (va_up L i (Mmend 2 (L i))), O, Y, pg, ph) → ∀ (H : Heap) (locs : List Loc) (ls : Array Slot), XR X G 12 (xMa f sa La Oa Ya pb pc pd (Mcp (xat sg L O Y) pe) ga ha pp pq pt pu) H locs → lv_has ls 4 [(0, .ref (xB X + xkey 12 0 0)), (1, .int (nI i)), (2, .int (Msum nw 5 Y)), (3, .int (nI k))] → W p l e { frames := 5, cells := 0, slots := 0, locals := 112 } s m args below meth c H locs 0 0 Q0 (F0 m 17 ls []) := by
    intro k_17
    induction k_17 with
    | zero =>
      intro k sa La Oa Ya ga ha hik_17 hv0_17 hv1_17 hv2_17 hv3_17 hsp_17 H locs ls hW hl
      refine lv_iload_n hx hb dX7_darkWithout_17 rfl (lv_at hl 3 rfl) ?_
      refine lv_bipush (v := nI 100) hx hb dX7_darkWithout_18 (by decide) ?_
      refine lv_icmp_ge (tgt := 33) hx hb dX7_darkWithout_20 (by decide) (fun c_1 => ?_) (fun c_1 => absurd (xge_refl (by omega)) c_1)
      refine lv_aload_n hx hb dX7_darkWithout_33 rfl (lv_at hl 0 rfl) ?_
      refine x_callV hx hb hml hown hts hK hW hl.1 (c_X7_darkTicks l X G (nw := nw) (hw := (by assumption)) (hw8 := (by assumption)) (hres := rfl)) (xF_mo0).1 (xF_mo0).2.1 (by decide) rfl xw_687 xw_688 xw_689 xw_5 xw_690 hdV_yX7_darkTicks ⟨Nat.le_of_ble_eq_true rfl, Nat.le_of_ble_eq_true rfl⟩ rfl (Nat.le_of_ble_eq_true rfl) ⟨Nat.le_refl _, Nat.le_refl _⟩ dX7_darkWithout_34 (fun H locs hW => ?_)
      refine lv_iload_n hx hb dX7_darkWithout_37 rfl (lv_at hl 2 rfl) ?_
      refine lv_isub hx hb dX7_darkWithout_38 ?_
      refine lv_istore_n (lv' := [(3, .int ((Msum nw 5 Ya) - (Msum nw 5 Y))), (0, .ref (xB X + xkey 12 0 0)), (1, .int (nI i)), (2, .int (Msum nw 5 Y))]) hx hb dX7_darkWithout_39 rfl hl (by decide) rfl (fun ls hl => ?_)
      refine lv_aload_n hx hb dX7_darkWithout_40 rfl (lv_at hl 1 rfl) ?_
      refine x_callV hx hb hml hown hts hK hW hl.1 (c_X7_layBack l X G (sg0 := sg) (L0 := L) (O0 := O) (Y0 := Y) (hpe := (fun k hk => Mcp_at hk)) (ho0 := rfl) (ho1 := rfl) (ho2 := rfl) (ho3 := rfl)) (xF_mo0).1 (xF_mo0).2.1 (by decide) rfl xw_710 xw_711 xw_712 xw_5 xw_713 hdV_yX7_layBack ⟨Nat.le_of_ble_eq_true rfl, Nat.le_of_ble_eq_true rfl⟩ rfl (Nat.le_of_ble_eq_true rfl) ⟨Nat.le_refl _, Nat.le_refl _⟩ dX7_darkWithout_41 (fun H locs hW => ?_)
      have hW : XR X G 12 (xMa f (sg) (L) (O) (Y) pb pc pd (Mcp (xat sg L O Y) pe) ga ha pp pq pt pu) H locs := hW
      refine lv_iload_n hx hb dX7_darkWithout_44 rfl (lv_at hl 0 rfl) ?_
      obtain rfl : (Mcp (xat sg L O Y) pe) = pe' := by (rw [← ho0]) <;> (have e9 : (sa, La, Oa, Ya, ga, ha) = Mwo n nh nw i (sg, L, O, Y, pg, ph) := hsp_17; first | rfl | rw [← e9])
      obtain rfl : ga = pg' := by (rw [← ho1]) <;> (have e9 : (sa, La, Oa, Ya, ga, ha) = Mwo n nh nw i (sg, L, O, Y, pg, ph) := hsp_17; first | rfl | rw [← e9])
      obtain rfl : ha = ph' := by (rw [← ho2]) <;> (have e9 : (sa, La, Oa, Ya, ga, ha) = Mwo n nh nw i (sg, L, O, Y, pg, ph) := hsp_17; first | rfl | rw [← e9])
      obtain rfl : (Msum nw 5 Ya) - (Msum nw 5 Y) = res := by (rw [← hres]) <;> (have e9 : (sa, La, Oa, Ya, ga, ha) = Mwo n nh nw i (sg, L, O, Y, pg, ph) := hsp_17; first | rfl | rw [← e9])
      rw [hQ0]
      exact x_iret hx hb hret hlocks rfl hW rfl dX7_darkWithout_45
    | succ k_17 ih_17 =>
      intro k sa La Oa Ya ga ha hik_17 hv0_17 hv1_17 hv2_17 hv3_17 hsp_17 H locs ls hW hl
      refine lv_iload_n hx hb dX7_darkWithout_17 rfl (lv_at hl 3 rfl) ?_
      refine lv_bipush (v := nI 100) hx hb dX7_darkWithout_18 (by decide) ?_
      refine lv_icmp_ge (tgt := 33) hx hb dX7_darkWithout_20 (by decide) (fun c_2 => absurd c_2 (nI_ge (by omega) (by omega))) (fun c_2 => ?_)
      refine lv_aload_n hx hb dX7_darkWithout_23 rfl (lv_at hl 0 rfl) ?_
      refine x_callV hx hb hml hown hts hK hW hl.1 (c_X7_pass l X G (n := n) (nh := nh) (nw := nw) (hn := (by assumption)) (hn16 := (by assumption)) (hh := (by assumption)) (hh8 := (by assumption)) (hw := (by assumption)) (hw8 := (by assumption)) (hY := (by assumption)) (ho0 := rfl) (ho1 := rfl) (ho2 := rfl) (ho3 := rfl) (ho4 := rfl) (ho5 := rfl)) (xF_mo0).1 (xF_mo0).2.1 (by decide) rfl xw_498 xw_499 xw_500 xw_5 xw_501 hdV_yX7_pass ⟨Nat.le_of_ble_eq_true rfl, Nat.le_of_ble_eq_true rfl⟩ rfl (Nat.le_of_ble_eq_true rfl) ⟨Nat.le_refl _, Nat.le_refl _⟩ dX7_darkWithout_24 (fun H locs hW => ?_)
      have hW : XR X G 12 (xMa f ((Mpass n nh nw (sa, La, Oa, Ya, ga, ha)).1) ((Mpass n nh nw (sa, La, Oa, Ya, ga, ha)).2.1) ((Mpass n nh nw (sa, La, Oa, Ya, ga, ha)).2.2.1) ((Mpass n nh nw (sa, La, Oa, Ya, ga, ha)).2.2.2.1) pb pc pd (Mcp (xat sg L O Y) pe) ((Mpass n nh nw (sa, La, Oa, Ya, ga, ha)).2.2.2.2.1) ((Mpass n nh nw (sa, La, Oa, Ya, ga, ha)).2.2.2.2.2) pp pq pt pu) H locs := hW
      refine lv_iinc (v := nI (k + 1)) (lv' := [(3, .int (nI (k + 1))), (0, .ref (xB X + xkey 12 0 0)), (1, .int (nI i)), (2, .int (Msum nw 5 Y))]) hx hb dX7_darkWithout_27 hl (k := 3) rfl (nI_1 k) (by decide) rfl (fun ls hl => ?_)
      refine lv_goto (tgt := 17) hx hb dX7_darkWithout_30 (by decide) ?_
      refine ih_17 (k + 1) ((Mpass n nh nw (sa, La, Oa, Ya, ga, ha)).1) ((Mpass n nh nw (sa, La, Oa, Ya, ga, ha)).2.1) ((Mpass n nh nw (sa, La, Oa, Ya, ga, ha)).2.2.1) ((Mpass n nh nw (sa, La, Oa, Ya, ga, ha)).2.2.2.1) ((Mpass n nh nw (sa, La, Oa, Ya, ga, ha)).2.2.2.2.1) ((Mpass n nh nw (sa, La, Oa, Ya, ga, ha)).2.2.2.2.2) (by omega) hv0_17 hv1_17 hv2_17 (MW_pass (q := (sa, La, Oa, Ya, ga, ha)) hv3_17) ?_ H locs ls hW (lv_sub hl [1, 2, 3, 0] rfl)
      rw [← hsp_17]; rfl
  exact loop_17 100 0 sg (va_up L i (Mmend 2 (L i))) O Y pg ph (by omega) hn hh hw hY rfl _ _ _ hW (lv_sub hl [2, 3, 1, 0] rfl)
set_option maxHeartbeats 4000000 in
set_option maxRecDepth 100000 in
theorem c_X7_needless (l : Launch) (X : xX) (G : xG) {f sg pb pc pd pe pg ph pp pq pt pu : Nat → Int32} {L O Y : Nat → Nat → Int32} {n nh nw : Nat} (hn : sg 7 = nI n) (hn16 : n ≤ 16) (hh : sg 8 = nI nh) (hh8 : nh ≤ 8) (hw : sg 9 = nI nw) (hw8 : nw ≤ 8) (hY : ∀ j, j < 8 → MW (Y j)) {pe' : Nat → Int32} (ho0 : ((Mneed n nh nw sg L O Y pe pg ph).1) = pe') {pg' : Nat → Int32} (ho1 : ((Mneed n nh nw sg L O Y pe pg ph).2.1) = pg') {ph' : Nat → Int32} (ho2 : ((Mneed n nh nw sg L O Y pe pg ph).2.2.1) = ph') {res : Int32} (hres : ((Mneed n nh nw sg L O Y pe pg ph).2.2.2) = res) : XC l yX7_needless cX7_needless 4 (some .int) 6 136 0 0 X xsh [.ref (xB X + xkey 12 0 0)] 603 603 (xval (xB X) (va_up G 12 (xMa f sg L O Y pb pc pd pe pg ph pp pq pt pu))) (xval (xB X) (va_up G 12 (xMa f sg L O Y pb pc pd pe' pg' ph' pp pq pt pu))) (some (.int res)) := by
  refine XC.of RX7 "needless" [(0, .ref (xB X + xkey 12 0 0))] (by decide) rfl rfl (Nat.le_of_ble_eq_true rfl) rfl ?_
  intro p e s m args below meth c ls hx hb hret hml hts hown hlocks hnm hK hW hl
  have hW : XR X G 12 (xMa f sg L O Y pb pc pd pe pg ph pp pq pt pu) s.heap [] := hW
  obtain ⟨Q0, hQ0⟩ : ∃ z, z = MQ below (xQ X xsh 603 (xval (xB X) (va_up G 12 (xMa f sg L O Y pb pc pd pe' pg' ph' pp pq pt pu))) (some (.int res))) args s 0 0 (fun q => xB X ≤ q) := ⟨_, rfl⟩
  rw [← hQ0]
  refine lv_aload_n hx hb dX7_needless_0 rfl (lv_at hl 0 rfl) ?_
  refine lv_bipush (v := nI 100) hx hb dX7_needless_1 (by decide) ?_
  refine lv_iconst (v := 0) hx hb dX7_needless_3 (by decide) ?_
  refine x_callV hx hb hml hown hts hK hW hl.1 (c_X7_brought l X G (n := n) (nh := nh) (nw := nw) (tk := 100) (w := 0) (hn := (by assumption)) (hn16 := (by assumption)) (hh := (by assumption)) (hh8 := (by assumption)) (hw := (by assumption)) (hw8 := (by assumption)) (hY := (by assumption)) (hm := (by decide)) (ho0 := rfl) (ho1 := rfl) (ho2 := rfl) (hres := rfl)) (xF_mo0).1 (xF_mo0).2.1 (by decide) rfl xw_728 xw_729 xw_730 xw_5 xw_731 hdV_yX7_brought ⟨Nat.le_of_ble_eq_true rfl, Nat.le_of_ble_eq_true rfl⟩ rfl (Nat.le_of_ble_eq_true rfl) ⟨Nat.le_refl _, Nat.le_refl _⟩ dX7_needless_4 (fun H locs hW => ?_)
  have hW : XR X G 12 (xMa f sg L O Y pb pc pd (Mcp (xat sg L O Y) pe) ((Mticks n nh nw 100 (sg, L, O, Y, pg, ph)).2.2.2.2.1) ((Mticks n nh nw 100 (sg, L, O, Y, pg, ph)).2.2.2.2.2) pp pq pt pu) H locs := hW
  refine lv_istore_n (lv' := [(1, .int (Mbrought n nh nw 100 0 (sg, L, O, Y, pg, ph))), (0, .ref (xB X + xkey 12 0 0))]) hx hb dX7_needless_7 rfl hl (by decide) rfl (fun ls hl => ?_)
  refine lv_iconst (v := 0) hx hb dX7_needless_8 (by decide) ?_
  refine lv_istore_n (lv' := [(2, .int 0), (1, .int (Mbrought n nh nw 100 0 (sg, L, O, Y, pg, ph))), (0, .ref (xB X + xkey 12 0 0))]) hx hb dX7_needless_9 rfl hl (by decide) rfl (fun ls hl => ?_)
  refine lv_iconst (v := nI 0) hx hb dX7_needless_10 (by decide) ?_
  refine lv_istore_n (lv' := [(3, .int (nI 0)), (2, .int 0), (1, .int (Mbrought n nh nw 100 0 (sg, L, O, Y, pg, ph))), (0, .ref (xB X + xkey 12 0 0))]) hx hb dX7_needless_11 rfl hl (by decide) rfl (fun ls hl => ?_)
  have loop_12 : ∀ (k_12 i : Nat) (ea : Nat → Int32) (ga : Nat → Int32) (ha : Nat → Int32) (da : Int32), i + k_12 = n → xloop (Mneed1 n nh nw (Mbrought n nh nw 100 0 (sg, L, O, Y, pg, ph)) sg L O Y) k_12 i (ea, ga, ha, da) = xloop (Mneed1 n nh nw (Mbrought n nh nw 100 0 (sg, L, O, Y, pg, ph)) sg L O Y) n 0 ((Mcp (xat sg L O Y) pe), ((Mticks n nh nw 100 (sg, L, O, Y, pg, ph)).2.2.2.2.1), ((Mticks n nh nw 100 (sg, L, O, Y, pg, ph)).2.2.2.2.2), 0) → ∀ (H : Heap) (locs : List Loc) (ls : Array Slot), XR X G 12 (xMa f sg L O Y pb pc pd ea ga ha pp pq pt pu) H locs → lv_has ls 4 [(0, .ref (xB X + xkey 12 0 0)), (1, .int (Mbrought n nh nw 100 0 (sg, L, O, Y, pg, ph))), (2, .int da), (3, .int (nI i))] → W p l e { frames := 6, cells := 0, slots := 0, locals := 136 } s m args below meth c H locs 0 0 Q0 (F0 m 12 ls []) := by
    intro k_12
    induction k_12 with
    | zero =>
      intro i ea ga ha da hik_12  hsp_12 H locs ls hW hl
      refine lv_iload_n hx hb dX7_needless_12 rfl (lv_at hl 3 rfl) ?_
      refine lv_aload_n hx hb dX7_needless_13 rfl (lv_at hl 0 rfl) ?_
      refine r_getr (C := RX7) (T := TX7) hx hb hts hown hK hW (xF_mo0).1 (xF_mo0).2.1 inlX7 rfl (by decide) 0 (by decide) (show xro (xkey 12 0 0) 0 = some (xkey 12 1 0) from by decide +kernel) xw_79 rfl dX7_needless_14 ?_
      refine lv_bipush (v := 7) hx hb dX7_needless_17 (by decide) ?_
      refine r_iald hx hb hK hW (N := 440) (xF_mo1) 7 (by decide) (by decide) (by decide) (xr_model 1 (by decide) (by decide) 7) (x := nI n) ((xat_s (sg := sg) (L := L) (O := O) (Y := Y) (k := 7) (by omega)).trans hn) dX7_needless_19 ?_
      refine lv_icmp_ge (tgt := 48) hx hb dX7_needless_20 (by decide) (fun c_1 => ?_) (fun c_1 => absurd (xge_refl (by omega)) c_1)
      refine lv_iload_n hx hb dX7_needless_48 rfl (lv_at hl 2 rfl) ?_
      obtain rfl : ea = pe' := by (rw [← ho0]) <;> (have e9 : (ea, ga, ha, da) = Mneed n nh nw sg L O Y pe pg ph := hsp_12; rw [← e9])
      obtain rfl : ga = pg' := by (rw [← ho1]) <;> (have e9 : (ea, ga, ha, da) = Mneed n nh nw sg L O Y pe pg ph := hsp_12; rw [← e9])
      obtain rfl : ha = ph' := by (rw [← ho2]) <;> (have e9 : (ea, ga, ha, da) = Mneed n nh nw sg L O Y pe pg ph := hsp_12; rw [← e9])
      obtain rfl : da = res := by (rw [← hres]) <;> (have e9 : (ea, ga, ha, da) = Mneed n nh nw sg L O Y pe pg ph := hsp_12; rw [← e9])
      rw [hQ0]
      exact x_iret hx hb hret hlocks rfl hW rfl dX7_needless_49
    | succ k_12 ih_12 =>
      intro i ea ga ha da hik_12  hsp_12 H locs ls hW hl
      refine lv_iload_n hx hb dX7_needless_12 rfl (lv_at hl 3 rfl) ?_
      refine lv_aload_n hx hb dX7_needless_13 rfl (lv_at hl 0 rfl) ?_
      refine r_getr (C := RX7) (T := TX7) hx hb hts hown hK hW (xF_mo0).1 (xF_mo0).2.1 inlX7 rfl (by decide) 0 (by decide) (show xro (xkey 12 0 0) 0 = some (xkey 12 1 0) from by decide +kernel) xw_79 rfl dX7_needless_14 ?_
      refine lv_bipush (v := 7) hx hb dX7_needless_17 (by decide) ?_
      refine r_iald hx hb hK hW (N := 440) (xF_mo1) 7 (by decide) (by decide) (by decide) (xr_model 1 (by decide) (by decide) 7) (x := nI n) ((xat_s (sg := sg) (L := L) (O := O) (Y := Y) (k := 7) (by omega)).trans hn) dX7_needless_19 ?_
      refine lv_icmp_ge (tgt := 48) hx hb dX7_needless_20 (by decide) (fun c_2 => absurd c_2 (nI_ge (by omega) (by omega))) (fun c_2 => ?_)
      refine lv_iload_n hx hb dX7_needless_23 rfl (lv_at hl 2 rfl) ?_
      refine lv_aload_n hx hb dX7_needless_24 rfl (lv_at hl 0 rfl) ?_
      refine lv_iload_n hx hb dX7_needless_25 rfl (lv_at hl 3 rfl) ?_
      refine x_callV hx hb hml hown hts hK hW hl.1 (c_X7_darkWithout l X G (n := n) (nh := nh) (nw := nw) (i := i) (hn := (by assumption)) (hn16 := (by assumption)) (hh := (by assumption)) (hh8 := (by assumption)) (hw := (by assumption)) (hw8 := (by assumption)) (hY := (by assumption)) (hi := (by omega)) (ho0 := rfl) (ho1 := rfl) (ho2 := rfl) (hres := rfl)) (xF_mo0).1 (xF_mo0).2.1 (by decide) rfl xw_758 xw_759 xw_760 xw_5 xw_761 hdV_yX7_darkWithout ⟨Nat.le_of_ble_eq_true rfl, Nat.le_of_ble_eq_true rfl⟩ rfl (Nat.le_of_ble_eq_true rfl) ⟨Nat.le_refl _, Nat.le_refl _⟩ dX7_needless_26 (fun H locs hW => ?_)
      have hW : XR X G 12 (xMa f sg L O Y pb pc pd (Mcp (xat sg L O Y) ea) ((Mwo n nh nw i (sg, L, O, Y, ga, ha)).2.2.2.2.1) ((Mwo n nh nw i (sg, L, O, Y, ga, ha)).2.2.2.2.2) pp pq pt pu) H locs := hW
      refine lv_iload_n hx hb dX7_needless_29 rfl (lv_at hl 1 rfl) ?_
      refine lv_icmp_gt (tgt := 39) hx hb dX7_needless_30 (by decide) (fun c_3 => ?_) (fun c_3 => ?_)
      · skip
        refine lv_iconst (v := 0) hx hb dX7_needless_39 (by decide) ?_
        refine lv_ior hx hb dX7_needless_40 ?_
        refine lv_istore_n (lv' := [(2, .int (da ||| 0)), (0, .ref (xB X + xkey 12 0 0)), (1, .int (Mbrought n nh nw 100 0 (sg, L, O, Y, pg, ph))), (3, .int (nI i))]) hx hb dX7_needless_41 rfl hl (by decide) rfl (fun ls hl => ?_)
        refine lv_iinc (v := nI (i + 1)) (lv' := [(3, .int (nI (i + 1))), (2, .int (da ||| 0)), (0, .ref (xB X + xkey 12 0 0)), (1, .int (Mbrought n nh nw 100 0 (sg, L, O, Y, pg, ph)))]) hx hb dX7_needless_42 hl (k := 3) rfl (nI_1 i) (by decide) rfl (fun ls hl => ?_)
        refine lv_goto (tgt := 12) hx hb dX7_needless_45 (by decide) ?_
        refine ih_12 (i + 1) (Mcp (xat sg L O Y) ea) ((Mwo n nh nw i (sg, L, O, Y, ga, ha)).2.2.2.2.1) ((Mwo n nh nw i (sg, L, O, Y, ga, ha)).2.2.2.2.2) (da ||| 0) (by omega)  ?_ H locs ls hW (lv_sub hl [2, 3, 1, 0] rfl)
        rw [← hsp_12]; simp [xloop, Mneed1, c_2, c_3, Int32.not_le.mpr c_3]
      · skip
        refine lv_iconst (v := 1) hx hb dX7_needless_33 (by decide) ?_
        refine lv_iload_n hx hb dX7_needless_34 rfl (lv_at hl 3 rfl) ?_
        refine lv_ishl hx hb dX7_needless_35 ?_
        refine lv_eqi (y := xbit i) rfl ?_
        refine lv_goto (tgt := 40) hx hb dX7_needless_36 (by decide) ?_
        refine lv_ior hx hb dX7_needless_40 ?_
        refine lv_istore_n (lv' := [(2, .int (da ||| (xbit i))), (0, .ref (xB X + xkey 12 0 0)), (1, .int (Mbrought n nh nw 100 0 (sg, L, O, Y, pg, ph))), (3, .int (nI i))]) hx hb dX7_needless_41 rfl hl (by decide) rfl (fun ls hl => ?_)
        refine lv_iinc (v := nI (i + 1)) (lv' := [(3, .int (nI (i + 1))), (2, .int (da ||| (xbit i))), (0, .ref (xB X + xkey 12 0 0)), (1, .int (Mbrought n nh nw 100 0 (sg, L, O, Y, pg, ph)))]) hx hb dX7_needless_42 hl (k := 3) rfl (nI_1 i) (by decide) rfl (fun ls hl => ?_)
        refine lv_goto (tgt := 12) hx hb dX7_needless_45 (by decide) ?_
        refine ih_12 (i + 1) (Mcp (xat sg L O Y) ea) ((Mwo n nh nw i (sg, L, O, Y, ga, ha)).2.2.2.2.1) ((Mwo n nh nw i (sg, L, O, Y, ga, ha)).2.2.2.2.2) (da ||| (xbit i)) (by omega)  ?_ H locs ls hW (lv_sub hl [2, 3, 1, 0] rfl)
        rw [← hsp_12]; simp [xloop, Mneed1, c_2, c_3, Int32.not_lt.mp c_3]
  exact loop_12 n 0 (Mcp (xat sg L O Y) pe) ((Mticks n nh nw 100 (sg, L, O, Y, pg, ph)).2.2.2.2.1) ((Mticks n nh nw 100 (sg, L, O, Y, pg, ph)).2.2.2.2.2) 0 (by omega)  rfl _ _ _ hW (lv_sub hl [3, 2, 1, 0] rfl)
