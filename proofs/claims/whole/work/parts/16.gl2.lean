/-! ===== the class's own methods: reads, what if ===== -/
def xushr (x k : Int32) : Int32 := (x.toUInt32 >>> (k.toUInt32 &&& Int32.toUInt32 31)).toInt32
def xpa (x : Int32) : Int32 := x - (xushr x 1 &&& 1431655765)
def xpb (x : Int32) : Int32 := (x &&& 858993459) + (xushr x 2 &&& 858993459)
def xpc (x : Int32) : Int32 := (x + xushr x 4) &&& 252645135
def xpd (x : Int32) : Int32 := x + xushr x 8
def xpe (x : Int32) : Int32 := x + xushr x 16
def xpop (x : Int32) : Int32 := xpe (xpd (xpc (xpb (xpa x)))) &&& 63
theorem xfin11 {x : Int32} (c : ¬ Fin3 x 11 16 = 0) : (x - 11).toNatClampNeg < 6 ∧ x - 11 = nI (x - 11).toNatClampNeg := by
  unfold Fin3 at c
  by_cases h1 : x < 11
  · rw [if_pos h1] at c; exact absurd rfl c
  · rw [if_neg h1] at c
    by_cases h2 : 16 < x
    · rw [if_pos h2] at c; exact absurd rfl c
    · have h3 := Int32.not_lt.mp h1
      have h4 := Int32.not_lt.mp h2
      rw [Int32.le_iff_toInt_le] at h3 h4
      have e11 : (11 : Int32).toInt = 11 := by decide
      have e16 : (16 : Int32).toInt = 16 := by decide
      rw [e11] at h3
      rw [e16] at h4
      rcases (show x.toInt = 11 ∨ x.toInt = 12 ∨ x.toInt = 13 ∨ x.toInt = 14 ∨ x.toInt = 15 ∨ x.toInt = 16 by omega) with e | e | e | e | e | e
      · rw [Int32.toInt_inj.mp (e.trans (by decide : (11 : Int) = (11 : Int32).toInt))]; exact ⟨by decide, by decide⟩
      · rw [Int32.toInt_inj.mp (e.trans (by decide : (12 : Int) = (12 : Int32).toInt))]; exact ⟨by decide, by decide⟩
      · rw [Int32.toInt_inj.mp (e.trans (by decide : (13 : Int) = (13 : Int32).toInt))]; exact ⟨by decide, by decide⟩
      · rw [Int32.toInt_inj.mp (e.trans (by decide : (14 : Int) = (14 : Int32).toInt))]; exact ⟨by decide, by decide⟩
      · rw [Int32.toInt_inj.mp (e.trans (by decide : (15 : Int) = (15 : Int32).toInt))]; exact ⟨by decide, by decide⟩
      · rw [Int32.toInt_inj.mp (e.trans (by decide : (16 : Int) = (16 : Int32).toInt))]; exact ⟨by decide, by decide⟩
def Fcount (x : Int32) (σ : xS) (h p : Nat → Int32) : Int32 :=
  if Fin3 x 11 16 = 0 then
    (if x = 0 then σ 0 0 7 else if x = 1 then nI (cN σ) else if x = 2 then nI (cH σ) else if x = 3 then nI (cW σ) else if x = 4 then r_walkersInStreet σ else if x = 5 then xpop (r_lampsThatAre 2 σ) else if x = 6 then xpop (r_lampsThatAre 1 σ) else if x = 7 then r_total 1 σ else if x = 8 then r_total 0 σ else if x = 9 then r_total 2 σ else if x = 10 then r_total 3 σ else if x = 17 then p 2 else if x = 18 then h 2 else -2)
  else σ 1 0 (x - 11).toNatClampNeg
def Fhome : Nat → Nat → (Nat → Int32) × (Nat → Int32) × (Nat → Int32) → ((Nat → Int32) × (Nat → Int32) × (Nat → Int32)) × Int32
  | 0, _, q => (q, -6)
  | k + 1, i, q => if q.1 5 = 0 then Fhome k (i + 1) (FgoW q.1 q.2.1 q.2.2, FgoP q.1 q.2.1 q.2.2 q.2.1, FgoP q.1 q.2.1 q.2.2 q.2.2) else (q, nI i)
def sHome (x : Int32) (a σ : xS) : xS × Int32 :=
  if r_hasWalker x a = 0 then (σ, -1) else
    (xSt (σ 0 0) (σ 1 0) (σ 2) (σ 3) (va_up (σ 4) x.toNatClampNeg (Fhome 501 0 (FcopyW (a 4 x.toNatClampNeg) (σ 4 x.toNatClampNeg), Fcpy6 (a 5 x.toNatClampNeg) (σ 5 x.toNatClampNeg), Fcpy6 (a 6 x.toNatClampNeg) (σ 6 x.toNatClampNeg))).1.1)
      (va_up (σ 5) x.toNatClampNeg (Fhome 501 0 (FcopyW (a 4 x.toNatClampNeg) (σ 4 x.toNatClampNeg), Fcpy6 (a 5 x.toNatClampNeg) (σ 5 x.toNatClampNeg), Fcpy6 (a 6 x.toNatClampNeg) (σ 6 x.toNatClampNeg))).1.2.1)
      (va_up (σ 6) x.toNatClampNeg (Fhome 501 0 (FcopyW (a 4 x.toNatClampNeg) (σ 4 x.toNatClampNeg), Fcpy6 (a 5 x.toNatClampNeg) (σ 5 x.toNatClampNeg), Fcpy6 (a 6 x.toNatClampNeg) (σ 6 x.toNatClampNeg))).1.2.2),
     (Fhome 501 0 (FcopyW (a 4 x.toNatClampNeg) (σ 4 x.toNatClampNeg), Fcpy6 (a 5 x.toNatClampNeg) (σ 5 x.toNatClampNeg), Fcpy6 (a 6 x.toNatClampNeg) (σ 6 x.toNatClampNeg))).2)
/-- what the trial brings in x ticks -/
def sTry (x : Int32) (a σ : xS) : xS := s_letPass x (s_become a σ)
def xreach (i : Nat) (x : Int32) (a σ : xS) : xS := s_letPass x (s_changeSetting 1 (nI i) (s_become a σ))
def Fbest (x : Int32) (a : xS) (i : Nat) (q : xS × Int32 × Int32 × Int32) : xS × Int32 × Int32 × Int32 :=
  if ¬ nI i ≤ nI 1 ∧ r_hasLampsApart (nI i) a = 0 then q else
    if q.2.1 = -6 ∨ r_total 0 (xreach i x a q.1) - r_total 0 a < q.2.2.1 ∨ (r_total 0 (xreach i x a q.1) - r_total 0 a = q.2.2.1 ∧ r_total 1 (xreach i x a q.1) - r_total 1 a < q.2.2.2)
    then (xreach i x a q.1, nI i, r_total 0 (xreach i x a q.1) - r_total 0 a, r_total 1 (xreach i x a q.1) - r_total 1 a) else (xreach i x a q.1, q.2)
def sBest (x : Int32) (a σ : xS) : xS × Int32 × Int32 × Int32 := if Fin3 x 1 200 = 0 then (σ, -2, 0, 0) else xloop (Fbest x a) 60 1 (σ, -6, 0, 0)
def xwithout (i : Nat) (a σ : xS) : xS := s_letPass 100 (s_mendLamp (nI i) 2 (s_become a σ))
def Fneed (a : xS) (d : Int32) (i : Nat) (q : xS × Int32) : xS × Int32 := (xwithout i a q.1, if r_total 0 (xwithout i a q.1) - r_total 0 a ≤ d then q.2 ||| xbit i else q.2)
def sNeed (a σ : xS) : xS × Int32 := xloop (Fneed a (r_total 0 (sTry 100 a σ) - r_total 0 a)) (cN a) 0 (sTry 100 a σ, 0)
theorem hdS_yJ6_bitCount_0f7a4 : yJ6_bitCount_0f7a4.cls ≠ "java/lang/invoke/MethodHandle" ∧ yJ6_bitCount_0f7a4.cls ≠ "java/lang/invoke/VarHandle" ∧ (parseMethodDescriptor yJ6_bitCount_0f7a4.desc).map (fun d => d.parameters.length) = some 1 := by decide +kernel
theorem hdV_yX6_ofLamp : yX6_ofLamp.cls = RX6 ∧ yX6_ofLamp.cls ≠ "java/lang/invoke/MethodHandle" ∧ yX6_ofLamp.cls ≠ "java/lang/invoke/VarHandle" ∧ (parseMethodDescriptor yX6_ofLamp.desc).map (fun d => d.parameters.length) = some 2 := by decide +kernel
theorem hdV_yX6_ofWalker : yX6_ofWalker.cls = RX6 ∧ yX6_ofWalker.cls ≠ "java/lang/invoke/MethodHandle" ∧ yX6_ofWalker.cls ≠ "java/lang/invoke/VarHandle" ∧ (parseMethodDescriptor yX6_ofWalker.desc).map (fun d => d.parameters.length) = some 2 := by decide +kernel
theorem hdV_yX6_ofHouse : yX6_ofHouse.cls = RX6 ∧ yX6_ofHouse.cls ≠ "java/lang/invoke/MethodHandle" ∧ yX6_ofHouse.cls ≠ "java/lang/invoke/VarHandle" ∧ (parseMethodDescriptor yX6_ofHouse.desc).map (fun d => d.parameters.length) = some 2 := by decide +kernel
theorem hdV_yX6_lightAt : yX6_lightAt.cls = RX6 ∧ yX6_lightAt.cls ≠ "java/lang/invoke/MethodHandle" ∧ yX6_lightAt.cls ≠ "java/lang/invoke/VarHandle" ∧ (parseMethodDescriptor yX6_lightAt.desc).map (fun d => d.parameters.length) = some 1 := by decide +kernel
theorem hdV_yX6_hearers : yX6_hearers.cls = RX6 ∧ yX6_hearers.cls ≠ "java/lang/invoke/MethodHandle" ∧ yX6_hearers.cls ≠ "java/lang/invoke/VarHandle" ∧ (parseMethodDescriptor yX6_hearers.desc).map (fun d => d.parameters.length) = some 1 := by decide +kernel
theorem hdV_yX6_broughtByTrial : yX6_broughtByTrial.cls = RX6 ∧ yX6_broughtByTrial.cls ≠ "java/lang/invoke/MethodHandle" ∧ yX6_broughtByTrial.cls ≠ "java/lang/invoke/VarHandle" ∧ (parseMethodDescriptor yX6_broughtByTrial.desc).map (fun d => d.parameters.length) = some 1 := by decide +kernel
theorem hdV_yX6_count : yX6_count.cls = RX6 ∧ yX6_count.cls ≠ "java/lang/invoke/MethodHandle" ∧ yX6_count.cls ≠ "java/lang/invoke/VarHandle" ∧ (parseMethodDescriptor yX6_count.desc).map (fun d => d.parameters.length) = some 1 := by decide +kernel
theorem hdV_yX6_brings : yX6_brings.cls = RX6 ∧ yX6_brings.cls ≠ "java/lang/invoke/MethodHandle" ∧ yX6_brings.cls ≠ "java/lang/invoke/VarHandle" ∧ (parseMethodDescriptor yX6_brings.desc).map (fun d => d.parameters.length) = some 2 := by decide +kernel
set_option maxHeartbeats 4000000 in
set_option maxRecDepth 100000 in
theorem c_J6_bitCount_0f7a4 (l : Launch) (X : xX) (G : xG) {x : Int32}  {res : Int32} (hres : (xpop x) = res) : XC l yJ6_bitCount_0f7a4 cJ6_bitCount_0f7a4 1 (some .int) 0 0 0 0 X xsh [.int x] 603 603 (xval (xB X) G) (xval (xB X) G) (some (.int res)) := by
  refine XC.of RJ6 "bitCount" [(0, .int x)] (by decide) rfl rfl (Nat.le_of_ble_eq_true rfl) rfl ?_
  intro p e s m args below meth c ls hx hb hret hml hts hown hlocks hnm hK hW hl
  have hW : XG X G s.heap [] := hW
  obtain ⟨Q0, hQ0⟩ : ∃ z, z = MQ below (xQ X xsh 603 (xval (xB X) G) (some (.int res))) args s 0 0 (fun q => xB X ≤ q) := ⟨_, rfl⟩
  rw [← hQ0]
  refine lv_iload_n hx hb dJ6_bitCount_0f7a4_0 rfl (lv_at hl 0 rfl) ?_
  refine lv_iload_n hx hb dJ6_bitCount_0f7a4_1 rfl (lv_at hl 0 rfl) ?_
  refine lv_iconst (v := 1) hx hb dJ6_bitCount_0f7a4_2 (by decide) ?_
  refine lv_iushr (v := xushr x 1) hx hb dJ6_bitCount_0f7a4_3 rfl ?_
  refine lv_ldcw hx hb hown (hts _ xw_646) dJ6_bitCount_0f7a4_4 ?_
  refine lv_iand hx hb dJ6_bitCount_0f7a4_7 ?_
  refine lv_isub hx hb dJ6_bitCount_0f7a4_8 ?_
  refine lv_eqi (y := xpa x) rfl ?_
  refine lv_istore_n (lv' := [(0, .int (xpa x))]) hx hb dJ6_bitCount_0f7a4_9 rfl hl (by decide) rfl (fun ls hl => ?_)
  refine lv_iload_n hx hb dJ6_bitCount_0f7a4_10 rfl (lv_at hl 0 rfl) ?_
  refine lv_ldcw hx hb hown (hts _ xw_647) dJ6_bitCount_0f7a4_11 ?_
  refine lv_iand hx hb dJ6_bitCount_0f7a4_14 ?_
  refine lv_iload_n hx hb dJ6_bitCount_0f7a4_15 rfl (lv_at hl 0 rfl) ?_
  refine lv_iconst (v := 2) hx hb dJ6_bitCount_0f7a4_16 (by decide) ?_
  refine lv_iushr (v := xushr (xpa x) 2) hx hb dJ6_bitCount_0f7a4_17 rfl ?_
  refine lv_ldcw hx hb hown (hts _ xw_647) dJ6_bitCount_0f7a4_18 ?_
  refine lv_iand hx hb dJ6_bitCount_0f7a4_21 ?_
  refine lv_iadd hx hb dJ6_bitCount_0f7a4_22 ?_
  refine lv_eqi (y := xpb (xpa x)) rfl ?_
  refine lv_istore_n (lv' := [(0, .int (xpb (xpa x)))]) hx hb dJ6_bitCount_0f7a4_23 rfl hl (by decide) rfl (fun ls hl => ?_)
  refine lv_iload_n hx hb dJ6_bitCount_0f7a4_24 rfl (lv_at hl 0 rfl) ?_
  refine lv_iload_n hx hb dJ6_bitCount_0f7a4_25 rfl (lv_at hl 0 rfl) ?_
  refine lv_iconst (v := 4) hx hb dJ6_bitCount_0f7a4_26 (by decide) ?_
  refine lv_iushr (v := xushr (xpb (xpa x)) 4) hx hb dJ6_bitCount_0f7a4_27 rfl ?_
  refine lv_iadd hx hb dJ6_bitCount_0f7a4_28 ?_
  refine lv_ldcw hx hb hown (hts _ xw_648) dJ6_bitCount_0f7a4_29 ?_
  refine lv_iand hx hb dJ6_bitCount_0f7a4_32 ?_
  refine lv_eqi (y := xpc (xpb (xpa x))) rfl ?_
  refine lv_istore_n (lv' := [(0, .int (xpc (xpb (xpa x))))]) hx hb dJ6_bitCount_0f7a4_33 rfl hl (by decide) rfl (fun ls hl => ?_)
  refine lv_iload_n hx hb dJ6_bitCount_0f7a4_34 rfl (lv_at hl 0 rfl) ?_
  refine lv_iload_n hx hb dJ6_bitCount_0f7a4_35 rfl (lv_at hl 0 rfl) ?_
  refine lv_bipush (v := 8) hx hb dJ6_bitCount_0f7a4_36 (by decide) ?_
  refine lv_iushr (v := xushr (xpc (xpb (xpa x))) 8) hx hb dJ6_bitCount_0f7a4_38 rfl ?_
  refine lv_iadd hx hb dJ6_bitCount_0f7a4_39 ?_
  refine lv_eqi (y := xpd (xpc (xpb (xpa x)))) rfl ?_
  refine lv_istore_n (lv' := [(0, .int (xpd (xpc (xpb (xpa x)))))]) hx hb dJ6_bitCount_0f7a4_40 rfl hl (by decide) rfl (fun ls hl => ?_)
  refine lv_iload_n hx hb dJ6_bitCount_0f7a4_41 rfl (lv_at hl 0 rfl) ?_
  refine lv_iload_n hx hb dJ6_bitCount_0f7a4_42 rfl (lv_at hl 0 rfl) ?_
  refine lv_bipush (v := 16) hx hb dJ6_bitCount_0f7a4_43 (by decide) ?_
  refine lv_iushr (v := xushr (xpd (xpc (xpb (xpa x)))) 16) hx hb dJ6_bitCount_0f7a4_45 rfl ?_
  refine lv_iadd hx hb dJ6_bitCount_0f7a4_46 ?_
  refine lv_eqi (y := xpe (xpd (xpc (xpb (xpa x))))) rfl ?_
  refine lv_istore_n (lv' := [(0, .int (xpe (xpd (xpc (xpb (xpa x))))))]) hx hb dJ6_bitCount_0f7a4_47 rfl hl (by decide) rfl (fun ls hl => ?_)
  refine lv_iload_n hx hb dJ6_bitCount_0f7a4_48 rfl (lv_at hl 0 rfl) ?_
  refine lv_bipush (v := 63) hx hb dJ6_bitCount_0f7a4_49 (by decide) ?_
  refine lv_iand hx hb dJ6_bitCount_0f7a4_51 ?_
  obtain rfl : (xpe (xpd (xpc (xpb (xpa x))))) &&& 63 = res := by (rw [← hres]) <;> (rfl)
  rw [hQ0]
  exact x_iret hx hb hret hlocks rfl hW rfl dJ6_bitCount_0f7a4_52
set_option maxHeartbeats 4000000 in
set_option maxRecDepth 100000 in
theorem c_X6_ofLamp (l : Launch) (X : xX) {S : Nat → xS} {sv hs pf sn nb : Nat → Int32} {ρ : xS} {x w : Int32} (hS : ∀ r, r < 11 → Sok (S r)) {res : Int32} (hres : (if r_hasLamp x (S 0) = 0 then -1 else Ftell (S 0 2 x.toNatClampNeg) w) = res) : XC l yX6_ofLamp cX6_ofLamp 3 (some .int) 1 21 0 0 X xsh [.ref (xB X + xkey 11 5 0), .int x, .int w] 603 603 (xval (xB X) (xGl S (xMi sv hs pf sn nb) ρ)) (xval (xB X) (xGl S (xMi sv hs pf sn nb) ρ)) (some (.int res)) := by
  refine XC.of RX6 "ofLamp" [(0, .ref (xB X + xkey 11 5 0)), (1, .int x), (2, .int w)] (by decide) rfl rfl (Nat.le_of_ble_eq_true rfl) rfl ?_
  intro p e s m args below meth c ls hx hb hret hml hts hown hlocks hnm hK hW hl
  have hW : XG X (xGl S (xMi sv hs pf sn nb) ρ) s.heap [] := hW
  obtain ⟨Q0, hQ0⟩ : ∃ z, z = MQ below (xQ X xsh 603 (xval (xB X) (xGl S (xMi sv hs pf sn nb) ρ)) (some (.int res))) args s 0 0 (fun q => xB X ≤ q) := ⟨_, rfl⟩
  rw [← hQ0]
  refine lv_aload_n hx hb dX6_ofLamp_0 rfl (lv_at hl 0 rfl) ?_
  refine r_getr (C := RX6) (T := TX6) hx hb hts hown hK hW (xF_mi5).1 (xF_mi5).2 inlX6 rfl (by decide) 0 (by decide) (show xro (xkey 11 5 0) 0 = some (xkey 0 0 0) from by decide +kernel) xw_16 rfl dX6_ofLamp_1 ?_
  refine lv_iload_n hx hb dX6_ofLamp_4 rfl (lv_at hl 1 rfl) ?_
  have hW : XR X (xGl S (xMi sv hs pf sn nb) ρ) 0 (xSt ((S 0) 0 0) ((S 0) 1 0) ((S 0) 2) ((S 0) 3) ((S 0) 4) ((S 0) 5) ((S 0) 6)) _ _ := XG.inS hW 0 (S 0) (by decide) rfl
  refine x_callV hx hb hml hown hts hK hW hl.1 (c_X4_hasLamp l X _ (r := 0) (n := (cN (S 0))) (x := x) (hr := (by decide)) (hn := (hS 0 (by decide)).hn) (hn16 := (hS 0 (by decide)).hn16) (hres := rfl)) (xF_street 0 (by omega)).1 (xF_street 0 (by omega)).2.1 (by decide) rfl xw_559 xw_296 xw_297 xw_15 xw_298 hdV_yX4_hasLamp ⟨Nat.le_of_ble_eq_true rfl, Nat.le_of_ble_eq_true rfl⟩ rfl (Nat.le_of_ble_eq_true rfl) ⟨Nat.le_refl _, Nat.le_refl _⟩ dX6_ofLamp_5 (fun H locs hW => ?_)
  have hW : XG X (xGl S (xMi sv hs pf sn nb) ρ) H locs := XG.unS (σ := (S 0)) (by decide) rfl hW
  refine lv_eqi (y := (r_hasLamp x (S 0))) rfl ?_
  refine lv_if_eq (tgt := 27) hx hb dX6_ofLamp_8 (by decide) (fun c_1 => ?_) (fun c_1 => ?_)
  · skip
    refine lv_iconst (v := (-1)) hx hb dX6_ofLamp_27 (by decide) ?_
    obtain rfl : (-1) = res := by (rw [← hres]) <;> (simp [c_1])
    rw [hQ0]
    exact x_iret hx hb hret hlocks rfl hW rfl dX6_ofLamp_28
  · skip
    have hx7 := (hS 0 (by decide)).hn16
    have hx9 := xhas (x := x) (n := cN (S 0)) (by omega) c_1
    have hx8 : x.toNatClampNeg < cN (S 0) := hx9.1
    refine lv_aload_n hx hb dX6_ofLamp_11 rfl (lv_at hl 0 rfl) ?_
    refine r_getr (C := RX6) (T := TX6) hx hb hts hown hK hW (xF_mi5).1 (xF_mi5).2 inlX6 rfl (by decide) 0 (by decide) (show xro (xkey 11 5 0) 0 = some (xkey 0 0 0) from by decide +kernel) xw_16 rfl dX6_ofLamp_12 ?_
    refine r_getr (C := RX4) (T := TX4) hx hb hts hown hK hW (xF_street 0 (by omega)).1 (xF_street 0 (by omega)).2.1 inlX4 rfl (by decide) 1 (by decide) (xr_street 0 (by omega)).2.1 xw_558 rfl dX6_ofLamp_15 ?_
    refine lv_iload_n hx hb dX6_ofLamp_18 rfl (lv_at hl 1 rfl) ?_
    refine r_aald hx hb hK hW (xF_lamps 0 (by omega)).1 (xF_lamps 0 (by omega)).2 (by decide) 4 rfl x.toNatClampNeg (by omega) (by decide) hx9.2 (xr_lamps 0 (by omega) x.toNatClampNeg (by omega)) dX6_ofLamp_19 ?_
    refine lv_iload_n hx hb dX6_ofLamp_20 rfl (lv_at hl 2 rfl) ?_
    have hW : XR X (xGl S (xMi sv hs pf sn nb) ρ) 0 (xSt ((S 0) 0 0) ((S 0) 1 0) ((S 0) 2) ((S 0) 3) ((S 0) 4) ((S 0) 5) ((S 0) 6)) _ _ := XG.inS hW 0 (S 0) (by decide) rfl
    have hW := XR.foc2 hW x.toNatClampNeg
    refine x_callV hx hb hml hown hts hK hW hl.1 (c_X2_tell l X _ (r := 0) (i := x.toNatClampNeg) (x := w) (hr := (by decide)) (hi := (by omega)) (hres := rfl)) (xF_lamp 0 (by omega) x.toNatClampNeg (by omega)).1 (xF_lamp 0 (by omega) x.toNatClampNeg (by omega)).2.1 (by decide) rfl xw_560 xw_561 xw_562 xw_46 xw_563 hdV_yX2_tell ⟨Nat.le_of_ble_eq_true rfl, Nat.le_of_ble_eq_true rfl⟩ rfl (Nat.le_of_ble_eq_true rfl) ⟨Nat.le_refl _, Nat.le_refl _⟩ dX6_ofLamp_21 (fun H locs hW => ?_)
    have hW := XR.unf2 (X := X) hW
    have hW : XG X (xGl S (xMi sv hs pf sn nb) ρ) H locs := XG.unS (σ := (S 0)) (by decide) rfl hW
    refine lv_goto (tgt := 28) hx hb dX6_ofLamp_24 (by decide) ?_
    obtain rfl : Ftell (((S 0) 2) x.toNatClampNeg) w = res := by (rw [← hres]) <;> (simp [c_1])
    rw [hQ0]
    exact x_iret hx hb hret hlocks rfl hW rfl dX6_ofLamp_28
set_option maxHeartbeats 4000000 in
set_option maxRecDepth 100000 in
theorem c_X6_ofWalker (l : Launch) (X : xX) {S : Nat → xS} {sv hs pf sn nb : Nat → Int32} {ρ : xS} {x w : Int32} (hS : ∀ r, r < 11 → Sok (S r)) {res : Int32} (hres : (if r_hasWalker x (S 0) = 0 then -1 else r_tellOfWalker x.toNatClampNeg w (S 0)) = res) : XC l yX6_ofWalker cX6_ofWalker 3 (some .int) 5 108 0 0 X xsh [.ref (xB X + xkey 11 5 0), .int x, .int w] 603 603 (xval (xB X) (xGl S (xMi sv hs pf sn nb) ρ)) (xval (xB X) (xGl S (xMi sv hs pf sn nb) ρ)) (some (.int res)) := by
  refine XC.of RX6 "ofWalker" [(0, .ref (xB X + xkey 11 5 0)), (1, .int x), (2, .int w)] (by decide) rfl rfl (Nat.le_of_ble_eq_true rfl) rfl ?_
  intro p e s m args below meth c ls hx hb hret hml hts hown hlocks hnm hK hW hl
  have hW : XG X (xGl S (xMi sv hs pf sn nb) ρ) s.heap [] := hW
  obtain ⟨Q0, hQ0⟩ : ∃ z, z = MQ below (xQ X xsh 603 (xval (xB X) (xGl S (xMi sv hs pf sn nb) ρ)) (some (.int res))) args s 0 0 (fun q => xB X ≤ q) := ⟨_, rfl⟩
  rw [← hQ0]
  refine lv_aload_n hx hb dX6_ofWalker_0 rfl (lv_at hl 0 rfl) ?_
  refine r_getr (C := RX6) (T := TX6) hx hb hts hown hK hW (xF_mi5).1 (xF_mi5).2 inlX6 rfl (by decide) 0 (by decide) (show xro (xkey 11 5 0) 0 = some (xkey 0 0 0) from by decide +kernel) xw_16 rfl dX6_ofWalker_1 ?_
  refine lv_iload_n hx hb dX6_ofWalker_4 rfl (lv_at hl 1 rfl) ?_
  have hW : XR X (xGl S (xMi sv hs pf sn nb) ρ) 0 (xSt ((S 0) 0 0) ((S 0) 1 0) ((S 0) 2) ((S 0) 3) ((S 0) 4) ((S 0) 5) ((S 0) 6)) _ _ := XG.inS hW 0 (S 0) (by decide) rfl
  refine x_callV hx hb hml hown hts hK hW hl.1 (c_X4_hasWalker l X _ (r := 0) (nw := (cW (S 0))) (x := x) (hr := (by decide)) (hw := (hS 0 (by decide)).hw) (hw8 := (hS 0 (by decide)).hw8) (hres := rfl)) (xF_street 0 (by omega)).1 (xF_street 0 (by omega)).2.1 (by decide) rfl xw_573 xw_259 xw_260 xw_15 xw_261 hdV_yX4_hasWalker ⟨Nat.le_of_ble_eq_true rfl, Nat.le_of_ble_eq_true rfl⟩ rfl (Nat.le_of_ble_eq_true rfl) ⟨Nat.le_refl _, Nat.le_refl _⟩ dX6_ofWalker_5 (fun H locs hW => ?_)
  have hW : XG X (xGl S (xMi sv hs pf sn nb) ρ) H locs := XG.unS (σ := (S 0)) (by decide) rfl hW
  refine lv_eqi (y := (r_hasWalker x (S 0))) rfl ?_
  refine lv_if_eq (tgt := 31) hx hb dX6_ofWalker_8 (by decide) (fun c_1 => ?_) (fun c_1 => ?_)
  · skip
    refine lv_iconst (v := (-1)) hx hb dX6_ofWalker_31 (by decide) ?_
    obtain rfl : (-1) = res := by (rw [← hres]) <;> (simp [c_1])
    rw [hQ0]
    exact x_iret hx hb hret hlocks rfl hW rfl dX6_ofWalker_32
  · skip
    have hx7 := (hS 0 (by decide)).hw8
    have hx9 := xhas (x := x) (n := cW (S 0)) (by omega) c_1
    have hx8 : x.toNatClampNeg < cW (S 0) := hx9.1
    refine lv_aload_n hx hb dX6_ofWalker_11 rfl (lv_at hl 0 rfl) ?_
    refine r_getr (C := RX6) (T := TX6) hx hb hts hown hK hW (xF_mi5).1 (xF_mi5).2 inlX6 rfl (by decide) 0 (by decide) (show xro (xkey 11 5 0) 0 = some (xkey 0 0 0) from by decide +kernel) xw_16 rfl dX6_ofWalker_12 ?_
    refine lv_aload_n hx hb dX6_ofWalker_15 rfl (lv_at hl 0 rfl) ?_
    refine r_getr (C := RX6) (T := TX6) hx hb hts hown hK hW (xF_mi5).1 (xF_mi5).2 inlX6 rfl (by decide) 0 (by decide) (show xro (xkey 11 5 0) 0 = some (xkey 0 0 0) from by decide +kernel) xw_16 rfl dX6_ofWalker_16 ?_
    refine r_getr (C := RX4) (T := TX4) hx hb hts hown hK hW (xF_street 0 (by omega)).1 (xF_street 0 (by omega)).2.1 inlX4 rfl (by decide) 3 (by decide) (xr_street 0 (by omega)).2.2.2.1 xw_572 rfl dX6_ofWalker_19 ?_
    refine lv_iload_n hx hb dX6_ofWalker_22 rfl (lv_at hl 1 rfl) ?_
    refine r_aald hx hb hK hW (xF_walkers 0 (by omega)).1 (xF_walkers 0 (by omega)).2 (by decide) 6 rfl x.toNatClampNeg (by omega) (by decide) hx9.2 (xr_walkers 0 (by omega) x.toNatClampNeg (by omega)) dX6_ofWalker_23 ?_
    refine lv_iload_n hx hb dX6_ofWalker_24 rfl (lv_at hl 2 rfl) ?_
    have hW : XR X (xGl S (xMi sv hs pf sn nb) ρ) 0 (xSt ((S 0) 0 0) ((S 0) 1 0) ((S 0) 2) ((S 0) 3) ((S 0) 4) ((S 0) 5) ((S 0) 6)) _ _ := XG.inS hW 0 (S 0) (by decide) rfl
    refine x_callV hx hb hml hown hts hK hW hl.1 (c_X4_tellOfWalker l X _ (r := 0) (n := (cN (S 0))) (a := x.toNatClampNeg) (x := w) (hr := (by decide)) (hn := (hS 0 (by decide)).hn) (hn16 := (hS 0 (by decide)).hn16) (ha := (by omega)) (hres := rfl)) (xF_street 0 (by omega)).1 (xF_street 0 (by omega)).2.1 (by decide) rfl xw_574 xw_575 xw_576 xw_15 xw_577 hdV_yX4_tellOfWalker ⟨Nat.le_of_ble_eq_true rfl, Nat.le_of_ble_eq_true rfl⟩ rfl (Nat.le_of_ble_eq_true rfl) ⟨Nat.le_refl _, Nat.le_refl _⟩ dX6_ofWalker_25 (fun H locs hW => ?_)
    have hW : XG X (xGl S (xMi sv hs pf sn nb) ρ) H locs := XG.unS (σ := (S 0)) (by decide) rfl hW
    refine lv_eqi (y := (r_tellOfWalker x.toNatClampNeg w (S 0))) rfl ?_
    refine lv_goto (tgt := 32) hx hb dX6_ofWalker_28 (by decide) ?_
    obtain rfl : (r_tellOfWalker x.toNatClampNeg w (S 0)) = res := by (rw [← hres]) <;> (simp [c_1])
    rw [hQ0]
    exact x_iret hx hb hret hlocks rfl hW rfl dX6_ofWalker_32
set_option maxHeartbeats 4000000 in
set_option maxRecDepth 100000 in
theorem c_X6_ofHouse (l : Launch) (X : xX) {S : Nat → xS} {sv hs pf sn nb : Nat → Int32} {ρ : xS} {x w : Int32} (hS : ∀ r, r < 11 → Sok (S r)) {res : Int32} (hres : (if r_hasHouse x (S 0) = 0 then -1 else r_tellOfHouse x.toNatClampNeg w (S 0)) = res) : XC l yX6_ofHouse cX6_ofHouse 3 (some .int) 5 107 0 0 X xsh [.ref (xB X + xkey 11 5 0), .int x, .int w] 603 603 (xval (xB X) (xGl S (xMi sv hs pf sn nb) ρ)) (xval (xB X) (xGl S (xMi sv hs pf sn nb) ρ)) (some (.int res)) := by
  refine XC.of RX6 "ofHouse" [(0, .ref (xB X + xkey 11 5 0)), (1, .int x), (2, .int w)] (by decide) rfl rfl (Nat.le_of_ble_eq_true rfl) rfl ?_
  intro p e s m args below meth c ls hx hb hret hml hts hown hlocks hnm hK hW hl
  have hW : XG X (xGl S (xMi sv hs pf sn nb) ρ) s.heap [] := hW
  obtain ⟨Q0, hQ0⟩ : ∃ z, z = MQ below (xQ X xsh 603 (xval (xB X) (xGl S (xMi sv hs pf sn nb) ρ)) (some (.int res))) args s 0 0 (fun q => xB X ≤ q) := ⟨_, rfl⟩
  rw [← hQ0]
  refine lv_aload_n hx hb dX6_ofHouse_0 rfl (lv_at hl 0 rfl) ?_
  refine r_getr (C := RX6) (T := TX6) hx hb hts hown hK hW (xF_mi5).1 (xF_mi5).2 inlX6 rfl (by decide) 0 (by decide) (show xro (xkey 11 5 0) 0 = some (xkey 0 0 0) from by decide +kernel) xw_16 rfl dX6_ofHouse_1 ?_
  refine lv_iload_n hx hb dX6_ofHouse_4 rfl (lv_at hl 1 rfl) ?_
  have hW : XR X (xGl S (xMi sv hs pf sn nb) ρ) 0 (xSt ((S 0) 0 0) ((S 0) 1 0) ((S 0) 2) ((S 0) 3) ((S 0) 4) ((S 0) 5) ((S 0) 6)) _ _ := XG.inS hW 0 (S 0) (by decide) rfl
  refine x_callV hx hb hml hown hts hK hW hl.1 (c_X4_hasHouse l X _ (r := 0) (nh := (cH (S 0))) (x := x) (hr := (by decide)) (hh := (hS 0 (by decide)).hh) (hh8 := (hS 0 (by decide)).hh8) (hres := rfl)) (xF_street 0 (by omega)).1 (xF_street 0 (by omega)).2.1 (by decide) rfl xw_592 xw_593 xw_594 xw_15 xw_595 hdV_yX4_hasHouse ⟨Nat.le_of_ble_eq_true rfl, Nat.le_of_ble_eq_true rfl⟩ rfl (Nat.le_of_ble_eq_true rfl) ⟨Nat.le_refl _, Nat.le_refl _⟩ dX6_ofHouse_5 (fun H locs hW => ?_)
  have hW : XG X (xGl S (xMi sv hs pf sn nb) ρ) H locs := XG.unS (σ := (S 0)) (by decide) rfl hW
  refine lv_eqi (y := (r_hasHouse x (S 0))) rfl ?_
  refine lv_if_eq (tgt := 31) hx hb dX6_ofHouse_8 (by decide) (fun c_1 => ?_) (fun c_1 => ?_)
  · skip
    refine lv_iconst (v := (-1)) hx hb dX6_ofHouse_31 (by decide) ?_
    obtain rfl : (-1) = res := by (rw [← hres]) <;> (simp [c_1])
    rw [hQ0]
    exact x_iret hx hb hret hlocks rfl hW rfl dX6_ofHouse_32
  · skip
    have hx7 := (hS 0 (by decide)).hh8
    have hx9 := xhas (x := x) (n := cH (S 0)) (by omega) c_1
    have hx8 : x.toNatClampNeg < cH (S 0) := hx9.1
    refine lv_aload_n hx hb dX6_ofHouse_11 rfl (lv_at hl 0 rfl) ?_
    refine r_getr (C := RX6) (T := TX6) hx hb hts hown hK hW (xF_mi5).1 (xF_mi5).2 inlX6 rfl (by decide) 0 (by decide) (show xro (xkey 11 5 0) 0 = some (xkey 0 0 0) from by decide +kernel) xw_16 rfl dX6_ofHouse_12 ?_
    refine lv_aload_n hx hb dX6_ofHouse_15 rfl (lv_at hl 0 rfl) ?_
    refine r_getr (C := RX6) (T := TX6) hx hb hts hown hK hW (xF_mi5).1 (xF_mi5).2 inlX6 rfl (by decide) 0 (by decide) (show xro (xkey 11 5 0) 0 = some (xkey 0 0 0) from by decide +kernel) xw_16 rfl dX6_ofHouse_16 ?_
    refine r_getr (C := RX4) (T := TX4) hx hb hts hown hK hW (xF_street 0 (by omega)).1 (xF_street 0 (by omega)).2.1 inlX4 rfl (by decide) 2 (by decide) (xr_street 0 (by omega)).2.2.1 xw_591 rfl dX6_ofHouse_19 ?_
    refine lv_iload_n hx hb dX6_ofHouse_22 rfl (lv_at hl 1 rfl) ?_
    refine r_aald hx hb hK hW (xF_houses 0 (by omega)).1 (xF_houses 0 (by omega)).2 (by decide) 5 rfl x.toNatClampNeg (by omega) (by decide) hx9.2 (xr_houses 0 (by omega) x.toNatClampNeg (by omega)) dX6_ofHouse_23 ?_
    refine lv_iload_n hx hb dX6_ofHouse_24 rfl (lv_at hl 2 rfl) ?_
    have hW : XR X (xGl S (xMi sv hs pf sn nb) ρ) 0 (xSt ((S 0) 0 0) ((S 0) 1 0) ((S 0) 2) ((S 0) 3) ((S 0) 4) ((S 0) 5) ((S 0) 6)) _ _ := XG.inS hW 0 (S 0) (by decide) rfl
    refine x_callV hx hb hml hown hts hK hW hl.1 (c_X4_tellOfHouse l X _ (r := 0) (n := (cN (S 0))) (a := x.toNatClampNeg) (x := w) (hr := (by decide)) (hn := (hS 0 (by decide)).hn) (hn16 := (hS 0 (by decide)).hn16) (ha := (by omega)) (hres := rfl)) (xF_street 0 (by omega)).1 (xF_street 0 (by omega)).2.1 (by decide) rfl xw_596 xw_597 xw_598 xw_15 xw_599 hdV_yX4_tellOfHouse ⟨Nat.le_of_ble_eq_true rfl, Nat.le_of_ble_eq_true rfl⟩ rfl (Nat.le_of_ble_eq_true rfl) ⟨Nat.le_refl _, Nat.le_refl _⟩ dX6_ofHouse_25 (fun H locs hW => ?_)
    have hW : XG X (xGl S (xMi sv hs pf sn nb) ρ) H locs := XG.unS (σ := (S 0)) (by decide) rfl hW
    refine lv_eqi (y := (r_tellOfHouse x.toNatClampNeg w (S 0))) rfl ?_
    refine lv_goto (tgt := 32) hx hb dX6_ofHouse_28 (by decide) ?_
    obtain rfl : (r_tellOfHouse x.toNatClampNeg w (S 0)) = res := by (rw [← hres]) <;> (simp [c_1])
    rw [hQ0]
    exact x_iret hx hb hret hlocks rfl hW rfl dX6_ofHouse_32
set_option maxHeartbeats 4000000 in
set_option maxRecDepth 100000 in
theorem c_X6_lightAt (l : Launch) (X : xX) {S : Nat → xS} {sv hs pf sn nb : Nat → Int32} {ρ : xS} {x : Int32} (hS : ∀ r, r < 11 → Sok (S r)) {res : Int32} (hres : (if Fin3 x 0 99 = 0 then -1 else r_lampsThatLight x (S 0)) = res) : XC l yX6_lightAt cX6_lightAt 2 (some .int) 4 86 0 0 X xsh [.ref (xB X + xkey 11 5 0), .int x] 603 603 (xval (xB X) (xGl S (xMi sv hs pf sn nb) ρ)) (xval (xB X) (xGl S (xMi sv hs pf sn nb) ρ)) (some (.int res)) := by
  refine XC.of RX6 "lightAt" [(0, .ref (xB X + xkey 11 5 0)), (1, .int x)] (by decide) rfl rfl (Nat.le_of_ble_eq_true rfl) rfl ?_
  intro p e s m args below meth c ls hx hb hret hml hts hown hlocks hnm hK hW hl
  have hW : XG X (xGl S (xMi sv hs pf sn nb) ρ) s.heap [] := hW
  obtain ⟨Q0, hQ0⟩ : ∃ z, z = MQ below (xQ X xsh 603 (xval (xB X) (xGl S (xMi sv hs pf sn nb) ρ)) (some (.int res))) args s 0 0 (fun q => xB X ≤ q) := ⟨_, rfl⟩
  rw [← hQ0]
  refine lv_iload_n hx hb dX6_lightAt_0 rfl (lv_at hl 1 rfl) ?_
  refine x_callS hx hb hml hown hts hK hW hl.1 (c_X6_isStep l X _ (v := x) (hres := rfl)) xw_608 xw_180 xw_2 xw_181 hdS_yX6_isStep ⟨Nat.le_of_ble_eq_true rfl, Nat.le_of_ble_eq_true rfl⟩ rfl (Nat.le_of_ble_eq_true rfl) ⟨Nat.le_refl _, Nat.le_refl _⟩ dX6_lightAt_1 (fun H locs hW => ?_)
  refine lv_if_eq (tgt := 18) hx hb dX6_lightAt_4 (by decide) (fun c_1 => ?_) (fun c_1 => ?_)
  · skip
    refine lv_iconst (v := (-1)) hx hb dX6_lightAt_18 (by decide) ?_
    obtain rfl : (-1) = res := by (rw [← hres]) <;> (simp [c_1])
    rw [hQ0]
    exact x_iret hx hb hret hlocks rfl hW rfl dX6_lightAt_19
  · skip
    refine lv_aload_n hx hb dX6_lightAt_7 rfl (lv_at hl 0 rfl) ?_
    refine r_getr (C := RX6) (T := TX6) hx hb hts hown hK hW (xF_mi5).1 (xF_mi5).2 inlX6 rfl (by decide) 0 (by decide) (show xro (xkey 11 5 0) 0 = some (xkey 0 0 0) from by decide +kernel) xw_16 rfl dX6_lightAt_8 ?_
    refine lv_iload_n hx hb dX6_lightAt_11 rfl (lv_at hl 1 rfl) ?_
    have hW : XR X (xGl S (xMi sv hs pf sn nb) ρ) 0 (xSt ((S 0) 0 0) ((S 0) 1 0) ((S 0) 2) ((S 0) 3) ((S 0) 4) ((S 0) 5) ((S 0) 6)) _ _ := XG.inS hW 0 (S 0) (by decide) rfl
    refine x_callV hx hb hml hown hts hK hW hl.1 (c_X4_lampsThatLight l X _ (r := 0) (n := (cN (S 0))) (x := x) (hr := (by decide)) (hn := (hS 0 (by decide)).hn) (hn16 := (hS 0 (by decide)).hn16) (hres := rfl)) (xF_street 0 (by omega)).1 (xF_street 0 (by omega)).2.1 (by decide) rfl xw_609 xw_468 xw_469 xw_15 xw_470 hdV_yX4_lampsThatLight ⟨Nat.le_of_ble_eq_true rfl, Nat.le_of_ble_eq_true rfl⟩ rfl (Nat.le_of_ble_eq_true rfl) ⟨Nat.le_refl _, Nat.le_refl _⟩ dX6_lightAt_12 (fun H locs hW => ?_)
    have hW : XG X (xGl S (xMi sv hs pf sn nb) ρ) H locs := XG.unS (σ := (S 0)) (by decide) rfl hW
    refine lv_eqi (y := (r_lampsThatLight x (S 0))) rfl ?_
    refine lv_goto (tgt := 19) hx hb dX6_lightAt_15 (by decide) ?_
    obtain rfl : (r_lampsThatLight x (S 0)) = res := by (rw [← hres]) <;> (simp [c_1])
    rw [hQ0]
    exact x_iret hx hb hret hlocks rfl hW rfl dX6_lightAt_19
set_option maxHeartbeats 4000000 in
set_option maxRecDepth 100000 in
theorem c_X6_hearers (l : Launch) (X : xX) {S : Nat → xS} {sv hs pf sn nb : Nat → Int32} {ρ : xS} {x : Int32} (hS : ∀ r, r < 11 → Sok (S r)) {res : Int32} (hres : (if r_hasLamp x (S 0) = 0 then -1 else r_lampsThatHear x.toNatClampNeg (S 0)) = res) : XC l yX6_hearers cX6_hearers 2 (some .int) 4 87 0 0 X xsh [.ref (xB X + xkey 11 5 0), .int x] 603 603 (xval (xB X) (xGl S (xMi sv hs pf sn nb) ρ)) (xval (xB X) (xGl S (xMi sv hs pf sn nb) ρ)) (some (.int res)) := by
  refine XC.of RX6 "hearers" [(0, .ref (xB X + xkey 11 5 0)), (1, .int x)] (by decide) rfl rfl (Nat.le_of_ble_eq_true rfl) rfl ?_
  intro p e s m args below meth c ls hx hb hret hml hts hown hlocks hnm hK hW hl
  have hW : XG X (xGl S (xMi sv hs pf sn nb) ρ) s.heap [] := hW
  obtain ⟨Q0, hQ0⟩ : ∃ z, z = MQ below (xQ X xsh 603 (xval (xB X) (xGl S (xMi sv hs pf sn nb) ρ)) (some (.int res))) args s 0 0 (fun q => xB X ≤ q) := ⟨_, rfl⟩
  rw [← hQ0]
  refine lv_aload_n hx hb dX6_hearers_0 rfl (lv_at hl 0 rfl) ?_
  refine r_getr (C := RX6) (T := TX6) hx hb hts hown hK hW (xF_mi5).1 (xF_mi5).2 inlX6 rfl (by decide) 0 (by decide) (show xro (xkey 11 5 0) 0 = some (xkey 0 0 0) from by decide +kernel) xw_16 rfl dX6_hearers_1 ?_
  refine lv_iload_n hx hb dX6_hearers_4 rfl (lv_at hl 1 rfl) ?_
  have hW : XR X (xGl S (xMi sv hs pf sn nb) ρ) 0 (xSt ((S 0) 0 0) ((S 0) 1 0) ((S 0) 2) ((S 0) 3) ((S 0) 4) ((S 0) 5) ((S 0) 6)) _ _ := XG.inS hW 0 (S 0) (by decide) rfl
  refine x_callV hx hb hml hown hts hK hW hl.1 (c_X4_hasLamp l X _ (r := 0) (n := (cN (S 0))) (x := x) (hr := (by decide)) (hn := (hS 0 (by decide)).hn) (hn16 := (hS 0 (by decide)).hn16) (hres := rfl)) (xF_street 0 (by omega)).1 (xF_street 0 (by omega)).2.1 (by decide) rfl xw_559 xw_296 xw_297 xw_15 xw_298 hdV_yX4_hasLamp ⟨Nat.le_of_ble_eq_true rfl, Nat.le_of_ble_eq_true rfl⟩ rfl (Nat.le_of_ble_eq_true rfl) ⟨Nat.le_refl _, Nat.le_refl _⟩ dX6_hearers_5 (fun H locs hW => ?_)
  have hW : XG X (xGl S (xMi sv hs pf sn nb) ρ) H locs := XG.unS (σ := (S 0)) (by decide) rfl hW
  refine lv_eqi (y := (r_hasLamp x (S 0))) rfl ?_
  refine lv_if_eq (tgt := 22) hx hb dX6_hearers_8 (by decide) (fun c_1 => ?_) (fun c_1 => ?_)
  · skip
    refine lv_iconst (v := (-1)) hx hb dX6_hearers_22 (by decide) ?_
    obtain rfl : (-1) = res := by (rw [← hres]) <;> (simp [c_1])
    rw [hQ0]
    exact x_iret hx hb hret hlocks rfl hW rfl dX6_hearers_23
  · skip
    have hx7 := (hS 0 (by decide)).hn16
    have hx9 := xhas (x := x) (n := cN (S 0)) (by omega) c_1
    have hx8 : x.toNatClampNeg < cN (S 0) := hx9.1
    refine lv_aload_n hx hb dX6_hearers_11 rfl (lv_at hl 0 rfl) ?_
    refine r_getr (C := RX6) (T := TX6) hx hb hts hown hK hW (xF_mi5).1 (xF_mi5).2 inlX6 rfl (by decide) 0 (by decide) (show xro (xkey 11 5 0) 0 = some (xkey 0 0 0) from by decide +kernel) xw_16 rfl dX6_hearers_12 ?_
    refine lv_iload_n hx hb dX6_hearers_15 rfl (lv_at hl 1 rfl) ?_
    refine lv_eqi (y := nI x.toNatClampNeg) hx9.2 ?_
    have hW : XR X (xGl S (xMi sv hs pf sn nb) ρ) 0 (xSt ((S 0) 0 0) ((S 0) 1 0) ((S 0) 2) ((S 0) 3) ((S 0) 4) ((S 0) 5) ((S 0) 6)) _ _ := XG.inS hW 0 (S 0) (by decide) rfl
    refine x_callV hx hb hml hown hts hK hW hl.1 (c_X4_lampsThatHear l X _ (r := 0) (n := (cN (S 0))) (a := x.toNatClampNeg) (hr := (by decide)) (hn := (hS 0 (by decide)).hn) (hn16 := (hS 0 (by decide)).hn16) (ha := (by omega)) (hres := rfl)) (xF_street 0 (by omega)).1 (xF_street 0 (by omega)).2.1 (by decide) rfl xw_618 xw_619 xw_620 xw_15 xw_621 hdV_yX4_lampsThatHear ⟨Nat.le_of_ble_eq_true rfl, Nat.le_of_ble_eq_true rfl⟩ rfl (Nat.le_of_ble_eq_true rfl) ⟨Nat.le_refl _, Nat.le_refl _⟩ dX6_hearers_16 (fun H locs hW => ?_)
    have hW : XG X (xGl S (xMi sv hs pf sn nb) ρ) H locs := XG.unS (σ := (S 0)) (by decide) rfl hW
    refine lv_eqi (y := (r_lampsThatHear x.toNatClampNeg (S 0))) rfl ?_
    refine lv_goto (tgt := 23) hx hb dX6_hearers_19 (by decide) ?_
    obtain rfl : (r_lampsThatHear x.toNatClampNeg (S 0)) = res := by (rw [← hres]) <;> (simp [c_1])
    rw [hQ0]
    exact x_iret hx hb hret hlocks rfl hW rfl dX6_hearers_23
set_option maxHeartbeats 4000000 in
set_option maxRecDepth 100000 in
theorem c_X6_broughtByTrial (l : Launch) (X : xX) {S : Nat → xS} {sv hs pf sn nb : Nat → Int32} {ρ : xS} {w : Int32} (hS : ∀ r, r < 11 → Sok (S r)) {res : Int32} (hres : (r_total w (S 1) - r_total w (S 0)) = res) : XC l yX6_broughtByTrial cX6_broughtByTrial 2 (some .int) 2 43 0 0 X xsh [.ref (xB X + xkey 11 5 0), .int w] 603 603 (xval (xB X) (xGl S (xMi sv hs pf sn nb) ρ)) (xval (xB X) (xGl S (xMi sv hs pf sn nb) ρ)) (some (.int res)) := by
  refine XC.of RX6 "broughtByTrial" [(0, .ref (xB X + xkey 11 5 0)), (1, .int w)] (by decide) rfl rfl (Nat.le_of_ble_eq_true rfl) rfl ?_
  intro p e s m args below meth c ls hx hb hret hml hts hown hlocks hnm hK hW hl
  have hW : XG X (xGl S (xMi sv hs pf sn nb) ρ) s.heap [] := hW
  obtain ⟨Q0, hQ0⟩ : ∃ z, z = MQ below (xQ X xsh 603 (xval (xB X) (xGl S (xMi sv hs pf sn nb) ρ)) (some (.int res))) args s 0 0 (fun q => xB X ≤ q) := ⟨_, rfl⟩
  rw [← hQ0]
  refine lv_aload_n hx hb dX6_broughtByTrial_0 rfl (lv_at hl 0 rfl) ?_
  refine r_getr (C := RX6) (T := TX6) hx hb hts hown hK hW (xF_mi5).1 (xF_mi5).2 inlX6 rfl (by decide) 1 (by decide) (show xro (xkey 11 5 0) 1 = some (xkey 1 0 0) from by decide +kernel) xw_17 rfl dX6_broughtByTrial_1 ?_
  refine lv_iload_n hx hb dX6_broughtByTrial_4 rfl (lv_at hl 1 rfl) ?_
  have hW : XR X (xGl S (xMi sv hs pf sn nb) ρ) 1 (xSt ((S 1) 0 0) ((S 1) 1 0) ((S 1) 2) ((S 1) 3) ((S 1) 4) ((S 1) 5) ((S 1) 6)) _ _ := XG.inS hW 1 (S 1) (by decide) rfl
  refine x_callV hx hb hml hown hts hK hW hl.1 (c_X4_total l X _ (r := 1) (n := (cN (S 1))) (nh := (cH (S 1))) (nw := (cW (S 1))) (x := w) (hr := (by decide)) (hn := (hS 1 (by decide)).hn) (hn16 := (hS 1 (by decide)).hn16) (hh := (hS 1 (by decide)).hh) (hh8 := (hS 1 (by decide)).hh8) (hw := (hS 1 (by decide)).hw) (hw8 := (hS 1 (by decide)).hw8) (hres := rfl)) (xF_street 1 (by omega)).1 (xF_street 1 (by omega)).2.1 (by decide) rfl xw_649 xw_650 xw_651 xw_15 xw_652 hdV_yX4_total ⟨Nat.le_of_ble_eq_true rfl, Nat.le_of_ble_eq_true rfl⟩ rfl (Nat.le_of_ble_eq_true rfl) ⟨Nat.le_refl _, Nat.le_refl _⟩ dX6_broughtByTrial_5 (fun H locs hW => ?_)
  have hW : XG X (xGl S (xMi sv hs pf sn nb) ρ) H locs := XG.unS (σ := (S 1)) (by decide) rfl hW
  refine lv_eqi (y := (r_total w (S 1))) rfl ?_
  refine lv_aload_n hx hb dX6_broughtByTrial_8 rfl (lv_at hl 0 rfl) ?_
  refine r_getr (C := RX6) (T := TX6) hx hb hts hown hK hW (xF_mi5).1 (xF_mi5).2 inlX6 rfl (by decide) 0 (by decide) (show xro (xkey 11 5 0) 0 = some (xkey 0 0 0) from by decide +kernel) xw_16 rfl dX6_broughtByTrial_9 ?_
  refine lv_iload_n hx hb dX6_broughtByTrial_12 rfl (lv_at hl 1 rfl) ?_
  have hW : XR X (xGl S (xMi sv hs pf sn nb) ρ) 0 (xSt ((S 0) 0 0) ((S 0) 1 0) ((S 0) 2) ((S 0) 3) ((S 0) 4) ((S 0) 5) ((S 0) 6)) _ _ := XG.inS hW 0 (S 0) (by decide) rfl
  refine x_callV hx hb hml hown hts hK hW hl.1 (c_X4_total l X _ (r := 0) (n := (cN (S 0))) (nh := (cH (S 0))) (nw := (cW (S 0))) (x := w) (hr := (by decide)) (hn := (hS 0 (by decide)).hn) (hn16 := (hS 0 (by decide)).hn16) (hh := (hS 0 (by decide)).hh) (hh8 := (hS 0 (by decide)).hh8) (hw := (hS 0 (by decide)).hw) (hw8 := (hS 0 (by decide)).hw8) (hres := rfl)) (xF_street 0 (by omega)).1 (xF_street 0 (by omega)).2.1 (by decide) rfl xw_649 xw_650 xw_651 xw_15 xw_652 hdV_yX4_total ⟨Nat.le_of_ble_eq_true rfl, Nat.le_of_ble_eq_true rfl⟩ rfl (Nat.le_of_ble_eq_true rfl) ⟨Nat.le_refl _, Nat.le_refl _⟩ dX6_broughtByTrial_13 (fun H locs hW => ?_)
  have hW : XG X (xGl S (xMi sv hs pf sn nb) ρ) H locs := XG.unS (σ := (S 0)) (by decide) rfl hW
  refine lv_eqi (y := (r_total w (S 0))) rfl ?_
  refine lv_isub hx hb dX6_broughtByTrial_16 ?_
  obtain rfl : (r_total w (S 1)) - (r_total w (S 0)) = res := by (rw [← hres]) <;> (skip)
  rw [hQ0]
  exact x_iret hx hb hret hlocks rfl hW rfl dX6_broughtByTrial_17
set_option maxHeartbeats 4000000 in
set_option maxRecDepth 100000 in
theorem c_X6_count (l : Launch) (X : xX) {S : Nat → xS} {sv hs pf sn nb : Nat → Int32} {ρ : xS} {x : Int32} (hS : ∀ r, r < 11 → Sok (S r)) {res : Int32} (hres : (Fcount x (S 0) hs pf) = res) : XC l yX6_count cX6_count 2 (some .int) 2 43 0 0 X xsh [.ref (xB X + xkey 11 5 0), .int x] 603 603 (xval (xB X) (xGl S (xMi sv hs pf sn nb) ρ)) (xval (xB X) (xGl S (xMi sv hs pf sn nb) ρ)) (some (.int res)) := by
  refine XC.of RX6 "count" [(0, .ref (xB X + xkey 11 5 0)), (1, .int x)] (by decide) rfl rfl (Nat.le_of_ble_eq_true rfl) rfl ?_
  intro p e s m args below meth c ls hx hb hret hml hts hown hlocks hnm hK hW hl
  have hW : XG X (xGl S (xMi sv hs pf sn nb) ρ) s.heap [] := hW
  obtain ⟨Q0, hQ0⟩ : ∃ z, z = MQ below (xQ X xsh 603 (xval (xB X) (xGl S (xMi sv hs pf sn nb) ρ)) (some (.int res))) args s 0 0 (fun q => xB X ≤ q) := ⟨_, rfl⟩
  rw [← hQ0]
  refine lv_iload_n hx hb dX6_count_0 rfl (lv_at hl 1 rfl) ?_
  refine lv_bipush (v := 11) hx hb dX6_count_1 (by decide) ?_
  refine lv_bipush (v := 16) hx hb dX6_count_3 (by decide) ?_
  refine x_callS hx hb hml hown hts hK hW hl.1 (c_X6_within l X _ (v := x) (lo := 11) (hi := 16) (hres := rfl)) xw_182 xw_144 xw_2 xw_145 hdS_yX6_within ⟨Nat.le_of_ble_eq_true rfl, Nat.le_of_ble_eq_true rfl⟩ rfl (Nat.le_of_ble_eq_true rfl) ⟨Nat.le_refl _, Nat.le_refl _⟩ dX6_count_5 (fun H locs hW => ?_)
  refine lv_if_eq (tgt := 24) hx hb dX6_count_8 (by decide) (fun c_1 => ?_) (fun c_1 => ?_)
  · skip
    refine lv_iload_n hx hb dX6_count_24 rfl (lv_at hl 1 rfl) ?_
    by_cases c_2 : x = 0
    · skip
      refine lv_tableIn (off := 91) (tgt := 116) hx hb dX6_count_25 (by rw [c_2]; decide) (by rw [c_2]; decide) (by rw [c_2]; decide) (by decide) ?_
      refine lv_aload_n hx hb dX6_count_116 rfl (lv_at hl 0 rfl) ?_
      refine r_getr (C := RX6) (T := TX6) hx hb hts hown hK hW (xF_mi5).1 (xF_mi5).2 inlX6 rfl (by decide) 0 (by decide) (show xro (xkey 11 5 0) 0 = some (xkey 0 0 0) from by decide +kernel) xw_16 rfl dX6_count_117 ?_
      refine r_get hx hb hts hown hK (XG.rdS hW 0 (S 0) (by decide) rfl) (C := RX4) (T := TX4) (xF_street 0 (by omega)) inlX4 rfl (by decide) 7 (by decide) (xr_street 0 (by omega)).2.2.2.2.2.2.2 xw_631 rfl (x := (S 0) 0 0 7) rfl dX6_count_120 ?_
      obtain rfl : (S 0) 0 0 7 = res := by (rw [← hres]) <;> (unfold Fcount; (rw [if_pos c_1, if_pos c_2]))
      rw [hQ0]
      exact x_iret hx hb hret hlocks rfl hW rfl dX6_count_123
    · skip
      by_cases c_3 : x = 1
      · skip
        refine lv_tableIn (off := 99) (tgt := 124) hx hb dX6_count_25 (by rw [c_3]; decide) (by rw [c_3]; decide) (by rw [c_3]; decide) (by decide) ?_
        refine lv_aload_n hx hb dX6_count_124 rfl (lv_at hl 0 rfl) ?_
        refine r_getr (C := RX6) (T := TX6) hx hb hts hown hK hW (xF_mi5).1 (xF_mi5).2 inlX6 rfl (by decide) 0 (by decide) (show xro (xkey 11 5 0) 0 = some (xkey 0 0 0) from by decide +kernel) xw_16 rfl dX6_count_125 ?_
        refine r_get hx hb hts hown hK (XG.rdS hW 0 (S 0) (by decide) rfl) (C := RX4) (T := TX4) (xF_street 0 (by omega)) inlX4 rfl (by decide) 4 (by decide) (xr_street 0 (by omega)).2.2.2.2.1 xw_632 rfl (x := nI (cN (S 0))) (hS 0 (by decide)).hn dX6_count_128 ?_
        obtain rfl : nI (cN (S 0)) = res := by (rw [← hres]) <;> (unfold Fcount; (rw [if_pos c_1, if_neg c_2, if_pos c_3]))
        rw [hQ0]
        exact x_iret hx hb hret hlocks rfl hW rfl dX6_count_131
      · skip
        by_cases c_4 : x = 2
        · skip
          refine lv_tableIn (off := 107) (tgt := 132) hx hb dX6_count_25 (by rw [c_4]; decide) (by rw [c_4]; decide) (by rw [c_4]; decide) (by decide) ?_
          refine lv_aload_n hx hb dX6_count_132 rfl (lv_at hl 0 rfl) ?_
          refine r_getr (C := RX6) (T := TX6) hx hb hts hown hK hW (xF_mi5).1 (xF_mi5).2 inlX6 rfl (by decide) 0 (by decide) (show xro (xkey 11 5 0) 0 = some (xkey 0 0 0) from by decide +kernel) xw_16 rfl dX6_count_133 ?_
          refine r_get hx hb hts hown hK (XG.rdS hW 0 (S 0) (by decide) rfl) (C := RX4) (T := TX4) (xF_street 0 (by omega)) inlX4 rfl (by decide) 5 (by decide) (xr_street 0 (by omega)).2.2.2.2.2.1 xw_633 rfl (x := nI (cH (S 0))) (hS 0 (by decide)).hh dX6_count_136 ?_
          obtain rfl : nI (cH (S 0)) = res := by (rw [← hres]) <;> (unfold Fcount; (rw [if_pos c_1, if_neg c_2, if_neg c_3, if_pos c_4]))
          rw [hQ0]
          exact x_iret hx hb hret hlocks rfl hW rfl dX6_count_139
        · skip
          by_cases c_5 : x = 3
          · skip
            refine lv_tableIn (off := 115) (tgt := 140) hx hb dX6_count_25 (by rw [c_5]; decide) (by rw [c_5]; decide) (by rw [c_5]; decide) (by decide) ?_
            refine lv_aload_n hx hb dX6_count_140 rfl (lv_at hl 0 rfl) ?_
            refine r_getr (C := RX6) (T := TX6) hx hb hts hown hK hW (xF_mi5).1 (xF_mi5).2 inlX6 rfl (by decide) 0 (by decide) (show xro (xkey 11 5 0) 0 = some (xkey 0 0 0) from by decide +kernel) xw_16 rfl dX6_count_141 ?_
            refine r_get hx hb hts hown hK (XG.rdS hW 0 (S 0) (by decide) rfl) (C := RX4) (T := TX4) (xF_street 0 (by omega)) inlX4 rfl (by decide) 6 (by decide) (xr_street 0 (by omega)).2.2.2.2.2.2.1 xw_634 rfl (x := nI (cW (S 0))) (hS 0 (by decide)).hw dX6_count_144 ?_
            obtain rfl : nI (cW (S 0)) = res := by (rw [← hres]) <;> (unfold Fcount; (rw [if_pos c_1, if_neg c_2, if_neg c_3, if_neg c_4, if_pos c_5]))
            rw [hQ0]
            exact x_iret hx hb hret hlocks rfl hW rfl dX6_count_147
          · skip
            by_cases c_6 : x = 4
            · skip
              refine lv_tableIn (off := 123) (tgt := 148) hx hb dX6_count_25 (by rw [c_6]; decide) (by rw [c_6]; decide) (by rw [c_6]; decide) (by decide) ?_
              refine lv_aload_n hx hb dX6_count_148 rfl (lv_at hl 0 rfl) ?_
              refine r_getr (C := RX6) (T := TX6) hx hb hts hown hK hW (xF_mi5).1 (xF_mi5).2 inlX6 rfl (by decide) 0 (by decide) (show xro (xkey 11 5 0) 0 = some (xkey 0 0 0) from by decide +kernel) xw_16 rfl dX6_count_149 ?_
              have hW : XR X (xGl S (xMi sv hs pf sn nb) ρ) 0 (xSt ((S 0) 0 0) ((S 0) 1 0) ((S 0) 2) ((S 0) 3) ((S 0) 4) ((S 0) 5) ((S 0) 6)) _ _ := XG.inS hW 0 (S 0) (by decide) rfl
              refine x_callV hx hb hml hown hts hK hW hl.1 (c_X4_walkersInStreet l X _ (r := 0) (nw := (cW (S 0))) (hr := (by decide)) (hw := (hS 0 (by decide)).hw) (hw8 := (hS 0 (by decide)).hw8) (hres := rfl)) (xF_street 0 (by omega)).1 (xF_street 0 (by omega)).2.1 (by decide) rfl xw_637 xw_638 xw_639 xw_15 xw_640 hdV_yX4_walkersInStreet ⟨Nat.le_of_ble_eq_true rfl, Nat.le_of_ble_eq_true rfl⟩ rfl (Nat.le_of_ble_eq_true rfl) ⟨Nat.le_refl _, Nat.le_refl _⟩ dX6_count_152 (fun H locs hW => ?_)
              have hW : XG X (xGl S (xMi sv hs pf sn nb) ρ) H locs := XG.unS (σ := (S 0)) (by decide) rfl hW
              refine lv_eqi (y := (r_walkersInStreet  (S 0))) rfl ?_
              obtain rfl : (r_walkersInStreet  (S 0)) = res := by (rw [← hres]) <;> (unfold Fcount; (rw [if_pos c_1, if_neg c_2, if_neg c_3, if_neg c_4, if_neg c_5, if_pos c_6]))
              rw [hQ0]
              exact x_iret hx hb hret hlocks rfl hW rfl dX6_count_155
            · skip
              by_cases c_7 : x = 5
              · skip
                refine lv_tableIn (off := 131) (tgt := 156) hx hb dX6_count_25 (by rw [c_7]; decide) (by rw [c_7]; decide) (by rw [c_7]; decide) (by decide) ?_
                refine lv_aload_n hx hb dX6_count_156 rfl (lv_at hl 0 rfl) ?_
                refine r_getr (C := RX6) (T := TX6) hx hb hts hown hK hW (xF_mi5).1 (xF_mi5).2 inlX6 rfl (by decide) 0 (by decide) (show xro (xkey 11 5 0) 0 = some (xkey 0 0 0) from by decide +kernel) xw_16 rfl dX6_count_157 ?_
                refine lv_iconst (v := 2) hx hb dX6_count_160 (by decide) ?_
                have hW : XR X (xGl S (xMi sv hs pf sn nb) ρ) 0 (xSt ((S 0) 0 0) ((S 0) 1 0) ((S 0) 2) ((S 0) 3) ((S 0) 4) ((S 0) 5) ((S 0) 6)) _ _ := XG.inS hW 0 (S 0) (by decide) rfl
                refine x_callV hx hb hml hown hts hK hW hl.1 (c_X4_lampsThatAre l X _ (r := 0) (n := (cN (S 0))) (d := 2) (hr := (by decide)) (hn := (hS 0 (by decide)).hn) (hn16 := (hS 0 (by decide)).hn16) (hres := rfl)) (xF_street 0 (by omega)).1 (xF_street 0 (by omega)).2.1 (by decide) rfl xw_641 xw_438 xw_439 xw_15 xw_440 hdV_yX4_lampsThatAre ⟨Nat.le_of_ble_eq_true rfl, Nat.le_of_ble_eq_true rfl⟩ rfl (Nat.le_of_ble_eq_true rfl) ⟨Nat.le_refl _, Nat.le_refl _⟩ dX6_count_161 (fun H locs hW => ?_)
                have hW : XG X (xGl S (xMi sv hs pf sn nb) ρ) H locs := XG.unS (σ := (S 0)) (by decide) rfl hW
                refine lv_eqi (y := (r_lampsThatAre 2 (S 0))) rfl ?_
                refine x_callS hx hb hml hown hts hK hW hl.1 (c_J6_bitCount_0f7a4 l X _ (x := (r_lampsThatAre 2 (S 0))) (hres := rfl)) xw_642 xw_643 xw_644 xw_645 hdS_yJ6_bitCount_0f7a4 ⟨Nat.le_of_ble_eq_true rfl, Nat.le_of_ble_eq_true rfl⟩ rfl (Nat.le_of_ble_eq_true rfl) ⟨Nat.le_refl _, Nat.le_refl _⟩ dX6_count_164 (fun H locs hW => ?_)
                obtain rfl : xpop (r_lampsThatAre 2 (S 0)) = res := by (rw [← hres]) <;> (unfold Fcount; (rw [if_pos c_1, if_neg c_2, if_neg c_3, if_neg c_4, if_neg c_5, if_neg c_6, if_pos c_7]))
                rw [hQ0]
                exact x_iret hx hb hret hlocks rfl hW rfl dX6_count_167
              · skip
                by_cases c_8 : x = 6
                · skip
                  refine lv_tableIn (off := 143) (tgt := 168) hx hb dX6_count_25 (by rw [c_8]; decide) (by rw [c_8]; decide) (by rw [c_8]; decide) (by decide) ?_
                  refine lv_aload_n hx hb dX6_count_168 rfl (lv_at hl 0 rfl) ?_
                  refine r_getr (C := RX6) (T := TX6) hx hb hts hown hK hW (xF_mi5).1 (xF_mi5).2 inlX6 rfl (by decide) 0 (by decide) (show xro (xkey 11 5 0) 0 = some (xkey 0 0 0) from by decide +kernel) xw_16 rfl dX6_count_169 ?_
                  refine lv_iconst (v := 1) hx hb dX6_count_172 (by decide) ?_
                  have hW : XR X (xGl S (xMi sv hs pf sn nb) ρ) 0 (xSt ((S 0) 0 0) ((S 0) 1 0) ((S 0) 2) ((S 0) 3) ((S 0) 4) ((S 0) 5) ((S 0) 6)) _ _ := XG.inS hW 0 (S 0) (by decide) rfl
                  refine x_callV hx hb hml hown hts hK hW hl.1 (c_X4_lampsThatAre l X _ (r := 0) (n := (cN (S 0))) (d := 1) (hr := (by decide)) (hn := (hS 0 (by decide)).hn) (hn16 := (hS 0 (by decide)).hn16) (hres := rfl)) (xF_street 0 (by omega)).1 (xF_street 0 (by omega)).2.1 (by decide) rfl xw_641 xw_438 xw_439 xw_15 xw_440 hdV_yX4_lampsThatAre ⟨Nat.le_of_ble_eq_true rfl, Nat.le_of_ble_eq_true rfl⟩ rfl (Nat.le_of_ble_eq_true rfl) ⟨Nat.le_refl _, Nat.le_refl _⟩ dX6_count_173 (fun H locs hW => ?_)
                  have hW : XG X (xGl S (xMi sv hs pf sn nb) ρ) H locs := XG.unS (σ := (S 0)) (by decide) rfl hW
                  refine lv_eqi (y := (r_lampsThatAre 1 (S 0))) rfl ?_
                  refine x_callS hx hb hml hown hts hK hW hl.1 (c_J6_bitCount_0f7a4 l X _ (x := (r_lampsThatAre 1 (S 0))) (hres := rfl)) xw_642 xw_643 xw_644 xw_645 hdS_yJ6_bitCount_0f7a4 ⟨Nat.le_of_ble_eq_true rfl, Nat.le_of_ble_eq_true rfl⟩ rfl (Nat.le_of_ble_eq_true rfl) ⟨Nat.le_refl _, Nat.le_refl _⟩ dX6_count_176 (fun H locs hW => ?_)
                  obtain rfl : xpop (r_lampsThatAre 1 (S 0)) = res := by (rw [← hres]) <;> (unfold Fcount; (rw [if_pos c_1, if_neg c_2, if_neg c_3, if_neg c_4, if_neg c_5, if_neg c_6, if_neg c_7, if_pos c_8]))
                  rw [hQ0]
                  exact x_iret hx hb hret hlocks rfl hW rfl dX6_count_179
                · skip
                  by_cases c_9 : x = 7
                  · skip
                    refine lv_tableIn (off := 155) (tgt := 180) hx hb dX6_count_25 (by rw [c_9]; decide) (by rw [c_9]; decide) (by rw [c_9]; decide) (by decide) ?_
                    refine lv_aload_n hx hb dX6_count_180 rfl (lv_at hl 0 rfl) ?_
                    refine r_getr (C := RX6) (T := TX6) hx hb hts hown hK hW (xF_mi5).1 (xF_mi5).2 inlX6 rfl (by decide) 0 (by decide) (show xro (xkey 11 5 0) 0 = some (xkey 0 0 0) from by decide +kernel) xw_16 rfl dX6_count_181 ?_
                    refine lv_iconst (v := 1) hx hb dX6_count_184 (by decide) ?_
                    have hW : XR X (xGl S (xMi sv hs pf sn nb) ρ) 0 (xSt ((S 0) 0 0) ((S 0) 1 0) ((S 0) 2) ((S 0) 3) ((S 0) 4) ((S 0) 5) ((S 0) 6)) _ _ := XG.inS hW 0 (S 0) (by decide) rfl
                    refine x_callV hx hb hml hown hts hK hW hl.1 (c_X4_total l X _ (r := 0) (n := (cN (S 0))) (nh := (cH (S 0))) (nw := (cW (S 0))) (x := 1) (hr := (by decide)) (hn := (hS 0 (by decide)).hn) (hn16 := (hS 0 (by decide)).hn16) (hh := (hS 0 (by decide)).hh) (hh8 := (hS 0 (by decide)).hh8) (hw := (hS 0 (by decide)).hw) (hw8 := (hS 0 (by decide)).hw8) (hres := rfl)) (xF_street 0 (by omega)).1 (xF_street 0 (by omega)).2.1 (by decide) rfl xw_649 xw_650 xw_651 xw_15 xw_652 hdV_yX4_total ⟨Nat.le_of_ble_eq_true rfl, Nat.le_of_ble_eq_true rfl⟩ rfl (Nat.le_of_ble_eq_true rfl) ⟨Nat.le_refl _, Nat.le_refl _⟩ dX6_count_185 (fun H locs hW => ?_)
                    have hW : XG X (xGl S (xMi sv hs pf sn nb) ρ) H locs := XG.unS (σ := (S 0)) (by decide) rfl hW
                    refine lv_eqi (y := (r_total 1 (S 0))) rfl ?_
                    obtain rfl : (r_total 1 (S 0)) = res := by (rw [← hres]) <;> (unfold Fcount; (rw [if_pos c_1, if_neg c_2, if_neg c_3, if_neg c_4, if_neg c_5, if_neg c_6, if_neg c_7, if_neg c_8, if_pos c_9]))
                    rw [hQ0]
                    exact x_iret hx hb hret hlocks rfl hW rfl dX6_count_188
                  · skip
                    by_cases c_10 : x = 8
                    · skip
                      refine lv_tableIn (off := 164) (tgt := 189) hx hb dX6_count_25 (by rw [c_10]; decide) (by rw [c_10]; decide) (by rw [c_10]; decide) (by decide) ?_
                      refine lv_aload_n hx hb dX6_count_189 rfl (lv_at hl 0 rfl) ?_
                      refine r_getr (C := RX6) (T := TX6) hx hb hts hown hK hW (xF_mi5).1 (xF_mi5).2 inlX6 rfl (by decide) 0 (by decide) (show xro (xkey 11 5 0) 0 = some (xkey 0 0 0) from by decide +kernel) xw_16 rfl dX6_count_190 ?_
                      refine lv_iconst (v := 0) hx hb dX6_count_193 (by decide) ?_
                      have hW : XR X (xGl S (xMi sv hs pf sn nb) ρ) 0 (xSt ((S 0) 0 0) ((S 0) 1 0) ((S 0) 2) ((S 0) 3) ((S 0) 4) ((S 0) 5) ((S 0) 6)) _ _ := XG.inS hW 0 (S 0) (by decide) rfl
                      refine x_callV hx hb hml hown hts hK hW hl.1 (c_X4_total l X _ (r := 0) (n := (cN (S 0))) (nh := (cH (S 0))) (nw := (cW (S 0))) (x := 0) (hr := (by decide)) (hn := (hS 0 (by decide)).hn) (hn16 := (hS 0 (by decide)).hn16) (hh := (hS 0 (by decide)).hh) (hh8 := (hS 0 (by decide)).hh8) (hw := (hS 0 (by decide)).hw) (hw8 := (hS 0 (by decide)).hw8) (hres := rfl)) (xF_street 0 (by omega)).1 (xF_street 0 (by omega)).2.1 (by decide) rfl xw_649 xw_650 xw_651 xw_15 xw_652 hdV_yX4_total ⟨Nat.le_of_ble_eq_true rfl, Nat.le_of_ble_eq_true rfl⟩ rfl (Nat.le_of_ble_eq_true rfl) ⟨Nat.le_refl _, Nat.le_refl _⟩ dX6_count_194 (fun H locs hW => ?_)
                      have hW : XG X (xGl S (xMi sv hs pf sn nb) ρ) H locs := XG.unS (σ := (S 0)) (by decide) rfl hW
                      refine lv_eqi (y := (r_total 0 (S 0))) rfl ?_
                      obtain rfl : (r_total 0 (S 0)) = res := by (rw [← hres]) <;> (unfold Fcount; (rw [if_pos c_1, if_neg c_2, if_neg c_3, if_neg c_4, if_neg c_5, if_neg c_6, if_neg c_7, if_neg c_8, if_neg c_9, if_pos c_10]))
                      rw [hQ0]
                      exact x_iret hx hb hret hlocks rfl hW rfl dX6_count_197
                    · skip
                      by_cases c_11 : x = 9
                      · skip
                        refine lv_tableIn (off := 173) (tgt := 198) hx hb dX6_count_25 (by rw [c_11]; decide) (by rw [c_11]; decide) (by rw [c_11]; decide) (by decide) ?_
                        refine lv_aload_n hx hb dX6_count_198 rfl (lv_at hl 0 rfl) ?_
                        refine r_getr (C := RX6) (T := TX6) hx hb hts hown hK hW (xF_mi5).1 (xF_mi5).2 inlX6 rfl (by decide) 0 (by decide) (show xro (xkey 11 5 0) 0 = some (xkey 0 0 0) from by decide +kernel) xw_16 rfl dX6_count_199 ?_
                        refine lv_iconst (v := 2) hx hb dX6_count_202 (by decide) ?_
                        have hW : XR X (xGl S (xMi sv hs pf sn nb) ρ) 0 (xSt ((S 0) 0 0) ((S 0) 1 0) ((S 0) 2) ((S 0) 3) ((S 0) 4) ((S 0) 5) ((S 0) 6)) _ _ := XG.inS hW 0 (S 0) (by decide) rfl
                        refine x_callV hx hb hml hown hts hK hW hl.1 (c_X4_total l X _ (r := 0) (n := (cN (S 0))) (nh := (cH (S 0))) (nw := (cW (S 0))) (x := 2) (hr := (by decide)) (hn := (hS 0 (by decide)).hn) (hn16 := (hS 0 (by decide)).hn16) (hh := (hS 0 (by decide)).hh) (hh8 := (hS 0 (by decide)).hh8) (hw := (hS 0 (by decide)).hw) (hw8 := (hS 0 (by decide)).hw8) (hres := rfl)) (xF_street 0 (by omega)).1 (xF_street 0 (by omega)).2.1 (by decide) rfl xw_649 xw_650 xw_651 xw_15 xw_652 hdV_yX4_total ⟨Nat.le_of_ble_eq_true rfl, Nat.le_of_ble_eq_true rfl⟩ rfl (Nat.le_of_ble_eq_true rfl) ⟨Nat.le_refl _, Nat.le_refl _⟩ dX6_count_203 (fun H locs hW => ?_)
                        have hW : XG X (xGl S (xMi sv hs pf sn nb) ρ) H locs := XG.unS (σ := (S 0)) (by decide) rfl hW
                        refine lv_eqi (y := (r_total 2 (S 0))) rfl ?_
                        obtain rfl : (r_total 2 (S 0)) = res := by (rw [← hres]) <;> (unfold Fcount; (rw [if_pos c_1, if_neg c_2, if_neg c_3, if_neg c_4, if_neg c_5, if_neg c_6, if_neg c_7, if_neg c_8, if_neg c_9, if_neg c_10, if_pos c_11]))
                        rw [hQ0]
                        exact x_iret hx hb hret hlocks rfl hW rfl dX6_count_206
                      · skip
                        by_cases c_12 : x = 10
                        · skip
                          refine lv_tableIn (off := 182) (tgt := 207) hx hb dX6_count_25 (by rw [c_12]; decide) (by rw [c_12]; decide) (by rw [c_12]; decide) (by decide) ?_
                          refine lv_aload_n hx hb dX6_count_207 rfl (lv_at hl 0 rfl) ?_
                          refine r_getr (C := RX6) (T := TX6) hx hb hts hown hK hW (xF_mi5).1 (xF_mi5).2 inlX6 rfl (by decide) 0 (by decide) (show xro (xkey 11 5 0) 0 = some (xkey 0 0 0) from by decide +kernel) xw_16 rfl dX6_count_208 ?_
                          refine lv_iconst (v := 3) hx hb dX6_count_211 (by decide) ?_
                          have hW : XR X (xGl S (xMi sv hs pf sn nb) ρ) 0 (xSt ((S 0) 0 0) ((S 0) 1 0) ((S 0) 2) ((S 0) 3) ((S 0) 4) ((S 0) 5) ((S 0) 6)) _ _ := XG.inS hW 0 (S 0) (by decide) rfl
                          refine x_callV hx hb hml hown hts hK hW hl.1 (c_X4_total l X _ (r := 0) (n := (cN (S 0))) (nh := (cH (S 0))) (nw := (cW (S 0))) (x := 3) (hr := (by decide)) (hn := (hS 0 (by decide)).hn) (hn16 := (hS 0 (by decide)).hn16) (hh := (hS 0 (by decide)).hh) (hh8 := (hS 0 (by decide)).hh8) (hw := (hS 0 (by decide)).hw) (hw8 := (hS 0 (by decide)).hw8) (hres := rfl)) (xF_street 0 (by omega)).1 (xF_street 0 (by omega)).2.1 (by decide) rfl xw_649 xw_650 xw_651 xw_15 xw_652 hdV_yX4_total ⟨Nat.le_of_ble_eq_true rfl, Nat.le_of_ble_eq_true rfl⟩ rfl (Nat.le_of_ble_eq_true rfl) ⟨Nat.le_refl _, Nat.le_refl _⟩ dX6_count_212 (fun H locs hW => ?_)
                          have hW : XG X (xGl S (xMi sv hs pf sn nb) ρ) H locs := XG.unS (σ := (S 0)) (by decide) rfl hW
                          refine lv_eqi (y := (r_total 3 (S 0))) rfl ?_
                          obtain rfl : (r_total 3 (S 0)) = res := by (rw [← hres]) <;> (unfold Fcount; (rw [if_pos c_1, if_neg c_2, if_neg c_3, if_neg c_4, if_neg c_5, if_neg c_6, if_neg c_7, if_neg c_8, if_neg c_9, if_neg c_10, if_neg c_11, if_pos c_12]))
                          rw [hQ0]
                          exact x_iret hx hb hret hlocks rfl hW rfl dX6_count_215
                        · skip
                          by_cases c_13 : x = 11
                          · skip
                            refine lv_tableIn (off := 207) (tgt := 232) hx hb dX6_count_25 (by rw [c_13]; decide) (by rw [c_13]; decide) (by rw [c_13]; decide) (by decide) ?_
                            refine lv_bipush (v := (-2)) hx hb dX6_count_232 (by decide) ?_
                            obtain rfl : (-2) = res := by (rw [← hres]) <;> (unfold Fcount; (rw [if_pos c_1, if_neg c_2, if_neg c_3, if_neg c_4, if_neg c_5, if_neg c_6, if_neg c_7, if_neg c_8, if_neg c_9, if_neg c_10, if_neg c_11, if_neg c_12, if_neg (show ¬ x = 17 by rw [c_13]; decide), if_neg (show ¬ x = 18 by rw [c_13]; decide)]))
                            rw [hQ0]
                            exact x_iret hx hb hret hlocks rfl hW rfl dX6_count_234
                          · skip
                            by_cases c_14 : x = 12
                            · skip
                              refine lv_tableIn (off := 207) (tgt := 232) hx hb dX6_count_25 (by rw [c_14]; decide) (by rw [c_14]; decide) (by rw [c_14]; decide) (by decide) ?_
                              refine lv_bipush (v := (-2)) hx hb dX6_count_232 (by decide) ?_
                              obtain rfl : (-2) = res := by (rw [← hres]) <;> (unfold Fcount; (rw [if_pos c_1, if_neg c_2, if_neg c_3, if_neg c_4, if_neg c_5, if_neg c_6, if_neg c_7, if_neg c_8, if_neg c_9, if_neg c_10, if_neg c_11, if_neg c_12, if_neg (show ¬ x = 17 by rw [c_14]; decide), if_neg (show ¬ x = 18 by rw [c_14]; decide)]))
                              rw [hQ0]
                              exact x_iret hx hb hret hlocks rfl hW rfl dX6_count_234
                            · skip
                              by_cases c_15 : x = 13
                              · skip
                                refine lv_tableIn (off := 207) (tgt := 232) hx hb dX6_count_25 (by rw [c_15]; decide) (by rw [c_15]; decide) (by rw [c_15]; decide) (by decide) ?_
                                refine lv_bipush (v := (-2)) hx hb dX6_count_232 (by decide) ?_
                                obtain rfl : (-2) = res := by (rw [← hres]) <;> (unfold Fcount; (rw [if_pos c_1, if_neg c_2, if_neg c_3, if_neg c_4, if_neg c_5, if_neg c_6, if_neg c_7, if_neg c_8, if_neg c_9, if_neg c_10, if_neg c_11, if_neg c_12, if_neg (show ¬ x = 17 by rw [c_15]; decide), if_neg (show ¬ x = 18 by rw [c_15]; decide)]))
                                rw [hQ0]
                                exact x_iret hx hb hret hlocks rfl hW rfl dX6_count_234
                              · skip
                                by_cases c_16 : x = 14
                                · skip
                                  refine lv_tableIn (off := 207) (tgt := 232) hx hb dX6_count_25 (by rw [c_16]; decide) (by rw [c_16]; decide) (by rw [c_16]; decide) (by decide) ?_
                                  refine lv_bipush (v := (-2)) hx hb dX6_count_232 (by decide) ?_
                                  obtain rfl : (-2) = res := by (rw [← hres]) <;> (unfold Fcount; (rw [if_pos c_1, if_neg c_2, if_neg c_3, if_neg c_4, if_neg c_5, if_neg c_6, if_neg c_7, if_neg c_8, if_neg c_9, if_neg c_10, if_neg c_11, if_neg c_12, if_neg (show ¬ x = 17 by rw [c_16]; decide), if_neg (show ¬ x = 18 by rw [c_16]; decide)]))
                                  rw [hQ0]
                                  exact x_iret hx hb hret hlocks rfl hW rfl dX6_count_234
                                · skip
                                  by_cases c_17 : x = 15
                                  · skip
                                    refine lv_tableIn (off := 207) (tgt := 232) hx hb dX6_count_25 (by rw [c_17]; decide) (by rw [c_17]; decide) (by rw [c_17]; decide) (by decide) ?_
                                    refine lv_bipush (v := (-2)) hx hb dX6_count_232 (by decide) ?_
                                    obtain rfl : (-2) = res := by (rw [← hres]) <;> (unfold Fcount; (rw [if_pos c_1, if_neg c_2, if_neg c_3, if_neg c_4, if_neg c_5, if_neg c_6, if_neg c_7, if_neg c_8, if_neg c_9, if_neg c_10, if_neg c_11, if_neg c_12, if_neg (show ¬ x = 17 by rw [c_17]; decide), if_neg (show ¬ x = 18 by rw [c_17]; decide)]))
                                    rw [hQ0]
                                    exact x_iret hx hb hret hlocks rfl hW rfl dX6_count_234
                                  · skip
                                    by_cases c_18 : x = 16
                                    · skip
                                      refine lv_tableIn (off := 207) (tgt := 232) hx hb dX6_count_25 (by rw [c_18]; decide) (by rw [c_18]; decide) (by rw [c_18]; decide) (by decide) ?_
                                      refine lv_bipush (v := (-2)) hx hb dX6_count_232 (by decide) ?_
                                      obtain rfl : (-2) = res := by (rw [← hres]) <;> (unfold Fcount; (rw [if_pos c_1, if_neg c_2, if_neg c_3, if_neg c_4, if_neg c_5, if_neg c_6, if_neg c_7, if_neg c_8, if_neg c_9, if_neg c_10, if_neg c_11, if_neg c_12, if_neg (show ¬ x = 17 by rw [c_18]; decide), if_neg (show ¬ x = 18 by rw [c_18]; decide)]))
                                      rw [hQ0]
                                      exact x_iret hx hb hret hlocks rfl hW rfl dX6_count_234
                                    · skip
                                      by_cases c_19 : x = 17
                                      · skip
                                        refine lv_tableIn (off := 191) (tgt := 216) hx hb dX6_count_25 (by rw [c_19]; decide) (by rw [c_19]; decide) (by rw [c_19]; decide) (by decide) ?_
                                        refine lv_aload_n hx hb dX6_count_216 rfl (lv_at hl 0 rfl) ?_
                                        refine r_getr (C := RX6) (T := TX6) hx hb hts hown hK hW (xF_mi5).1 (xF_mi5).2 inlX6 rfl (by decide) 5 (by decide) (show xro (xkey 11 5 0) 5 = some (xkey 11 2 0) from by decide +kernel) xw_28 rfl dX6_count_217 ?_
                                        refine r_get hx hb hts hown hK (XG.in11 hW) (C := RX3) (T := TX3) (xF_mi2) inlX3 rfl (by decide) 2 (by decide) (by decide +kernel) xw_635 rfl (x := pf 2) rfl dX6_count_220 ?_
                                        obtain rfl : pf 2 = res := by (rw [← hres]) <;> (unfold Fcount; (rw [if_pos c_1, if_neg c_2, if_neg c_3, if_neg c_4, if_neg c_5, if_neg c_6, if_neg c_7, if_neg c_8, if_neg c_9, if_neg c_10, if_neg c_11, if_neg c_12, if_pos c_19]))
                                        rw [hQ0]
                                        exact x_iret hx hb hret hlocks rfl hW rfl dX6_count_223
                                      · skip
                                        by_cases c_20 : x = 18
                                        · skip
                                          refine lv_tableIn (off := 199) (tgt := 224) hx hb dX6_count_25 (by rw [c_20]; decide) (by rw [c_20]; decide) (by rw [c_20]; decide) (by decide) ?_
                                          refine lv_aload_n hx hb dX6_count_224 rfl (lv_at hl 0 rfl) ?_
                                          refine r_getr (C := RX6) (T := TX6) hx hb hts hown hK hW (xF_mi5).1 (xF_mi5).2 inlX6 rfl (by decide) 4 (by decide) (show xro (xkey 11 5 0) 4 = some (xkey 11 1 0) from by decide +kernel) xw_24 rfl dX6_count_225 ?_
                                          refine r_get hx hb hts hown hK (XG.in11 hW) (C := RX0) (T := TX0) (xF_mi1) inlX0 rfl (by decide) 2 (by decide) (by decide +kernel) xw_636 rfl (x := hs 2) rfl dX6_count_228 ?_
                                          obtain rfl : hs 2 = res := by (rw [← hres]) <;> (unfold Fcount; (rw [if_pos c_1, if_neg c_2, if_neg c_3, if_neg c_4, if_neg c_5, if_neg c_6, if_neg c_7, if_neg c_8, if_neg c_9, if_neg c_10, if_neg c_11, if_neg c_12, if_neg c_19, if_pos c_20]))
                                          rw [hQ0]
                                          exact x_iret hx hb hret hlocks rfl hW rfl dX6_count_231
                                        · skip
                                          refine lv_tableOut (x := x) (tgt := 232) hx hb dX6_count_25 (x_tabout (x := x) (lo := 0) (hi := 18) (fun z h1 h2 => (fun h => h.elim (fun h => by rw [h]; exact x_nt c_2 (by decide)) (fun h => h.elim (fun h => by rw [h]; exact x_nt c_3 (by decide)) (fun h => h.elim (fun h => by rw [h]; exact x_nt c_4 (by decide)) (fun h => h.elim (fun h => by rw [h]; exact x_nt c_5 (by decide)) (fun h => h.elim (fun h => by rw [h]; exact x_nt c_6 (by decide)) (fun h => h.elim (fun h => by rw [h]; exact x_nt c_7 (by decide)) (fun h => h.elim (fun h => by rw [h]; exact x_nt c_8 (by decide)) (fun h => h.elim (fun h => by rw [h]; exact x_nt c_9 (by decide)) (fun h => h.elim (fun h => by rw [h]; exact x_nt c_10 (by decide)) (fun h => h.elim (fun h => by rw [h]; exact x_nt c_11 (by decide)) (fun h => h.elim (fun h => by rw [h]; exact x_nt c_12 (by decide)) (fun h => h.elim (fun h => by rw [h]; exact x_nt c_13 (by decide)) (fun h => h.elim (fun h => by rw [h]; exact x_nt c_14 (by decide)) (fun h => h.elim (fun h => by rw [h]; exact x_nt c_15 (by decide)) (fun h => h.elim (fun h => by rw [h]; exact x_nt c_16 (by decide)) (fun h => h.elim (fun h => by rw [h]; exact x_nt c_17 (by decide)) (fun h => h.elim (fun h => by rw [h]; exact x_nt c_18 (by decide)) (fun h => h.elim (fun h => by rw [h]; exact x_nt c_19 (by decide)) (fun h => by rw [h]; exact x_nt c_20 (by decide)))))))))))))))))))) (show z = 0 ∨ z = 1 ∨ z = 2 ∨ z = 3 ∨ z = 4 ∨ z = 5 ∨ z = 6 ∨ z = 7 ∨ z = 8 ∨ z = 9 ∨ z = 10 ∨ z = 11 ∨ z = 12 ∨ z = 13 ∨ z = 14 ∨ z = 15 ∨ z = 16 ∨ z = 17 ∨ z = 18 by omega))) (by decide) ?_
                                          refine lv_bipush (v := (-2)) hx hb dX6_count_232 (by decide) ?_
                                          obtain rfl : (-2) = res := by (rw [← hres]) <;> (unfold Fcount; (rw [if_pos c_1, if_neg c_2, if_neg c_3, if_neg c_4, if_neg c_5, if_neg c_6, if_neg c_7, if_neg c_8, if_neg c_9, if_neg c_10, if_neg c_11, if_neg c_12, if_neg c_19, if_neg c_20]))
                                          rw [hQ0]
                                          exact x_iret hx hb hret hlocks rfl hW rfl dX6_count_234
  · skip
    have hx9 := xfin11 c_1
    refine lv_aload_n hx hb dX6_count_11 rfl (lv_at hl 0 rfl) ?_
    refine r_getr (C := RX6) (T := TX6) hx hb hts hown hK hW (xF_mi5).1 (xF_mi5).2 inlX6 rfl (by decide) 0 (by decide) (show xro (xkey 11 5 0) 0 = some (xkey 0 0 0) from by decide +kernel) xw_16 rfl dX6_count_12 ?_
    refine r_getr (C := RX4) (T := TX4) hx hb hts hown hK hW (xF_street 0 (by omega)).1 (xF_street 0 (by omega)).2.1 inlX4 rfl (by decide) 0 (by decide) (xr_street 0 (by omega)).1 xw_630 rfl dX6_count_15 ?_
    refine lv_iload_n hx hb dX6_count_18 rfl (lv_at hl 1 rfl) ?_
    refine lv_bipush (v := 11) hx hb dX6_count_19 (by decide) ?_
    refine lv_isub hx hb dX6_count_21 ?_
    refine r_iald hx hb hK (XG.rdS hW 0 (S 0) (by decide) rfl) (N := 6) (xF_sett 0 (by omega)) ((x - 11).toNatClampNeg) hx9.1 (by decide) hx9.2 (xr_sett 0 (by omega) ((x - 11).toNatClampNeg) hx9.1) (x := (S 0) 1 0 ((x - 11).toNatClampNeg)) rfl dX6_count_22 ?_
    obtain rfl : (S 0) 1 0 ((x - 11).toNatClampNeg) = res := by (rw [← hres]) <;> (unfold Fcount; (rw [if_neg c_1]))
    rw [hQ0]
    exact x_iret hx hb hret hlocks rfl hW rfl dX6_count_23
set_option maxHeartbeats 4000000 in
set_option maxRecDepth 100000 in
theorem c_X6_brings (l : Launch) (X : xX) {S : Nat → xS} {sv hs pf sn nb : Nat → Int32} {ρ : xS} {x w : Int32} (hS : ∀ r, r < 11 → Sok (S r)) {S' : Nat → xS} (ho0 : (if Fin3 x 1 200 = 0 then S else if Fin3 w 0 3 = 0 then S else va_up S 1 (sTry x (S 0) (S 1))) = S') {res : Int32} (hres : (if Fin3 x 1 200 = 0 then -2 else if Fin3 w 0 3 = 0 then -2 else r_total w (sTry x (S 0) (S 1)) - r_total w (S 0)) = res) : XC l yX6_brings cX6_brings 3 (some .int) 6 145 0 0 X xsh [.ref (xB X + xkey 11 5 0), .int x, .int w] 603 603 (xval (xB X) (xGl S (xMi sv hs pf sn nb) ρ)) (xval (xB X) (xGl S' (xMi sv hs pf sn nb) ρ)) (some (.int res)) := by
  refine XC.of RX6 "brings" [(0, .ref (xB X + xkey 11 5 0)), (1, .int x), (2, .int w)] (by decide) rfl rfl (Nat.le_of_ble_eq_true rfl) rfl ?_
  intro p e s m args below meth c ls hx hb hret hml hts hown hlocks hnm hK hW hl
  have hW : XG X (xGl S (xMi sv hs pf sn nb) ρ) s.heap [] := hW
  obtain ⟨Q0, hQ0⟩ : ∃ z, z = MQ below (xQ X xsh 603 (xval (xB X) (xGl S' (xMi sv hs pf sn nb) ρ)) (some (.int res))) args s 0 0 (fun q => xB X ≤ q) := ⟨_, rfl⟩
  rw [← hQ0]
  refine lv_iload_n hx hb dX6_brings_0 rfl (lv_at hl 1 rfl) ?_
  refine x_callS hx hb hml hown hts hK hW hl.1 (c_X6_isTicks l X _ (v := x) (hres := rfl)) xw_718 xw_400 xw_2 xw_401 hdS_yX6_isTicks ⟨Nat.le_of_ble_eq_true rfl, Nat.le_of_ble_eq_true rfl⟩ rfl (Nat.le_of_ble_eq_true rfl) ⟨Nat.le_refl _, Nat.le_refl _⟩ dX6_brings_1 (fun H locs hW => ?_)
  refine lv_if_eq (tgt := 16) hx hb dX6_brings_4 (by decide) (fun c_1 => ?_) (fun c_1 => ?_)
  · skip
    refine lv_bipush (v := (-2)) hx hb dX6_brings_16 (by decide) ?_
    obtain rfl : S = S' := by (rw [← ho0]) <;> ((simp [sTry, c_1]) <;> rfl)
    obtain rfl : (-2) = res := by (rw [← hres]) <;> ((simp [sTry, c_1]) <;> rfl)
    rw [hQ0]
    exact x_iret hx hb hret hlocks rfl hW rfl dX6_brings_18
  · skip
    refine lv_iload_n hx hb dX6_brings_7 rfl (lv_at hl 2 rfl) ?_
    refine lv_iconst (v := 0) hx hb dX6_brings_8 (by decide) ?_
    refine lv_iconst (v := 3) hx hb dX6_brings_9 (by decide) ?_
    refine x_callS hx hb hml hown hts hK hW hl.1 (c_X6_within l X _ (v := w) (lo := 0) (hi := 3) (hres := rfl)) xw_182 xw_144 xw_2 xw_145 hdS_yX6_within ⟨Nat.le_of_ble_eq_true rfl, Nat.le_of_ble_eq_true rfl⟩ rfl (Nat.le_of_ble_eq_true rfl) ⟨Nat.le_refl _, Nat.le_refl _⟩ dX6_brings_10 (fun H locs hW => ?_)
    refine lv_if_ne (tgt := 19) hx hb dX6_brings_13 (by decide) (fun c_2 => ?_) (fun c_2 => ?_)
    · skip
      refine lv_aload_n hx hb dX6_brings_19 rfl (lv_at hl 0 rfl) ?_
      refine r_getr (C := RX6) (T := TX6) hx hb hts hown hK hW (xF_mi5).1 (xF_mi5).2 inlX6 rfl (by decide) 1 (by decide) (show xro (xkey 11 5 0) 1 = some (xkey 1 0 0) from by decide +kernel) xw_17 rfl dX6_brings_20 ?_
      refine lv_aload_n hx hb dX6_brings_23 rfl (lv_at hl 0 rfl) ?_
      refine r_getr (C := RX6) (T := TX6) hx hb hts hown hK hW (xF_mi5).1 (xF_mi5).2 inlX6 rfl (by decide) 0 (by decide) (show xro (xkey 11 5 0) 0 = some (xkey 0 0 0) from by decide +kernel) xw_16 rfl dX6_brings_24 ?_
      have hW : XR X (xGl S (xMi sv hs pf sn nb) ρ) 1 (xSt ((S 1) 0 0) ((S 1) 1 0) ((S 1) 2) ((S 1) 3) ((S 1) 4) ((S 1) 5) ((S 1) 6)) _ _ := XG.inS hW 1 (S 1) (by decide) rfl
      refine x_callV hx hb hml hown hts hK hW hl.1 (c_X4_become l X _ (r := 1) (r2 := 0) (n2 := (cN (S 0))) (nh2 := (cH (S 0))) (nw2 := (cW (S 0))) (hr := (by decide)) (hr2 := (by decide)) (hne := (by omega)) (hn2 := (by rw [xGl_at (r := 0) (by decide)]; exact (hS 0 (by decide)).hn)) (hn2b := (hS 0 (by decide)).hn16) (hh2 := (by rw [xGl_at (r := 0) (by decide)]; exact (hS 0 (by decide)).hh)) (hh2b := (hS 0 (by decide)).hh8) (hw2 := (by rw [xGl_at (r := 0) (by decide)]; exact (hS 0 (by decide)).hw)) (hw2b := (hS 0 (by decide)).hw8) (hbo := (by rw [xGl_at (r := 0) (by decide)]; exact (hS 0 (by decide)).hbo)) (ho0 := rfl) (ho1 := rfl) (ho2 := rfl) (ho3 := rfl) (ho4 := rfl) (ho5 := rfl) (ho6 := rfl)) (xF_street 1 (by omega)).1 (xF_street 1 (by omega)).2.1 (by decide) rfl xw_719 xw_100 xw_101 xw_15 xw_102 hdV_yX4_become ⟨Nat.le_of_ble_eq_true rfl, Nat.le_of_ble_eq_true rfl⟩ rfl (Nat.le_of_ble_eq_true rfl) ⟨Nat.le_refl _, Nat.le_refl _⟩ dX6_brings_27 (fun H locs hW => ?_)
      have hW : XR X (xGl S (xMi sv hs pf sn nb) ρ) 1 (s_become (S 0) (S 1)) H locs := by rw [xGl_at (r := 0) (by decide)] at hW; exact hW
      have hW : XG X (xGl (va_up S 1 (s_become (S 0) (S 1))) (xMi sv hs pf sn nb) ρ) H locs := by have h := XG.outS (by decide) hW; exact h
      have hk_3 : Sok (s_become (S 0) (S 1)) := (Sok_become (hS 0 (by decide)) (hS 1 (by decide)))
      refine lv_aload_n hx hb dX6_brings_30 rfl (lv_at hl 0 rfl) ?_
      refine r_getr (C := RX6) (T := TX6) hx hb hts hown hK hW (xF_mi5).1 (xF_mi5).2 inlX6 rfl (by decide) 1 (by decide) (show xro (xkey 11 5 0) 1 = some (xkey 1 0 0) from by decide +kernel) xw_17 rfl dX6_brings_31 ?_
      refine lv_iload_n hx hb dX6_brings_34 rfl (lv_at hl 1 rfl) ?_
      have hW : XR X (xGl (va_up S 1 (s_become (S 0) (S 1))) (xMi sv hs pf sn nb) ρ) 1 (xSt ((s_become (S 0) (S 1)) 0 0) ((s_become (S 0) (S 1)) 1 0) ((s_become (S 0) (S 1)) 2) ((s_become (S 0) (S 1)) 3) ((s_become (S 0) (S 1)) 4) ((s_become (S 0) (S 1)) 5) ((s_become (S 0) (S 1)) 6)) _ _ := XG.inS hW 1 (s_become (S 0) (S 1)) (by decide) va_up_at
      refine x_callV hx hb hml hown hts hK hW hl.1 (c_X4_letPass l X _ (r := 1) (n := (cN (s_become (S 0) (S 1)))) (nh := (cH (s_become (S 0) (S 1)))) (nw := (cW (s_become (S 0) (S 1)))) (x := x) (hr := (by decide)) (hn := hk_3.hn) (hn16 := hk_3.hn16) (hh := hk_3.hh) (hh8 := hk_3.hh8) (hw := hk_3.hw) (hw8 := hk_3.hw8) (ho0 := rfl) (ho1 := rfl) (ho2 := rfl) (ho3 := rfl) (ho4 := rfl) (ho5 := rfl) (hres := rfl)) (xF_street 1 (by omega)).1 (xF_street 1 (by omega)).2.1 (by decide) rfl xw_396 xw_397 xw_398 xw_15 xw_399 hdV_yX4_letPass ⟨Nat.le_of_ble_eq_true rfl, Nat.le_of_ble_eq_true rfl⟩ rfl (Nat.le_of_ble_eq_true rfl) ⟨Nat.le_refl _, Nat.le_refl _⟩ dX6_brings_35 (fun H locs hW => ?_)
      have hW : XR X (xGl (va_up S 1 (s_become (S 0) (S 1))) (xMi sv hs pf sn nb) ρ) 1 (s_letPass x (s_become (S 0) (S 1))) H locs := hW
      have hW : XG X (xGl (va_up S 1 (s_letPass x (s_become (S 0) (S 1)))) (xMi sv hs pf sn nb) ρ) H locs := by have h := XG.outS (by decide) hW; rw [xuu] at h; exact h
      have hk_4 : Sok (s_letPass x (s_become (S 0) (S 1))) := (Sok_letPass hk_3)
      refine lv_eqi (y := (r_letPass x (s_become (S 0) (S 1)))) rfl ?_
      refine lv_pop hx hb dX6_brings_38 rfl ?_
      refine lv_aload_n hx hb dX6_brings_39 rfl (lv_at hl 0 rfl) ?_
      refine lv_iload_n hx hb dX6_brings_40 rfl (lv_at hl 2 rfl) ?_
      refine x_callV hx hb hml hown hts hK hW hl.1 (c_X6_broughtByTrial l X  (w := w) (hS := (hS_up hS hk_4)) (hres := rfl)) (xF_mi5).1 (xF_mi5).2 (by decide) rfl xw_720 xw_721 xw_722 xw_2 xw_723 hdV_yX6_broughtByTrial ⟨Nat.le_of_ble_eq_true rfl, Nat.le_of_ble_eq_true rfl⟩ rfl (Nat.le_of_ble_eq_true rfl) ⟨Nat.le_refl _, Nat.le_refl _⟩ dX6_brings_41 (fun H locs hW => ?_)
      have hW : XG X (xGl (va_up S 1 (s_letPass x (s_become (S 0) (S 1)))) (xMi sv hs pf sn nb) ρ) H locs := hW
      obtain rfl : (va_up S 1 (s_letPass x (s_become (S 0) (S 1)))) = S' := by (rw [← ho0]) <;> ((simp [sTry, c_1, c_2]) <;> rfl)
      obtain rfl : r_total w ((va_up S 1 (s_letPass x (s_become (S 0) (S 1)))) 1) - r_total w ((va_up S 1 (s_letPass x (s_become (S 0) (S 1)))) 0) = res := by (rw [← hres]) <;> ((simp [sTry, c_1, c_2]) <;> rfl)
      rw [hQ0]
      exact x_iret hx hb hret hlocks rfl hW rfl dX6_brings_44
    · skip
      refine lv_bipush (v := (-2)) hx hb dX6_brings_16 (by decide) ?_
      obtain rfl : S = S' := by (rw [← ho0]) <;> ((simp [sTry, c_1, c_2]) <;> rfl)
      obtain rfl : (-2) = res := by (rw [← hres]) <;> ((simp [sTry, c_1, c_2]) <;> rfl)
      rw [hQ0]
      exact x_iret hx hb hret hlocks rfl hW rfl dX6_brings_18
