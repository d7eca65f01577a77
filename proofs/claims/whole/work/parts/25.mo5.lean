/-! ===== the model: a tick ===== -/
def Mrank (ℓ : Nat → Int32) : Nat → Int32 := va_up (va_up (va_up (va_up ℓ 5 (ℓ 5 + (-1))) 5 0) 6 0) 11 1
def Mwait1 (i : Nat) (q : (Nat → Nat → Int32) × (Nat → Int32)) : (Nat → Nat → Int32) × (Nat → Int32) :=
  if 0 < q.1 i 5 then (if q.1 i 5 + (-1) = 0 then (va_up q.1 i (Mrank (q.1 i)), va_up (va_up q.2 i (-6)) i (q.1 i 6)) else (va_up q.1 i (va_up (q.1 i) 5 (q.1 i 5 + (-1))), va_up q.2 i (-6))) else (q.1, va_up q.2 i (-6))
def Mwaits (n : Nat) (L : Nat → Nat → Int32) (g : Nat → Int32) : (Nat → Nat → Int32) × (Nat → Int32) := xloop Mwait1 n 0 (L, g)
def MAgain (n : Nat) (sg : Nat → Int32) (L : Nat → Nat → Int32) (g : Nat → Int32) : (Nat → Nat → Int32) × (Nat → Int32) :=
  (xloop (fun i (M : Nat → Nat → Int32) => if (Mwaits n L g).2 i < 0 then M else (Mspread n sg i ((Mwaits n L g).2 i) M).1) n 0 (Mwaits n L g).1, (Mwaits n L g).2)
def Msee1 (nw : Nat) (sg : Nat → Int32) (Y : Nat → Nat → Int32) (x : Int32) : Int32 := xloop (fun w s => if Mstr (Y w) = 0 then s ||| 0 else if Mfar (Y w 0) x ≤ sg 0 then s ||| 1 else s ||| 0) nw 0 0
def Msees (nw : Nat) (sg : Nat → Int32) (Y : Nat → Nat → Int32) (ℓ : Nat → Int32) : Int32 := if Msee1 nw sg Y (ℓ 0) = 0 then 0 else if ℓ 3 = 0 then 1 else 0
def Mwere (n : Nat) (L : Nat → Nat → Int32) (h : Nat → Int32) : Nat → Int32 := xloop (fun i h => va_up h i (L i 2)) n 0 h
def Mturn (sg ℓ : Nat → Int32) : Nat → Int32 := va_up (va_up (va_up (Mshine sg ℓ) 5 0) 6 0) 11 1
def Mlook1 (n nw : Nat) (sg : Nat → Int32) (Y : Nat → Nat → Int32) (h : Nat → Int32) (i : Nat) (M : Nat → Nat → Int32) : Nat → Nat → Int32 :=
  if Msees nw sg Y (M i) = 0 then M else if h i = 2 then va_up M i (Mshine sg (M i)) else (Mspread n sg i 0 (va_up M i (Mturn sg (M i)))).1
def MLook (n nw : Nat) (sg : Nat → Int32) (Y L : Nat → Nat → Int32) (h : Nat → Int32) : Nat → Nat → Int32 := xloop (Mlook1 n nw sg Y (Mwere n L h)) n 0 L
def Mfade (sg ℓ : Nat → Int32) : Nat → Int32 :=
  if ℓ 2 = 0 then ℓ else if ℓ 2 = 2 ∧ ℓ 12 = 1 then ℓ else if ℓ 4 + (-1) = 0 then
    (if ℓ 2 = 2 ∧ 0 < sg 3 then va_up (va_up (va_up ℓ 4 (ℓ 4 + (-1))) 2 1) 4 (sg 3) else va_up (va_up (va_up ℓ 4 (ℓ 4 + (-1))) 2 0) 4 0) else va_up ℓ 4 (ℓ 4 + (-1))
def Muse (ℓ : Nat → Int32) : Nat → Int32 := if ℓ 2 = 2 then va_up ℓ 7 (ℓ 7 + 4) else if ℓ 2 = 1 then va_up ℓ 7 (ℓ 7 + 1) else va_up ℓ 7 (ℓ 7 + 0)
def MUses (n : Nat) (L : Nat → Nat → Int32) : Nat → Nat → Int32 := xloop (fun i M => va_up M i (Muse (M i))) n 0 L
def Mblame (b : Int32) (L : Nat → Nat → Int32) : Nat → Nat → Int32 := if b < 0 then L else va_up L b.toNatClampNeg (va_up (L b.toNatClampNeg) 10 (L b.toNatClampNeg 10 + 1))
def Mdark1 (n : Nat) (w : Nat) (q : (Nat → Nat → Int32) × (Nat → Nat → Int32)) : (Nat → Nat → Int32) × (Nat → Nat → Int32) :=
  if Mstr (q.2 w) = 0 then q else if Mlit n (q.2 w 0) q.1 = 0 then (Mblame (Mnear (q.2 w 0) n q.1) q.1, va_up q.2 w (va_up (q.2 w) 5 (q.2 w 5 + 1))) else q
def Mdark (n nw : Nat) (L Y : Nat → Nat → Int32) : (Nat → Nat → Int32) × (Nat → Nat → Int32) := xloop (Mdark1 n) nw 0 (L, Y)
def Mdist1 (n : Nat) (L : Nat → Nat → Int32) (h : Nat) (U : Nat → Nat → Int32) : Nat → Nat → Int32 := if Mdis L U h n = 0 then va_up U h (va_up (U h) 1 (U h 1 + 0)) else va_up U h (va_up (U h) 1 (U h 1 + 1))
def MDist (n nh : Nat) (L O : Nat → Nat → Int32) : Nat → Nat → Int32 := xloop (Mdist1 n L) nh 0 O
def Mclear (n : Nat) (L : Nat → Nat → Int32) : Nat → Nat → Int32 := xloop (fun i (M : Nat → Nat → Int32) => va_up M i (va_up (va_up (M i) 11 0) 12 0)) n 0 L
def MGos (nw : Nat) (Y : Nat → Nat → Int32) : Nat → Nat → Int32 := xloop (fun w (V : Nat → Nat → Int32) => va_up V w (Mgo (V w) (V w 3).toNatClampNeg)) nw 0 Y
def MFades (n : Nat) (sg : Nat → Int32) (L : Nat → Nat → Int32) : Nat → Nat → Int32 := xloop (fun i (M : Nat → Nat → Int32) => va_up M i (Mfade sg (M i))) n 0 L
abbrev xM6 : Type := (Nat → Int32) × (Nat → Nat → Int32) × (Nat → Nat → Int32) × (Nat → Nat → Int32) × (Nat → Int32) × (Nat → Int32)
def MA (n : Nat) (q : xM6) : (Nat → Nat → Int32) × (Nat → Int32) := MAgain n q.1 (Mclear n q.2.1) q.2.2.2.2.1
def ML (n nw : Nat) (q : xM6) : Nat → Nat → Int32 := MUses n (MFades n q.1 (MLook n nw q.1 (MGos nw q.2.2.2.1) (MA n q).1 q.2.2.2.2.2))
def Mpass (n nh nw : Nat) (q : xM6) : xM6 :=
  (va_up q.1 6 (q.1 6 + 1), (Mdark n nw (ML n nw q) (MGos nw q.2.2.2.1)).1, MDist n nh (Mdark n nw (ML n nw q) (MGos nw q.2.2.2.1)).1 q.2.2.1, (Mdark n nw (ML n nw q) (MGos nw q.2.2.2.1)).2, (MA n q).2, Mwere n (MA n q).1 q.2.2.2.2.2)
def MW (r : Nat → Int32) : Prop := r 3 = nI (r 3).toNatClampNeg ∧ (r 3).toNatClampNeg ≤ 6
theorem MW.of {r r' : Nat → Int32} (h : MW r) (e : r' 3 = r 3) : MW r' := by unfold MW; rw [e]; exact h
theorem Mmove_3 {r : Nat → Int32} {g : Nat} : Mmove r g 3 = nI (g - 1) := by
  have H : ∀ k i (r : Nat → Int32), 8 ≤ i → xloop (fun k (r : Nat → Int32) => va_up r k (r (k + 2))) k i r 3 = r 3 := by
    intro k
    induction k with
    | zero => intro i r _; rfl
    | succ k ih => intro i r h; exact (ih (i + 1) _ (by omega)).trans (va_up_ne _ _ (by omega))
  exact (H _ _ _ (Nat.le_refl _)).trans va_up_at
theorem MW_end {r : Nat → Int32} {g : Nat} (hg : g ≤ 6) : MW (Mend r g) := by
  have e : Mend r g 3 = nI (g - 1) := by unfold Mend; rw [va_up_ne _ _ (by decide), va_up_ne _ _ (by decide), Mmove_3]
  unfold MW
  rw [e, nI_clamp (by omega)]
  exact ⟨rfl, by omega⟩
theorem MW_go {r : Nat → Int32} (h : MW r) : MW (Mgo r (r 3).toNatClampNeg) := by
  unfold Mgo Mwalk
  split
  · exact h
  · split
    · exact h
    · split
      · split
        · split
          · exact h.of (by simp [va_up, Mwent])
          · exact MW_end h.2
        · exact h.of (by simp [va_up, Mwent])
      · split
        · exact MW_end h.2
        · exact h.of (by simp [va_up])
theorem MW_up {Y : Nat → Nat → Int32} {ω : Nat → Int32} {w : Nat} (hY : ∀ j, j < 8 → MW (Y j)) (hω : MW ω) : ∀ j, j < 8 → MW (va_up Y w ω j) := by
  intro j hj
  by_cases e : j = w
  · rw [e, va_up_at]; exact hω
  · rw [va_up_ne _ _ e]; exact hY j hj
theorem Mnear_nat {x : Int32} {n : Nat} {L : Nat → Nat → Int32} (hn : n ≤ 16) (h : ¬ Mnear x n L < 0) : Mnear x n L = nI (Mnear x n L).toNatClampNeg ∧ (Mnear x n L).toNatClampNeg < 16 := by
  have H : ∀ k i (s : Int32), i + k = n → (s = -6 ∨ (s = nI s.toNatClampNeg ∧ s.toNatClampNeg < 16)) → (xloop (fun i (s : Int32) => if s < 0 ∨ Mfar (L i 0) x < Mfar (L s.toNatClampNeg 0) x then nI i else s) k i s = -6 ∨ (xloop (fun i (s : Int32) => if s < 0 ∨ Mfar (L i 0) x < Mfar (L s.toNatClampNeg 0) x then nI i else s) k i s = nI (xloop (fun i (s : Int32) => if s < 0 ∨ Mfar (L i 0) x < Mfar (L s.toNatClampNeg 0) x then nI i else s) k i s).toNatClampNeg ∧ (xloop (fun i (s : Int32) => if s < 0 ∨ Mfar (L i 0) x < Mfar (L s.toNatClampNeg 0) x then nI i else s) k i s).toNatClampNeg < 16)) := by
    intro k
    induction k with
    | zero => intro i s _ h; exact h
    | succ k ih =>
      intro i s hik hs
      refine ih (i + 1) _ (by omega) ?_
      dsimp only
      split
      · exact Or.inr ⟨by rw [nI_clamp (by omega)], by rw [nI_clamp (by omega)]; omega⟩
      · exact hs
  rcases H n 0 (-6) (by omega) (Or.inl rfl) with e | e
  · exact absurd (show Mnear x n L < 0 by rw [show Mnear x n L = -6 from e]; decide) h
  · exact e
theorem hdV_yX7_coughAgain : yX7_coughAgain.cls = RX7 ∧ yX7_coughAgain.cls ≠ "java/lang/invoke/MethodHandle" ∧ yX7_coughAgain.cls ≠ "java/lang/invoke/VarHandle" ∧ (parseMethodDescriptor yX7_coughAgain.desc).map (fun d => d.parameters.length) = some 0 := by decide +kernel
theorem hdV_yX7_sees : yX7_sees.cls = RX7 ∧ yX7_sees.cls ≠ "java/lang/invoke/MethodHandle" ∧ yX7_sees.cls ≠ "java/lang/invoke/VarHandle" ∧ (parseMethodDescriptor yX7_sees.desc).map (fun d => d.parameters.length) = some 1 := by decide +kernel
theorem hdV_yX7_look : yX7_look.cls = RX7 ∧ yX7_look.cls ≠ "java/lang/invoke/MethodHandle" ∧ yX7_look.cls ≠ "java/lang/invoke/VarHandle" ∧ (parseMethodDescriptor yX7_look.desc).map (fun d => d.parameters.length) = some 0 := by decide +kernel
theorem hdV_yX7_fade : yX7_fade.cls = RX7 ∧ yX7_fade.cls ≠ "java/lang/invoke/MethodHandle" ∧ yX7_fade.cls ≠ "java/lang/invoke/VarHandle" ∧ (parseMethodDescriptor yX7_fade.desc).map (fun d => d.parameters.length) = some 1 := by decide +kernel
theorem hdV_yX7_account : yX7_account.cls = RX7 ∧ yX7_account.cls ≠ "java/lang/invoke/MethodHandle" ∧ yX7_account.cls ≠ "java/lang/invoke/VarHandle" ∧ (parseMethodDescriptor yX7_account.desc).map (fun d => d.parameters.length) = some 0 := by decide +kernel
theorem hdV_yX7_pass : yX7_pass.cls = RX7 ∧ yX7_pass.cls ≠ "java/lang/invoke/MethodHandle" ∧ yX7_pass.cls ≠ "java/lang/invoke/VarHandle" ∧ (parseMethodDescriptor yX7_pass.desc).map (fun d => d.parameters.length) = some 0 := by decide +kernel
set_option maxHeartbeats 4000000 in
set_option maxRecDepth 100000 in
theorem c_X7_coughAgain (l : Launch) (X : xX) (G : xG) {f sg pb pc pd pe pg ph pp pq pt pu : Nat → Int32} {L O Y : Nat → Nat → Int32} {n : Nat} (hn : sg 7 = nI n) (hn16 : n ≤ 16) {L' : Nat → Nat → Int32} (ho0 : ((MAgain n sg L pg).1) = L') {pg' : Nat → Int32} (ho1 : ((MAgain n sg L pg).2) = pg') : XC l yX7_coughAgain cX7_coughAgain 2 none 3 68 0 0 X xsh [.ref (xB X + xkey 12 0 0)] 603 603 (xval (xB X) (va_up G 12 (xMa f sg L O Y pb pc pd pe pg ph pp pq pt pu))) (xval (xB X) (va_up G 12 (xMa f sg L' O Y pb pc pd pe pg' ph pp pq pt pu))) none := by
  refine XC.of RX7 "coughAgain" [(0, .ref (xB X + xkey 12 0 0))] (by decide) rfl rfl (Nat.le_of_ble_eq_true rfl) rfl ?_
  intro p e s m args below meth c ls hx hb hret hml hts hown hlocks hnm hK hW hl
  have hW : XR X G 12 (xMa f sg L O Y pb pc pd pe pg ph pp pq pt pu) s.heap [] := hW
  obtain ⟨Q0, hQ0⟩ : ∃ z, z = MQ below (xQ X xsh 603 (xval (xB X) (va_up G 12 (xMa f sg L' O Y pb pc pd pe pg' ph pp pq pt pu))) none) args s 0 0 (fun q => xB X ≤ q) := ⟨_, rfl⟩
  rw [← hQ0]
  refine lv_iconst (v := nI 0) hx hb dX7_coughAgain_0 (by decide) ?_
  refine lv_istore_n (lv' := [(1, .int (nI 0)), (0, .ref (xB X + xkey 12 0 0))]) hx hb dX7_coughAgain_1 rfl hl (by decide) rfl (fun ls hl => ?_)
  have loop_2 : ∀ (k_2 i : Nat) (La : Nat → Nat → Int32) (ga : Nat → Int32), i + k_2 = n → xloop Mwait1 k_2 i (La, ga) = xloop Mwait1 n 0 (L, pg) → ∀ (H : Heap) (locs : List Loc) (ls : Array Slot), XR X G 12 (xMa f sg La O Y pb pc pd pe ga ph pp pq pt pu) H locs → lv_has ls 2 [(0, .ref (xB X + xkey 12 0 0)), (1, .int (nI i))] → W p l e { frames := 3, cells := 0, slots := 0, locals := 68 } s m args below meth c H locs 0 0 Q0 (F0 m 2 ls []) := by
    intro k_2
    induction k_2 with
    | zero =>
      intro i La ga hik_2  hsp_2 H locs ls hW hl
      refine lv_iload_n hx hb dX7_coughAgain_2 rfl (lv_at hl 1 rfl) ?_
      refine lv_aload_n hx hb dX7_coughAgain_3 rfl (lv_at hl 0 rfl) ?_
      refine r_getr (C := RX7) (T := TX7) hx hb hts hown hK hW (xF_mo0).1 (xF_mo0).2.1 inlX7 rfl (by decide) 0 (by decide) (show xro (xkey 12 0 0) 0 = some (xkey 12 1 0) from by decide +kernel) xw_79 rfl dX7_coughAgain_4 ?_
      refine lv_bipush (v := 7) hx hb dX7_coughAgain_7 (by decide) ?_
      refine r_iald hx hb hK hW (N := 440) (xF_mo1) 7 (by decide) (by decide) (by decide) (xr_model 1 (by decide) (by decide) 7) (x := nI n) ((xat_s (sg := sg) (L := La) (O := O) (Y := Y) (k := 7) (by omega)).trans hn) dX7_coughAgain_9 ?_
      refine lv_icmp_ge (tgt := 78) hx hb dX7_coughAgain_10 (by decide) (fun c_1 => ?_) (fun c_1 => absurd (xge_refl (by omega)) c_1)
      refine lv_iconst (v := nI 0) hx hb dX7_coughAgain_78 (by decide) ?_
      refine lv_istore_n (lv' := [(1, .int (nI 0)), (0, .ref (xB X + xkey 12 0 0))]) hx hb dX7_coughAgain_79 rfl hl (by decide) rfl (fun ls hl => ?_)
      have loop_80 : ∀ (k_80 i : Nat) (Lb : Nat → Nat → Int32), i + k_80 = n → xloop (fun i (M : Nat → Nat → Int32) => if ga i < 0 then M else (Mspread n sg i (ga i) M).1) k_80 i Lb = xloop (fun i (M : Nat → Nat → Int32) => if ga i < 0 then M else (Mspread n sg i (ga i) M).1) n 0 La → ∀ (H : Heap) (locs : List Loc) (ls : Array Slot), XR X G 12 (xMa f sg Lb O Y pb pc pd pe ga ph pp pq pt pu) H locs → lv_has ls 2 [(0, .ref (xB X + xkey 12 0 0)), (1, .int (nI i))] → W p l e { frames := 3, cells := 0, slots := 0, locals := 68 } s m args below meth c H locs 0 0 Q0 (F0 m 80 ls []) := by
        intro k_80
        induction k_80 with
        | zero =>
          intro i Lb hik_80  hsp_80 H locs ls hW hl
          refine lv_iload_n hx hb dX7_coughAgain_80 rfl (lv_at hl 1 rfl) ?_
          refine lv_aload_n hx hb dX7_coughAgain_81 rfl (lv_at hl 0 rfl) ?_
          refine r_getr (C := RX7) (T := TX7) hx hb hts hown hK hW (xF_mo0).1 (xF_mo0).2.1 inlX7 rfl (by decide) 0 (by decide) (show xro (xkey 12 0 0) 0 = some (xkey 12 1 0) from by decide +kernel) xw_79 rfl dX7_coughAgain_82 ?_
          refine lv_bipush (v := 7) hx hb dX7_coughAgain_85 (by decide) ?_
          refine r_iald hx hb hK hW (N := 440) (xF_mo1) 7 (by decide) (by decide) (by decide) (xr_model 1 (by decide) (by decide) 7) (x := nI n) ((xat_s (sg := sg) (L := Lb) (O := O) (Y := Y) (k := 7) (by omega)).trans hn) dX7_coughAgain_87 ?_
          refine lv_icmp_ge (tgt := 118) hx hb dX7_coughAgain_88 (by decide) (fun c_2 => ?_) (fun c_2 => absurd (xge_refl (by omega)) c_2)
          obtain rfl : Lb = L' := by (rw [← ho0]) <;> (have e1 : (La, ga) = Mwaits n L pg := hsp_2; first | (show Lb = xloop _ n 0 (Mwaits n L pg).1; rw [← e1]; exact hsp_80) | (show ga = (Mwaits n L pg).2; rw [← e1]))
          obtain rfl : ga = pg' := by (rw [← ho1]) <;> (have e1 : (La, ga) = Mwaits n L pg := hsp_2; first | (show Lb = xloop _ n 0 (Mwaits n L pg).1; rw [← e1]; exact hsp_80) | (show ga = (Mwaits n L pg).2; rw [← e1]))
          rw [hQ0]
          exact x_vret hx hb hret hlocks hW rfl dX7_coughAgain_118
        | succ k_80 ih_80 =>
          intro i Lb hik_80  hsp_80 H locs ls hW hl
          refine lv_iload_n hx hb dX7_coughAgain_80 rfl (lv_at hl 1 rfl) ?_
          refine lv_aload_n hx hb dX7_coughAgain_81 rfl (lv_at hl 0 rfl) ?_
          refine r_getr (C := RX7) (T := TX7) hx hb hts hown hK hW (xF_mo0).1 (xF_mo0).2.1 inlX7 rfl (by decide) 0 (by decide) (show xro (xkey 12 0 0) 0 = some (xkey 12 1 0) from by decide +kernel) xw_79 rfl dX7_coughAgain_82 ?_
          refine lv_bipush (v := 7) hx hb dX7_coughAgain_85 (by decide) ?_
          refine r_iald hx hb hK hW (N := 440) (xF_mo1) 7 (by decide) (by decide) (by decide) (xr_model 1 (by decide) (by decide) 7) (x := nI n) ((xat_s (sg := sg) (L := Lb) (O := O) (Y := Y) (k := 7) (by omega)).trans hn) dX7_coughAgain_87 ?_
          refine lv_icmp_ge (tgt := 118) hx hb dX7_coughAgain_88 (by decide) (fun c_3 => absurd c_3 (nI_ge (by omega) (by omega))) (fun c_3 => ?_)
          refine lv_aload_n hx hb dX7_coughAgain_91 rfl (lv_at hl 0 rfl) ?_
          refine r_getr (C := RX7) (T := TX7) hx hb hts hown hK hW (xF_mo0).1 (xF_mo0).2.1 inlX7 rfl (by decide) 7 (by decide) (show xro (xkey 12 0 0) 7 = some (xkey 12 6 0) from by decide +kernel) xw_84 rfl dX7_coughAgain_92 ?_
          refine lv_iload_n hx hb dX7_coughAgain_95 rfl (lv_at hl 1 rfl) ?_
          refine r_iald hx hb hK hW (N := 16) (xF_mo6) i (by omega) (by decide) rfl (xr_model 6 (by decide) (by decide) i) (x := ga i) rfl dX7_coughAgain_96 ?_
          refine lv_if_lt (tgt := 112) hx hb dX7_coughAgain_97 (by decide) (fun c_4 => ?_) (fun c_4 => ?_)
          · skip
            refine lv_iinc (v := nI (i + 1)) (lv' := [(1, .int (nI (i + 1))), (0, .ref (xB X + xkey 12 0 0))]) hx hb dX7_coughAgain_112 hl (k := 1) rfl (nI_1 i) (by decide) rfl (fun ls hl => ?_)
            refine lv_goto (tgt := 80) hx hb dX7_coughAgain_115 (by decide) ?_
            refine ih_80 (i + 1) Lb (by omega)  ?_ H locs ls hW (lv_sub hl [1, 0] rfl)
            rw [← hsp_80]; simp [xloop, c_1, c_3, c_4, Int32.not_le.mpr c_4]
          · skip
            refine lv_aload_n hx hb dX7_coughAgain_100 rfl (lv_at hl 0 rfl) ?_
            refine lv_iload_n hx hb dX7_coughAgain_101 rfl (lv_at hl 1 rfl) ?_
            refine lv_aload_n hx hb dX7_coughAgain_102 rfl (lv_at hl 0 rfl) ?_
            refine r_getr (C := RX7) (T := TX7) hx hb hts hown hK hW (xF_mo0).1 (xF_mo0).2.1 inlX7 rfl (by decide) 7 (by decide) (show xro (xkey 12 0 0) 7 = some (xkey 12 6 0) from by decide +kernel) xw_84 rfl dX7_coughAgain_103 ?_
            refine lv_iload_n hx hb dX7_coughAgain_106 rfl (lv_at hl 1 rfl) ?_
            refine r_iald hx hb hK hW (N := 16) (xF_mo6) i (by omega) (by decide) rfl (xr_model 6 (by decide) (by decide) i) (x := ga i) rfl dX7_coughAgain_107 ?_
            refine x_callV hx hb hml hown hts hK hW hl.1 (c_X7_coughs l X G (n := n) (a := i) (k := ga i) (hn := (by assumption)) (hn16 := (by assumption)) (ha := (by omega)) (ho0 := rfl) (hres := rfl)) (xF_mo0).1 (xF_mo0).2.1 (by decide) rfl xw_373 xw_374 xw_375 xw_5 xw_376 hdV_yX7_coughs ⟨Nat.le_of_ble_eq_true rfl, Nat.le_of_ble_eq_true rfl⟩ rfl (Nat.le_of_ble_eq_true rfl) ⟨Nat.le_refl _, Nat.le_refl _⟩ dX7_coughAgain_108 (fun H locs hW => ?_)
            have hW : XR X G 12 (xMa f sg ((Mspread n sg i (ga i) Lb).1) O Y pb pc pd pe ga ph pp pq pt pu) H locs := hW
            refine lv_pop hx hb dX7_coughAgain_111 rfl ?_
            refine lv_iinc (v := nI (i + 1)) (lv' := [(1, .int (nI (i + 1))), (0, .ref (xB X + xkey 12 0 0))]) hx hb dX7_coughAgain_112 hl (k := 1) rfl (nI_1 i) (by decide) rfl (fun ls hl => ?_)
            refine lv_goto (tgt := 80) hx hb dX7_coughAgain_115 (by decide) ?_
            refine ih_80 (i + 1) ((Mspread n sg i (ga i) Lb).1) (by omega)  ?_ H locs ls hW (lv_sub hl [1, 0] rfl)
            rw [← hsp_80]; simp [xloop, c_1, c_3, c_4, Int32.not_lt.mp c_4]
      exact loop_80 n 0 La (by omega)  rfl _ _ _ hW (lv_sub hl [1, 0] rfl)
    | succ k_2 ih_2 =>
      intro i La ga hik_2  hsp_2 H locs ls hW hl
      refine lv_iload_n hx hb dX7_coughAgain_2 rfl (lv_at hl 1 rfl) ?_
      refine lv_aload_n hx hb dX7_coughAgain_3 rfl (lv_at hl 0 rfl) ?_
      refine r_getr (C := RX7) (T := TX7) hx hb hts hown hK hW (xF_mo0).1 (xF_mo0).2.1 inlX7 rfl (by decide) 0 (by decide) (show xro (xkey 12 0 0) 0 = some (xkey 12 1 0) from by decide +kernel) xw_79 rfl dX7_coughAgain_4 ?_
      refine lv_bipush (v := 7) hx hb dX7_coughAgain_7 (by decide) ?_
      refine r_iald hx hb hK hW (N := 440) (xF_mo1) 7 (by decide) (by decide) (by decide) (xr_model 1 (by decide) (by decide) 7) (x := nI n) ((xat_s (sg := sg) (L := La) (O := O) (Y := Y) (k := 7) (by omega)).trans hn) dX7_coughAgain_9 ?_
      refine lv_icmp_ge (tgt := 78) hx hb dX7_coughAgain_10 (by decide) (fun c_5 => absurd c_5 (nI_ge (by omega) (by omega))) (fun c_5 => ?_)
      refine lv_aload_n hx hb dX7_coughAgain_13 rfl (lv_at hl 0 rfl) ?_
      refine r_getr (C := RX7) (T := TX7) hx hb hts hown hK hW (xF_mo0).1 (xF_mo0).2.1 inlX7 rfl (by decide) 7 (by decide) (show xro (xkey 12 0 0) 7 = some (xkey 12 6 0) from by decide +kernel) xw_84 rfl dX7_coughAgain_14 ?_
      refine lv_iload_n hx hb dX7_coughAgain_17 rfl (lv_at hl 1 rfl) ?_
      refine lv_bipush (v := (-6)) hx hb dX7_coughAgain_18 (by decide) ?_
      refine r_iast hx hb hK hW (N := 16) (xF_mo6) i (by omega) (by decide) rfl (xr_model 6 (by decide) (by decide) i) xMa9 dX7_coughAgain_20 (fun H locs hW => ?_)
      refine lv_aload_n hx hb dX7_coughAgain_21 rfl (lv_at hl 0 rfl) ?_
      refine lv_iload_n hx hb dX7_coughAgain_22 rfl (lv_at hl 1 rfl) ?_
      refine lv_iconst (v := 5) hx hb dX7_coughAgain_23 (by decide) ?_
      refine x_callV hx hb hml hown hts hK hW hl.1 (c_X7_ofL l X G (i := i) (w := 5) (hi := (by omega)) (hw := (by decide)) (hres := rfl)) (xF_mo0).1 (xF_mo0).2.1 (by decide) rfl xw_198 xw_199 xw_200 xw_5 xw_201 hdV_yX7_ofL ⟨Nat.le_of_ble_eq_true rfl, Nat.le_of_ble_eq_true rfl⟩ rfl (Nat.le_of_ble_eq_true rfl) ⟨Nat.le_refl _, Nat.le_refl _⟩ dX7_coughAgain_24 (fun H locs hW => ?_)
      refine lv_if_le (tgt := 72) hx hb dX7_coughAgain_27 (by decide) (fun c_6 => ?_) (fun c_6 => ?_)
      · skip
        refine lv_iinc (v := nI (i + 1)) (lv' := [(1, .int (nI (i + 1))), (0, .ref (xB X + xkey 12 0 0))]) hx hb dX7_coughAgain_72 hl (k := 1) rfl (nI_1 i) (by decide) rfl (fun ls hl => ?_)
        refine lv_goto (tgt := 2) hx hb dX7_coughAgain_75 (by decide) ?_
        refine ih_2 (i + 1) La (va_up ga i (-6)) (by omega)  ?_ H locs ls hW (lv_sub hl [1, 0] rfl)
        rw [← hsp_2]; simp [xloop, Mwait1, Mrank, va_up, c_5, c_6, Int32.not_lt.mpr c_6]
      · skip
        refine lv_aload_n hx hb dX7_coughAgain_30 rfl (lv_at hl 0 rfl) ?_
        refine lv_iload_n hx hb dX7_coughAgain_31 rfl (lv_at hl 1 rfl) ?_
        refine lv_iconst (v := 5) hx hb dX7_coughAgain_32 (by decide) ?_
        refine lv_iconst (v := (-1)) hx hb dX7_coughAgain_33 (by decide) ?_
        have hW := XR.mfoc2 hW i
        refine x_callV hx hb hml hown hts hK hW hl.1 (c_X7_moreL l X G (i := i) (w := 5) (v := (-1)) (hi := (by omega)) (hw := (by decide)) ) (xF_mo0).1 (xF_mo0).2.1 (by decide) rfl xw_377 xw_378 xw_379 xw_5 xw_380 hdV_yX7_moreL ⟨Nat.le_of_ble_eq_true rfl, Nat.le_of_ble_eq_true rfl⟩ rfl (Nat.le_of_ble_eq_true rfl) ⟨Nat.le_refl _, Nat.le_refl _⟩ dX7_coughAgain_34 (fun H locs hW => ?_)
        have hW : XR X G 12 (xMa f sg (va_up La i (va_up (La i) 5 ((La i) 5 + (-1)))) O Y pb pc pd pe (va_up ga i (-6)) ph pp pq pt pu) H locs := hW
        refine lv_aload_n hx hb dX7_coughAgain_37 rfl (lv_at hl 0 rfl) ?_
        refine lv_iload_n hx hb dX7_coughAgain_38 rfl (lv_at hl 1 rfl) ?_
        refine lv_iconst (v := 5) hx hb dX7_coughAgain_39 (by decide) ?_
        refine x_callV hx hb hml hown hts hK hW hl.1 (c_X7_ofL l X G (i := i) (w := 5) (hi := (by omega)) (hw := (by decide)) (hres := rfl)) (xF_mo0).1 (xF_mo0).2.1 (by decide) rfl xw_198 xw_199 xw_200 xw_5 xw_201 hdV_yX7_ofL ⟨Nat.le_of_ble_eq_true rfl, Nat.le_of_ble_eq_true rfl⟩ rfl (Nat.le_of_ble_eq_true rfl) ⟨Nat.le_refl _, Nat.le_refl _⟩ dX7_coughAgain_40 (fun H locs hW => ?_)
        refine lv_eqi (y := (La i) 5 + (-1)) (xrd rfl) ?_
        refine lv_if_ne (tgt := 72) hx hb dX7_coughAgain_43 (by decide) (fun c_7 => ?_) (fun c_7 => ?_)
        · skip
          refine lv_iinc (v := nI (i + 1)) (lv' := [(1, .int (nI (i + 1))), (0, .ref (xB X + xkey 12 0 0))]) hx hb dX7_coughAgain_72 hl (k := 1) rfl (nI_1 i) (by decide) rfl (fun ls hl => ?_)
          refine lv_goto (tgt := 2) hx hb dX7_coughAgain_75 (by decide) ?_
          refine ih_2 (i + 1) (va_up La i (va_up (La i) 5 ((La i) 5 + (-1)))) (va_up ga i (-6)) (by omega)  ?_ H locs ls hW (lv_sub hl [1, 0] rfl)
          rw [← hsp_2]; simp [xloop, Mwait1, Mrank, va_up, c_5, c_6, Int32.not_le.mp c_6, c_7]
        · skip
          refine lv_aload_n hx hb dX7_coughAgain_46 rfl (lv_at hl 0 rfl) ?_
          refine r_getr (C := RX7) (T := TX7) hx hb hts hown hK hW (xF_mo0).1 (xF_mo0).2.1 inlX7 rfl (by decide) 7 (by decide) (show xro (xkey 12 0 0) 7 = some (xkey 12 6 0) from by decide +kernel) xw_84 rfl dX7_coughAgain_47 ?_
          refine lv_iload_n hx hb dX7_coughAgain_50 rfl (lv_at hl 1 rfl) ?_
          refine lv_aload_n hx hb dX7_coughAgain_51 rfl (lv_at hl 0 rfl) ?_
          refine lv_iload_n hx hb dX7_coughAgain_52 rfl (lv_at hl 1 rfl) ?_
          refine lv_bipush (v := 6) hx hb dX7_coughAgain_53 (by decide) ?_
          refine x_callV hx hb hml hown hts hK hW hl.1 (c_X7_ofL l X G (i := i) (w := 6) (hi := (by omega)) (hw := (by decide)) (hres := rfl)) (xF_mo0).1 (xF_mo0).2.1 (by decide) rfl xw_198 xw_199 xw_200 xw_5 xw_201 hdV_yX7_ofL ⟨Nat.le_of_ble_eq_true rfl, Nat.le_of_ble_eq_true rfl⟩ rfl (Nat.le_of_ble_eq_true rfl) ⟨Nat.le_refl _, Nat.le_refl _⟩ dX7_coughAgain_55 (fun H locs hW => ?_)
          refine lv_eqi (y := (La i) 6) (xrd rfl) ?_
          refine r_iast hx hb hK hW (N := 16) (xF_mo6) i (by omega) (by decide) rfl (xr_model 6 (by decide) (by decide) i) xMa9 dX7_coughAgain_58 (fun H locs hW => ?_)
          refine lv_aload_n hx hb dX7_coughAgain_59 rfl (lv_at hl 0 rfl) ?_
          refine lv_iload_n hx hb dX7_coughAgain_60 rfl (lv_at hl 1 rfl) ?_
          refine x_callV hx hb hml hown hts hK hW hl.1 (c_X7_stopWaiting l X G (i := i) (hi := (by omega)) ) (xF_mo0).1 (xF_mo0).2.1 (by decide) rfl xw_319 xw_320 xw_321 xw_5 xw_322 hdV_yX7_stopWaiting ⟨Nat.le_of_ble_eq_true rfl, Nat.le_of_ble_eq_true rfl⟩ rfl (Nat.le_of_ble_eq_true rfl) ⟨Nat.le_refl _, Nat.le_refl _⟩ dX7_coughAgain_61 (fun H locs hW => ?_)
          have hW : XR X G 12 (xMa f sg (va_up La i (va_up (va_up (va_up (La i) 5 ((La i) 5 + (-1))) 5 0) 6 0)) O Y pb pc pd pe (va_up (va_up ga i (-6)) i ((La i) 6)) ph pp pq pt pu) H locs := hW
          refine lv_aload_n hx hb dX7_coughAgain_64 rfl (lv_at hl 0 rfl) ?_
          refine lv_iload_n hx hb dX7_coughAgain_65 rfl (lv_at hl 1 rfl) ?_
          refine lv_bipush (v := 11) hx hb dX7_coughAgain_66 (by decide) ?_
          refine lv_iconst (v := 1) hx hb dX7_coughAgain_68 (by decide) ?_
          refine x_callV hx hb hml hown hts hK hW hl.1 (c_X7_layL l X G (i := i) (w := 11) (v := 1) (hi := (by omega)) (hw := (by decide)) ) (xF_mo0).1 (xF_mo0).2.1 (by decide) rfl xw_202 xw_203 xw_204 xw_5 xw_205 hdV_yX7_layL ⟨Nat.le_of_ble_eq_true rfl, Nat.le_of_ble_eq_true rfl⟩ rfl (Nat.le_of_ble_eq_true rfl) ⟨Nat.le_refl _, Nat.le_refl _⟩ dX7_coughAgain_69 (fun H locs hW => ?_)
          have hW : XR X G 12 (xMa f sg (va_up La i (va_up (va_up (va_up (va_up (La i) 5 ((La i) 5 + (-1))) 5 0) 6 0) 11 1)) O Y pb pc pd pe (va_up (va_up ga i (-6)) i ((La i) 6)) ph pp pq pt pu) H locs := hW
          refine lv_iinc (v := nI (i + 1)) (lv' := [(1, .int (nI (i + 1))), (0, .ref (xB X + xkey 12 0 0))]) hx hb dX7_coughAgain_72 hl (k := 1) rfl (nI_1 i) (by decide) rfl (fun ls hl => ?_)
          refine lv_goto (tgt := 2) hx hb dX7_coughAgain_75 (by decide) ?_
          refine ih_2 (i + 1) (va_up La i (va_up (va_up (va_up (va_up (La i) 5 ((La i) 5 + (-1))) 5 0) 6 0) 11 1)) (va_up (va_up ga i (-6)) i ((La i) 6)) (by omega)  ?_ H locs ls hW (lv_sub hl [1, 0] rfl)
          rw [← hsp_2]; simp [xloop, Mwait1, Mrank, va_up, c_5, c_6, Int32.not_le.mp c_6, c_7]
  exact loop_2 n 0 L pg (by omega)  rfl _ _ _ hW (lv_sub hl [1, 0] rfl)
set_option maxHeartbeats 4000000 in
set_option maxRecDepth 100000 in
theorem c_X7_sees (l : Launch) (X : xX) (G : xG) {f sg pb pc pd pe pg ph pp pq pt pu : Nat → Int32} {L O Y : Nat → Nat → Int32} {nw i : Nat} (hw : sg 9 = nI nw) (hw8 : nw ≤ 8) (hi : i < 16) {res : Int32} (hres : (Msees nw sg Y (L i)) = res) : XC l yX7_sees cX7_sees 4 (some .boolean) 2 43 0 0 X xsh [.ref (xB X + xkey 12 0 0), .int (nI i)] 603 603 (xval (xB X) (va_up G 12 (xMa f sg L O Y pb pc pd pe pg ph pp pq pt pu))) (xval (xB X) (va_up G 12 (xMa f sg L O Y pb pc pd pe pg ph pp pq pt pu))) (some (.int res)) := by
  refine XC.of RX7 "sees" [(0, .ref (xB X + xkey 12 0 0)), (1, .int (nI i))] (by decide) rfl rfl (Nat.le_of_ble_eq_true rfl) rfl ?_
  intro p e s m args below meth c ls hx hb hret hml hts hown hlocks hnm hK hW hl
  have hW : XR X G 12 (xMa f sg L O Y pb pc pd pe pg ph pp pq pt pu) s.heap [] := hW
  obtain ⟨Q0, hQ0⟩ : ∃ z, z = MQ below (xQ X xsh 603 (xval (xB X) (va_up G 12 (xMa f sg L O Y pb pc pd pe pg ph pp pq pt pu))) (some (.int res))) args s 0 0 (fun q => xB X ≤ q) := ⟨_, rfl⟩
  rw [← hQ0]
  refine lv_iconst (v := 0) hx hb dX7_sees_0 (by decide) ?_
  refine lv_istore_n (lv' := [(2, .int 0), (0, .ref (xB X + xkey 12 0 0)), (1, .int (nI i))]) hx hb dX7_sees_1 rfl hl (by decide) rfl (fun ls hl => ?_)
  refine lv_iconst (v := nI 0) hx hb dX7_sees_2 (by decide) ?_
  refine lv_istore_n (lv' := [(3, .int (nI 0)), (2, .int 0), (0, .ref (xB X + xkey 12 0 0)), (1, .int (nI i))]) hx hb dX7_sees_3 rfl hl (by decide) rfl (fun ls hl => ?_)
  have loop_4 : ∀ (k_4 w : Nat) (da : Int32), w + k_4 = nw → (da = 0 ∨ da = 1) → xloop (fun w s => if Mstr (Y w) = 0 then s ||| 0 else if Mfar (Y w 0) (L i 0) ≤ sg 0 then s ||| 1 else s ||| 0) k_4 w da = xloop (fun w s => if Mstr (Y w) = 0 then s ||| 0 else if Mfar (Y w 0) (L i 0) ≤ sg 0 then s ||| 1 else s ||| 0) nw 0 0 → ∀ (H : Heap) (locs : List Loc) (ls : Array Slot), XR X G 12 (xMa f sg L O Y pb pc pd pe pg ph pp pq pt pu) H locs → lv_has ls 4 [(0, .ref (xB X + xkey 12 0 0)), (1, .int (nI i)), (2, .int da), (3, .int (nI w))] → W p l e { frames := 2, cells := 0, slots := 0, locals := 43 } s m args below meth c H locs 0 0 Q0 (F0 m 4 ls []) := by
    intro k_4
    induction k_4 with
    | zero =>
      intro w da hik_4 hv0_4 hsp_4 H locs ls hW hl
      refine lv_iload_n hx hb dX7_sees_4 rfl (lv_at hl 3 rfl) ?_
      refine lv_aload_n hx hb dX7_sees_5 rfl (lv_at hl 0 rfl) ?_
      refine r_getr (C := RX7) (T := TX7) hx hb hts hown hK hW (xF_mo0).1 (xF_mo0).2.1 inlX7 rfl (by decide) 0 (by decide) (show xro (xkey 12 0 0) 0 = some (xkey 12 1 0) from by decide +kernel) xw_79 rfl dX7_sees_6 ?_
      refine lv_bipush (v := 9) hx hb dX7_sees_9 (by decide) ?_
      refine r_iald hx hb hK hW (N := 440) (xF_mo1) 9 (by decide) (by decide) (by decide) (xr_model 1 (by decide) (by decide) 9) (x := nI nw) ((xat_s (sg := sg) (L := L) (O := O) (Y := Y) (k := 9) (by omega)).trans hw) dX7_sees_11 ?_
      refine lv_icmp_ge (tgt := 61) hx hb dX7_sees_12 (by decide) (fun c_1 => ?_) (fun c_1 => absurd (xge_refl (by omega)) c_1)
      refine lv_iload_n hx hb dX7_sees_61 rfl (lv_at hl 2 rfl) ?_
      refine lv_if_eq (tgt := 78) hx hb dX7_sees_62 (by decide) (fun c_2 => ?_) (fun c_2 => ?_)
      · skip
        refine lv_iconst (v := 0) hx hb dX7_sees_78 (by decide) ?_
        obtain rfl : 0 = res := by (rw [← hres]) <;> (have e1 : da = Msee1 nw sg Y (L i 0) := hsp_4; simp [Msees, ← e1, c_1, c_2])
        rw [hQ0]
        exact x_iret hx hb hret hlocks rfl hW rfl dX7_sees_79
      · skip
        refine lv_aload_n hx hb dX7_sees_65 rfl (lv_at hl 0 rfl) ?_
        refine lv_iload_n hx hb dX7_sees_66 rfl (lv_at hl 1 rfl) ?_
        refine lv_iconst (v := 3) hx hb dX7_sees_67 (by decide) ?_
        refine x_callV hx hb hml hown hts hK hW hl.1 (c_X7_ofL l X G (i := i) (w := 3) (hi := hi) (hw := (by decide)) (hres := rfl)) (xF_mo0).1 (xF_mo0).2.1 (by decide) rfl xw_198 xw_199 xw_200 xw_5 xw_201 hdV_yX7_ofL ⟨Nat.le_of_ble_eq_true rfl, Nat.le_of_ble_eq_true rfl⟩ rfl (Nat.le_of_ble_eq_true rfl) ⟨Nat.le_refl _, Nat.le_refl _⟩ dX7_sees_68 (fun H locs hW => ?_)
        refine lv_if_ne (tgt := 78) hx hb dX7_sees_71 (by decide) (fun c_3 => ?_) (fun c_3 => ?_)
        · skip
          refine lv_iconst (v := 0) hx hb dX7_sees_78 (by decide) ?_
          obtain rfl : 0 = res := by (rw [← hres]) <;> (have e1 : da = Msee1 nw sg Y (L i 0) := hsp_4; simp [Msees, ← e1, c_1, c_2, c_3])
          rw [hQ0]
          exact x_iret hx hb hret hlocks rfl hW rfl dX7_sees_79
        · skip
          refine lv_iconst (v := 1) hx hb dX7_sees_74 (by decide) ?_
          refine lv_goto (tgt := 79) hx hb dX7_sees_75 (by decide) ?_
          obtain rfl : 1 = res := by (rw [← hres]) <;> (have e1 : da = Msee1 nw sg Y (L i 0) := hsp_4; simp [Msees, ← e1, c_1, c_2, c_3])
          rw [hQ0]
          exact x_iret hx hb hret hlocks rfl hW rfl dX7_sees_79
    | succ k_4 ih_4 =>
      intro w da hik_4 hv0_4 hsp_4 H locs ls hW hl
      refine lv_iload_n hx hb dX7_sees_4 rfl (lv_at hl 3 rfl) ?_
      refine lv_aload_n hx hb dX7_sees_5 rfl (lv_at hl 0 rfl) ?_
      refine r_getr (C := RX7) (T := TX7) hx hb hts hown hK hW (xF_mo0).1 (xF_mo0).2.1 inlX7 rfl (by decide) 0 (by decide) (show xro (xkey 12 0 0) 0 = some (xkey 12 1 0) from by decide +kernel) xw_79 rfl dX7_sees_6 ?_
      refine lv_bipush (v := 9) hx hb dX7_sees_9 (by decide) ?_
      refine r_iald hx hb hK hW (N := 440) (xF_mo1) 9 (by decide) (by decide) (by decide) (xr_model 1 (by decide) (by decide) 9) (x := nI nw) ((xat_s (sg := sg) (L := L) (O := O) (Y := Y) (k := 9) (by omega)).trans hw) dX7_sees_11 ?_
      refine lv_icmp_ge (tgt := 61) hx hb dX7_sees_12 (by decide) (fun c_4 => absurd c_4 (nI_ge (by omega) (by omega))) (fun c_4 => ?_)
      refine lv_iload_n hx hb dX7_sees_15 rfl (lv_at hl 2 rfl) ?_
      refine lv_aload_n hx hb dX7_sees_16 rfl (lv_at hl 0 rfl) ?_
      refine lv_iload_n hx hb dX7_sees_17 rfl (lv_at hl 3 rfl) ?_
      refine x_callV hx hb hml hown hts hK hW hl.1 (c_X7_isInStreet l X G (i := w) (hi := (by omega)) (hres := rfl)) (xF_mo0).1 (xF_mo0).2.1 (by decide) rfl xw_282 xw_283 xw_284 xw_5 xw_285 hdV_yX7_isInStreet ⟨Nat.le_of_ble_eq_true rfl, Nat.le_of_ble_eq_true rfl⟩ rfl (Nat.le_of_ble_eq_true rfl) ⟨Nat.le_refl _, Nat.le_refl _⟩ dX7_sees_18 (fun H locs hW => ?_)
      refine lv_if_eq (tgt := 52) hx hb dX7_sees_21 (by decide) (fun c_5 => ?_) (fun c_5 => ?_)
      · skip
        refine lv_iconst (v := 0) hx hb dX7_sees_52 (by decide) ?_
        refine lv_ior hx hb dX7_sees_53 ?_
        refine lv_istore_n (lv' := [(2, .int (da ||| 0)), (0, .ref (xB X + xkey 12 0 0)), (1, .int (nI i)), (3, .int (nI w))]) hx hb dX7_sees_54 rfl hl (by decide) rfl (fun ls hl => ?_)
        refine lv_iinc (v := nI (w + 1)) (lv' := [(3, .int (nI (w + 1))), (2, .int (da ||| 0)), (0, .ref (xB X + xkey 12 0 0)), (1, .int (nI i))]) hx hb dX7_sees_55 hl (k := 3) rfl (nI_1 w) (by decide) rfl (fun ls hl => ?_)
        refine lv_goto (tgt := 4) hx hb dX7_sees_58 (by decide) ?_
        refine ih_4 (w + 1) (da ||| 0) (by omega) (xor0 hv0_4) ?_ H locs ls hW (lv_sub hl [2, 3, 1, 0] rfl)
        rw [← hsp_4]; simp [xloop, c_4, c_5]
      · skip
        refine lv_aload_n hx hb dX7_sees_24 rfl (lv_at hl 0 rfl) ?_
        refine lv_iload_n hx hb dX7_sees_25 rfl (lv_at hl 3 rfl) ?_
        refine lv_iconst (v := 0) hx hb dX7_sees_26 (by decide) ?_
        refine x_callV hx hb hml hown hts hK hW hl.1 (c_X7_ofW l X G (i := w) (w := 0) (hi := (by omega)) (hw := (by decide)) (hres := rfl)) (xF_mo0).1 (xF_mo0).2.1 (by decide) rfl xw_278 xw_279 xw_280 xw_5 xw_281 hdV_yX7_ofW ⟨Nat.le_of_ble_eq_true rfl, Nat.le_of_ble_eq_true rfl⟩ rfl (Nat.le_of_ble_eq_true rfl) ⟨Nat.le_refl _, Nat.le_refl _⟩ dX7_sees_27 (fun H locs hW => ?_)
        refine lv_aload_n hx hb dX7_sees_30 rfl (lv_at hl 0 rfl) ?_
        refine lv_iload_n hx hb dX7_sees_31 rfl (lv_at hl 1 rfl) ?_
        refine lv_iconst (v := 0) hx hb dX7_sees_32 (by decide) ?_
        refine x_callV hx hb hml hown hts hK hW hl.1 (c_X7_ofL l X G (i := i) (w := 0) (hi := hi) (hw := (by decide)) (hres := rfl)) (xF_mo0).1 (xF_mo0).2.1 (by decide) rfl xw_198 xw_199 xw_200 xw_5 xw_201 hdV_yX7_ofL ⟨Nat.le_of_ble_eq_true rfl, Nat.le_of_ble_eq_true rfl⟩ rfl (Nat.le_of_ble_eq_true rfl) ⟨Nat.le_refl _, Nat.le_refl _⟩ dX7_sees_33 (fun H locs hW => ?_)
        refine x_callS hx hb hml hown hts hK hW hl.1 (c_X7_far l X _ (a := Y w 0) (b := L i 0) (hres := rfl)) xw_385 xw_386 xw_5 xw_387 hdS_yX7_far ⟨Nat.le_of_ble_eq_true rfl, Nat.le_of_ble_eq_true rfl⟩ rfl (Nat.le_of_ble_eq_true rfl) ⟨Nat.le_refl _, Nat.le_refl _⟩ dX7_sees_36 (fun H locs hW => ?_)
        refine lv_aload_n hx hb dX7_sees_39 rfl (lv_at hl 0 rfl) ?_
        refine r_getr (C := RX7) (T := TX7) hx hb hts hown hK hW (xF_mo0).1 (xF_mo0).2.1 inlX7 rfl (by decide) 0 (by decide) (show xro (xkey 12 0 0) 0 = some (xkey 12 1 0) from by decide +kernel) xw_79 rfl dX7_sees_40 ?_
        refine lv_iconst (v := 0) hx hb dX7_sees_43 (by decide) ?_
        refine r_iald hx hb hK hW (N := 440) (xF_mo1) 0 (by decide) (by decide) (by decide) (xr_model 1 (by decide) (by decide) 0) (x := sg 0) (xat_s (sg := sg) (L := L) (O := O) (Y := Y) (k := 0) (by omega)) dX7_sees_44 ?_
        refine lv_icmp_gt (tgt := 52) hx hb dX7_sees_45 (by decide) (fun c_6 => ?_) (fun c_6 => ?_)
        · skip
          refine lv_iconst (v := 0) hx hb dX7_sees_52 (by decide) ?_
          refine lv_ior hx hb dX7_sees_53 ?_
          refine lv_istore_n (lv' := [(2, .int (da ||| 0)), (0, .ref (xB X + xkey 12 0 0)), (1, .int (nI i)), (3, .int (nI w))]) hx hb dX7_sees_54 rfl hl (by decide) rfl (fun ls hl => ?_)
          refine lv_iinc (v := nI (w + 1)) (lv' := [(3, .int (nI (w + 1))), (2, .int (da ||| 0)), (0, .ref (xB X + xkey 12 0 0)), (1, .int (nI i))]) hx hb dX7_sees_55 hl (k := 3) rfl (nI_1 w) (by decide) rfl (fun ls hl => ?_)
          refine lv_goto (tgt := 4) hx hb dX7_sees_58 (by decide) ?_
          refine ih_4 (w + 1) (da ||| 0) (by omega) (xor0 hv0_4) ?_ H locs ls hW (lv_sub hl [2, 3, 1, 0] rfl)
          rw [← hsp_4]; simp [xloop, c_4, c_5, c_6, Int32.not_le.mpr c_6]
        · skip
          refine lv_iconst (v := 1) hx hb dX7_sees_48 (by decide) ?_
          refine lv_goto (tgt := 53) hx hb dX7_sees_49 (by decide) ?_
          refine lv_ior hx hb dX7_sees_53 ?_
          refine lv_istore_n (lv' := [(2, .int (da ||| 1)), (0, .ref (xB X + xkey 12 0 0)), (1, .int (nI i)), (3, .int (nI w))]) hx hb dX7_sees_54 rfl hl (by decide) rfl (fun ls hl => ?_)
          refine lv_iinc (v := nI (w + 1)) (lv' := [(3, .int (nI (w + 1))), (2, .int (da ||| 1)), (0, .ref (xB X + xkey 12 0 0)), (1, .int (nI i))]) hx hb dX7_sees_55 hl (k := 3) rfl (nI_1 w) (by decide) rfl (fun ls hl => ?_)
          refine lv_goto (tgt := 4) hx hb dX7_sees_58 (by decide) ?_
          refine ih_4 (w + 1) (da ||| 1) (by omega) (xor1 hv0_4) ?_ H locs ls hW (lv_sub hl [2, 3, 1, 0] rfl)
          rw [← hsp_4]; simp [xloop, c_4, c_5, c_6, Int32.not_lt.mp c_6]
  exact loop_4 nw 0 0 (by omega) (Or.inl rfl) rfl _ _ _ hW (lv_sub hl [2, 3, 1, 0] rfl)
set_option maxHeartbeats 4000000 in
set_option maxRecDepth 100000 in
theorem c_X7_look (l : Launch) (X : xX) (G : xG) {f sg pb pc pd pe pg ph pp pq pt pu : Nat → Int32} {L O Y : Nat → Nat → Int32} {n nw : Nat} (hn : sg 7 = nI n) (hn16 : n ≤ 16) (hw : sg 9 = nI nw) (hw8 : nw ≤ 8) {L' : Nat → Nat → Int32} (ho0 : (MLook n nw sg Y L ph) = L') {ph' : Nat → Int32} (ho1 : (Mwere n L ph) = ph') : XC l yX7_look cX7_look 2 none 3 68 0 0 X xsh [.ref (xB X + xkey 12 0 0)] 603 603 (xval (xB X) (va_up G 12 (xMa f sg L O Y pb pc pd pe pg ph pp pq pt pu))) (xval (xB X) (va_up G 12 (xMa f sg L' O Y pb pc pd pe pg ph' pp pq pt pu))) none := by
  refine XC.of RX7 "look" [(0, .ref (xB X + xkey 12 0 0))] (by decide) rfl rfl (Nat.le_of_ble_eq_true rfl) rfl ?_
  intro p e s m args below meth c ls hx hb hret hml hts hown hlocks hnm hK hW hl
  have hW : XR X G 12 (xMa f sg L O Y pb pc pd pe pg ph pp pq pt pu) s.heap [] := hW
  obtain ⟨Q0, hQ0⟩ : ∃ z, z = MQ below (xQ X xsh 603 (xval (xB X) (va_up G 12 (xMa f sg L' O Y pb pc pd pe pg ph' pp pq pt pu))) none) args s 0 0 (fun q => xB X ≤ q) := ⟨_, rfl⟩
  rw [← hQ0]
  refine lv_iconst (v := nI 0) hx hb dX7_look_0 (by decide) ?_
  refine lv_istore_n (lv' := [(1, .int (nI 0)), (0, .ref (xB X + xkey 12 0 0))]) hx hb dX7_look_1 rfl hl (by decide) rfl (fun ls hl => ?_)
  have loop_2 : ∀ (k_2 i : Nat) (wa : Nat → Int32), i + k_2 = n → xloop (fun i h => va_up h i (L i 2)) k_2 i wa = xloop (fun i h => va_up h i (L i 2)) n 0 ph → ∀ (H : Heap) (locs : List Loc) (ls : Array Slot), XR X G 12 (xMa f sg L O Y pb pc pd pe pg wa pp pq pt pu) H locs → lv_has ls 2 [(0, .ref (xB X + xkey 12 0 0)), (1, .int (nI i))] → W p l e { frames := 3, cells := 0, slots := 0, locals := 68 } s m args below meth c H locs 0 0 Q0 (F0 m 2 ls []) := by
    intro k_2
    induction k_2 with
    | zero =>
      intro i wa hik_2  hsp_2 H locs ls hW hl
      refine lv_iload_n hx hb dX7_look_2 rfl (lv_at hl 1 rfl) ?_
      refine lv_aload_n hx hb dX7_look_3 rfl (lv_at hl 0 rfl) ?_
      refine r_getr (C := RX7) (T := TX7) hx hb hts hown hK hW (xF_mo0).1 (xF_mo0).2.1 inlX7 rfl (by decide) 0 (by decide) (show xro (xkey 12 0 0) 0 = some (xkey 12 1 0) from by decide +kernel) xw_79 rfl dX7_look_4 ?_
      refine lv_bipush (v := 7) hx hb dX7_look_7 (by decide) ?_
      refine r_iald hx hb hK hW (N := 440) (xF_mo1) 7 (by decide) (by decide) (by decide) (xr_model 1 (by decide) (by decide) 7) (x := nI n) ((xat_s (sg := sg) (L := L) (O := O) (Y := Y) (k := 7) (by omega)).trans hn) dX7_look_9 ?_
      refine lv_icmp_ge (tgt := 31) hx hb dX7_look_10 (by decide) (fun c_1 => ?_) (fun c_1 => absurd (xge_refl (by omega)) c_1)
      refine lv_iconst (v := nI 0) hx hb dX7_look_31 (by decide) ?_
      refine lv_istore_n (lv' := [(1, .int (nI 0)), (0, .ref (xB X + xkey 12 0 0))]) hx hb dX7_look_32 rfl hl (by decide) rfl (fun ls hl => ?_)
      have loop_33 : ∀ (k_33 i : Nat) (La : Nat → Nat → Int32), i + k_33 = n → xloop (Mlook1 n nw sg Y wa) k_33 i La = xloop (Mlook1 n nw sg Y wa) n 0 L → ∀ (H : Heap) (locs : List Loc) (ls : Array Slot), XR X G 12 (xMa f sg La O Y pb pc pd pe pg wa pp pq pt pu) H locs → lv_has ls 2 [(0, .ref (xB X + xkey 12 0 0)), (1, .int (nI i))] → W p l e { frames := 3, cells := 0, slots := 0, locals := 68 } s m args below meth c H locs 0 0 Q0 (F0 m 33 ls []) := by
        intro k_33
        induction k_33 with
        | zero =>
          intro i La hik_33  hsp_33 H locs ls hW hl
          refine lv_iload_n hx hb dX7_look_33 rfl (lv_at hl 1 rfl) ?_
          refine lv_aload_n hx hb dX7_look_34 rfl (lv_at hl 0 rfl) ?_
          refine r_getr (C := RX7) (T := TX7) hx hb hts hown hK hW (xF_mo0).1 (xF_mo0).2.1 inlX7 rfl (by decide) 0 (by decide) (show xro (xkey 12 0 0) 0 = some (xkey 12 1 0) from by decide +kernel) xw_79 rfl dX7_look_35 ?_
          refine lv_bipush (v := 7) hx hb dX7_look_38 (by decide) ?_
          refine r_iald hx hb hK hW (N := 440) (xF_mo1) 7 (by decide) (by decide) (by decide) (xr_model 1 (by decide) (by decide) 7) (x := nI n) ((xat_s (sg := sg) (L := La) (O := O) (Y := Y) (k := 7) (by omega)).trans hn) dX7_look_40 ?_
          refine lv_icmp_ge (tgt := 93) hx hb dX7_look_41 (by decide) (fun c_2 => ?_) (fun c_2 => absurd (xge_refl (by omega)) c_2)
          obtain rfl : La = L' := by (rw [← ho0]) <;> (have e1 : wa = Mwere n L ph := hsp_2; first | (show La = xloop (Mlook1 n nw sg Y (Mwere n L ph)) n 0 L; rw [← e1]; exact hsp_33) | exact e1)
          obtain rfl : wa = ph' := by (rw [← ho1]) <;> (have e1 : wa = Mwere n L ph := hsp_2; first | (show La = xloop (Mlook1 n nw sg Y (Mwere n L ph)) n 0 L; rw [← e1]; exact hsp_33) | exact e1)
          rw [hQ0]
          exact x_vret hx hb hret hlocks hW rfl dX7_look_93
        | succ k_33 ih_33 =>
          intro i La hik_33  hsp_33 H locs ls hW hl
          refine lv_iload_n hx hb dX7_look_33 rfl (lv_at hl 1 rfl) ?_
          refine lv_aload_n hx hb dX7_look_34 rfl (lv_at hl 0 rfl) ?_
          refine r_getr (C := RX7) (T := TX7) hx hb hts hown hK hW (xF_mo0).1 (xF_mo0).2.1 inlX7 rfl (by decide) 0 (by decide) (show xro (xkey 12 0 0) 0 = some (xkey 12 1 0) from by decide +kernel) xw_79 rfl dX7_look_35 ?_
          refine lv_bipush (v := 7) hx hb dX7_look_38 (by decide) ?_
          refine r_iald hx hb hK hW (N := 440) (xF_mo1) 7 (by decide) (by decide) (by decide) (xr_model 1 (by decide) (by decide) 7) (x := nI n) ((xat_s (sg := sg) (L := La) (O := O) (Y := Y) (k := 7) (by omega)).trans hn) dX7_look_40 ?_
          refine lv_icmp_ge (tgt := 93) hx hb dX7_look_41 (by decide) (fun c_3 => absurd c_3 (nI_ge (by omega) (by omega))) (fun c_3 => ?_)
          refine lv_aload_n hx hb dX7_look_44 rfl (lv_at hl 0 rfl) ?_
          refine lv_iload_n hx hb dX7_look_45 rfl (lv_at hl 1 rfl) ?_
          refine x_callV hx hb hml hown hts hK hW hl.1 (c_X7_sees l X G (nw := nw) (i := i) (hw := (by assumption)) (hw8 := (by assumption)) (hi := (by omega)) (hres := rfl)) (xF_mo0).1 (xF_mo0).2.1 (by decide) rfl xw_522 xw_523 xw_524 xw_5 xw_525 hdV_yX7_sees ⟨Nat.le_of_ble_eq_true rfl, Nat.le_of_ble_eq_true rfl⟩ rfl (Nat.le_of_ble_eq_true rfl) ⟨Nat.le_refl _, Nat.le_refl _⟩ dX7_look_46 (fun H locs hW => ?_)
          refine lv_if_eq (tgt := 87) hx hb dX7_look_49 (by decide) (fun c_4 => ?_) (fun c_4 => ?_)
          · skip
            refine lv_iinc (v := nI (i + 1)) (lv' := [(1, .int (nI (i + 1))), (0, .ref (xB X + xkey 12 0 0))]) hx hb dX7_look_87 hl (k := 1) rfl (nI_1 i) (by decide) rfl (fun ls hl => ?_)
            refine lv_goto (tgt := 33) hx hb dX7_look_90 (by decide) ?_
            refine ih_33 (i + 1) La (by omega)  ?_ H locs ls hW (lv_sub hl [1, 0] rfl)
            rw [← hsp_33]; simp [xloop, Mlook1, Mturn, Mshine, va_up, c_1, c_3, c_4]
          · skip
            refine lv_aload_n hx hb dX7_look_52 rfl (lv_at hl 0 rfl) ?_
            refine lv_iload_n hx hb dX7_look_53 rfl (lv_at hl 1 rfl) ?_
            have hW := XR.mfoc2 hW i
            refine x_callV hx hb hml hown hts hK hW hl.1 (c_X7_shine l X G (i := i) (hi := (by omega)) (ho0 := rfl)) (xF_mo0).1 (xF_mo0).2.1 (by decide) rfl xw_388 xw_389 xw_390 xw_5 xw_391 hdV_yX7_shine ⟨Nat.le_of_ble_eq_true rfl, Nat.le_of_ble_eq_true rfl⟩ rfl (Nat.le_of_ble_eq_true rfl) ⟨Nat.le_refl _, Nat.le_refl _⟩ dX7_look_54 (fun H locs hW => ?_)
            have hW : XR X G 12 (xMa f sg (va_up La i (Mshine sg (La i))) O Y pb pc pd pe pg wa pp pq pt pu) H locs := hW
            refine lv_aload_n hx hb dX7_look_57 rfl (lv_at hl 0 rfl) ?_
            refine r_getr (C := RX7) (T := TX7) hx hb hts hown hK hW (xF_mo0).1 (xF_mo0).2.1 inlX7 rfl (by decide) 8 (by decide) (show xro (xkey 12 0 0) 8 = some (xkey 12 7 0) from by decide +kernel) xw_85 rfl dX7_look_58 ?_
            refine lv_iload_n hx hb dX7_look_61 rfl (lv_at hl 1 rfl) ?_
            refine r_iald hx hb hK hW (N := 16) (xF_mo7) i (by omega) (by decide) rfl (xr_model 7 (by decide) (by decide) i) (x := wa i) rfl dX7_look_62 ?_
            refine lv_iconst (v := 2) hx hb dX7_look_63 (by decide) ?_
            refine lv_icmp_eq (tgt := 87) hx hb dX7_look_64 (by decide) (fun c_5 => ?_) (fun c_5 => ?_)
            · skip
              refine lv_iinc (v := nI (i + 1)) (lv' := [(1, .int (nI (i + 1))), (0, .ref (xB X + xkey 12 0 0))]) hx hb dX7_look_87 hl (k := 1) rfl (nI_1 i) (by decide) rfl (fun ls hl => ?_)
              refine lv_goto (tgt := 33) hx hb dX7_look_90 (by decide) ?_
              refine ih_33 (i + 1) (va_up La i (Mshine sg (La i))) (by omega)  ?_ H locs ls hW (lv_sub hl [1, 0] rfl)
              rw [← hsp_33]; simp [xloop, Mlook1, Mturn, Mshine, va_up, c_1, c_3, c_4, c_5]
            · skip
              refine lv_aload_n hx hb dX7_look_67 rfl (lv_at hl 0 rfl) ?_
              refine lv_iload_n hx hb dX7_look_68 rfl (lv_at hl 1 rfl) ?_
              refine x_callV hx hb hml hown hts hK hW hl.1 (c_X7_stopWaiting l X G (i := i) (hi := (by omega)) ) (xF_mo0).1 (xF_mo0).2.1 (by decide) rfl xw_319 xw_320 xw_321 xw_5 xw_322 hdV_yX7_stopWaiting ⟨Nat.le_of_ble_eq_true rfl, Nat.le_of_ble_eq_true rfl⟩ rfl (Nat.le_of_ble_eq_true rfl) ⟨Nat.le_refl _, Nat.le_refl _⟩ dX7_look_69 (fun H locs hW => ?_)
              have hW : XR X G 12 (xMa f sg (va_up La i (va_up (va_up (Mshine sg (La i)) 5 0) 6 0)) O Y pb pc pd pe pg wa pp pq pt pu) H locs := hW
              refine lv_aload_n hx hb dX7_look_72 rfl (lv_at hl 0 rfl) ?_
              refine lv_iload_n hx hb dX7_look_73 rfl (lv_at hl 1 rfl) ?_
              refine lv_bipush (v := 11) hx hb dX7_look_74 (by decide) ?_
              refine lv_iconst (v := 1) hx hb dX7_look_76 (by decide) ?_
              refine x_callV hx hb hml hown hts hK hW hl.1 (c_X7_layL l X G (i := i) (w := 11) (v := 1) (hi := (by omega)) (hw := (by decide)) ) (xF_mo0).1 (xF_mo0).2.1 (by decide) rfl xw_202 xw_203 xw_204 xw_5 xw_205 hdV_yX7_layL ⟨Nat.le_of_ble_eq_true rfl, Nat.le_of_ble_eq_true rfl⟩ rfl (Nat.le_of_ble_eq_true rfl) ⟨Nat.le_refl _, Nat.le_refl _⟩ dX7_look_77 (fun H locs hW => ?_)
              have hW : XR X G 12 (xMa f sg (va_up La i (va_up (va_up (va_up (Mshine sg (La i)) 5 0) 6 0) 11 1)) O Y pb pc pd pe pg wa pp pq pt pu) H locs := hW
              refine lv_aload_n hx hb dX7_look_80 rfl (lv_at hl 0 rfl) ?_
              refine lv_iload_n hx hb dX7_look_81 rfl (lv_at hl 1 rfl) ?_
              refine lv_iconst (v := 0) hx hb dX7_look_82 (by decide) ?_
              refine x_callV hx hb hml hown hts hK hW hl.1 (c_X7_coughs l X G (n := n) (a := i) (k := 0) (hn := (by assumption)) (hn16 := (by assumption)) (ha := (by omega)) (ho0 := rfl) (hres := rfl)) (xF_mo0).1 (xF_mo0).2.1 (by decide) rfl xw_373 xw_374 xw_375 xw_5 xw_376 hdV_yX7_coughs ⟨Nat.le_of_ble_eq_true rfl, Nat.le_of_ble_eq_true rfl⟩ rfl (Nat.le_of_ble_eq_true rfl) ⟨Nat.le_refl _, Nat.le_refl _⟩ dX7_look_83 (fun H locs hW => ?_)
              have hW : XR X G 12 (xMa f sg ((Mspread n sg i 0 (va_up La i (va_up (va_up (va_up (Mshine sg (La i)) 5 0) 6 0) 11 1))).1) O Y pb pc pd pe pg wa pp pq pt pu) H locs := hW
              refine lv_pop hx hb dX7_look_86 rfl ?_
              refine lv_iinc (v := nI (i + 1)) (lv' := [(1, .int (nI (i + 1))), (0, .ref (xB X + xkey 12 0 0))]) hx hb dX7_look_87 hl (k := 1) rfl (nI_1 i) (by decide) rfl (fun ls hl => ?_)
              refine lv_goto (tgt := 33) hx hb dX7_look_90 (by decide) ?_
              refine ih_33 (i + 1) ((Mspread n sg i 0 (va_up La i (va_up (va_up (va_up (Mshine sg (La i)) 5 0) 6 0) 11 1))).1) (by omega)  ?_ H locs ls hW (lv_sub hl [1, 0] rfl)
              rw [← hsp_33]; simp [xloop, Mlook1, Mturn, Mshine, va_up, c_1, c_3, c_4, c_5]
      exact loop_33 n 0 L (by omega)  rfl _ _ _ hW (lv_sub hl [1, 0] rfl)
    | succ k_2 ih_2 =>
      intro i wa hik_2  hsp_2 H locs ls hW hl
      refine lv_iload_n hx hb dX7_look_2 rfl (lv_at hl 1 rfl) ?_
      refine lv_aload_n hx hb dX7_look_3 rfl (lv_at hl 0 rfl) ?_
      refine r_getr (C := RX7) (T := TX7) hx hb hts hown hK hW (xF_mo0).1 (xF_mo0).2.1 inlX7 rfl (by decide) 0 (by decide) (show xro (xkey 12 0 0) 0 = some (xkey 12 1 0) from by decide +kernel) xw_79 rfl dX7_look_4 ?_
      refine lv_bipush (v := 7) hx hb dX7_look_7 (by decide) ?_
      refine r_iald hx hb hK hW (N := 440) (xF_mo1) 7 (by decide) (by decide) (by decide) (xr_model 1 (by decide) (by decide) 7) (x := nI n) ((xat_s (sg := sg) (L := L) (O := O) (Y := Y) (k := 7) (by omega)).trans hn) dX7_look_9 ?_
      refine lv_icmp_ge (tgt := 31) hx hb dX7_look_10 (by decide) (fun c_6 => absurd c_6 (nI_ge (by omega) (by omega))) (fun c_6 => ?_)
      refine lv_aload_n hx hb dX7_look_13 rfl (lv_at hl 0 rfl) ?_
      refine r_getr (C := RX7) (T := TX7) hx hb hts hown hK hW (xF_mo0).1 (xF_mo0).2.1 inlX7 rfl (by decide) 8 (by decide) (show xro (xkey 12 0 0) 8 = some (xkey 12 7 0) from by decide +kernel) xw_85 rfl dX7_look_14 ?_
      refine lv_iload_n hx hb dX7_look_17 rfl (lv_at hl 1 rfl) ?_
      refine lv_aload_n hx hb dX7_look_18 rfl (lv_at hl 0 rfl) ?_
      refine lv_iload_n hx hb dX7_look_19 rfl (lv_at hl 1 rfl) ?_
      refine lv_iconst (v := 2) hx hb dX7_look_20 (by decide) ?_
      refine x_callV hx hb hml hown hts hK hW hl.1 (c_X7_ofL l X G (i := i) (w := 2) (hi := (by omega)) (hw := (by decide)) (hres := rfl)) (xF_mo0).1 (xF_mo0).2.1 (by decide) rfl xw_198 xw_199 xw_200 xw_5 xw_201 hdV_yX7_ofL ⟨Nat.le_of_ble_eq_true rfl, Nat.le_of_ble_eq_true rfl⟩ rfl (Nat.le_of_ble_eq_true rfl) ⟨Nat.le_refl _, Nat.le_refl _⟩ dX7_look_21 (fun H locs hW => ?_)
      refine r_iast hx hb hK hW (N := 16) (xF_mo7) i (by omega) (by decide) rfl (xr_model 7 (by decide) (by decide) i) xMa10 dX7_look_24 (fun H locs hW => ?_)
      refine lv_iinc (v := nI (i + 1)) (lv' := [(1, .int (nI (i + 1))), (0, .ref (xB X + xkey 12 0 0))]) hx hb dX7_look_25 hl (k := 1) rfl (nI_1 i) (by decide) rfl (fun ls hl => ?_)
      refine lv_goto (tgt := 2) hx hb dX7_look_28 (by decide) ?_
      refine ih_2 (i + 1) (va_up wa i (L i 2)) (by omega)  ?_ H locs ls hW (lv_sub hl [1, 0] rfl)
      rw [← hsp_2]; rfl
  exact loop_2 n 0 ph (by omega)  rfl _ _ _ hW (lv_sub hl [1, 0] rfl)
set_option maxHeartbeats 4000000 in
set_option maxRecDepth 100000 in
theorem c_X7_fade (l : Launch) (X : xX) (G : xG) {f sg pb pc pd pe pg ph pp pq pt pu : Nat → Int32} {L O Y : Nat → Nat → Int32} {i : Nat} {ℓ : Nat → Int32} (hi : i < 16) {ℓ' : Nat → Int32} (ho0 : (Mfade sg ℓ) = ℓ') : XC l yX7_fade cX7_fade 4 none 1 23 0 0 X xsh [.ref (xB X + xkey 12 0 0), .int (nI i)] 603 603 (xval (xB X) (va_up G 12 (xMa f sg (va_up L i ℓ) O Y pb pc pd pe pg ph pp pq pt pu))) (xval (xB X) (va_up G 12 (xMa f sg (va_up L i ℓ') O Y pb pc pd pe pg ph pp pq pt pu))) none := by
  refine XC.of RX7 "fade" [(0, .ref (xB X + xkey 12 0 0)), (1, .int (nI i))] (by decide) rfl rfl (Nat.le_of_ble_eq_true rfl) rfl ?_
  intro p e s m args below meth c ls hx hb hret hml hts hown hlocks hnm hK hW hl
  have hW : XR X G 12 (xMa f sg (va_up L i ℓ) O Y pb pc pd pe pg ph pp pq pt pu) s.heap [] := hW
  obtain ⟨Q0, hQ0⟩ : ∃ z, z = MQ below (xQ X xsh 603 (xval (xB X) (va_up G 12 (xMa f sg (va_up L i ℓ') O Y pb pc pd pe pg ph pp pq pt pu))) none) args s 0 0 (fun q => xB X ≤ q) := ⟨_, rfl⟩
  rw [← hQ0]
  refine lv_aload_n hx hb dX7_fade_0 rfl (lv_at hl 0 rfl) ?_
  refine lv_iload_n hx hb dX7_fade_1 rfl (lv_at hl 1 rfl) ?_
  refine lv_iconst (v := 2) hx hb dX7_fade_2 (by decide) ?_
  refine x_callV hx hb hml hown hts hK hW hl.1 (c_X7_ofL l X G (i := i) (w := 2) (hi := hi) (hw := (by decide)) (hres := rfl)) (xF_mo0).1 (xF_mo0).2.1 (by decide) rfl xw_198 xw_199 xw_200 xw_5 xw_201 hdV_yX7_ofL ⟨Nat.le_of_ble_eq_true rfl, Nat.le_of_ble_eq_true rfl⟩ rfl (Nat.le_of_ble_eq_true rfl) ⟨Nat.le_refl _, Nat.le_refl _⟩ dX7_fade_3 (fun H locs hW => ?_)
  refine lv_eqi (y := ℓ 2) (xrd rfl) ?_
  refine lv_istore_n (lv' := [(2, .int (ℓ 2)), (0, .ref (xB X + xkey 12 0 0)), (1, .int (nI i))]) hx hb dX7_fade_6 rfl hl (by decide) rfl (fun ls hl => ?_)
  refine lv_iload_n hx hb dX7_fade_7 rfl (lv_at hl 0 rfl) ?_
  refine lv_if_eq (tgt := 27) hx hb dX7_fade_8 (by decide) (fun c_1 => ?_) (fun c_1 => ?_)
  · skip
    obtain rfl : ℓ = ℓ' := by (rw [← ho0]) <;> (simp [Mfade, c_1])
    rw [hQ0]
    exact x_vret hx hb hret hlocks hW rfl dX7_fade_27
  · skip
    refine lv_iload_n hx hb dX7_fade_11 rfl (lv_at hl 0 rfl) ?_
    refine lv_iconst (v := 2) hx hb dX7_fade_12 (by decide) ?_
    refine lv_icmp_ne (tgt := 28) hx hb dX7_fade_13 (by decide) (fun c_2 => ?_) (fun c_2 => ?_)
    · skip
      refine lv_aload_n hx hb dX7_fade_28 rfl (lv_at hl 1 rfl) ?_
      refine lv_iload_n hx hb dX7_fade_29 rfl (lv_at hl 2 rfl) ?_
      refine lv_iconst (v := 4) hx hb dX7_fade_30 (by decide) ?_
      refine lv_iconst (v := (-1)) hx hb dX7_fade_31 (by decide) ?_
      refine x_callV hx hb hml hown hts hK hW hl.1 (c_X7_moreL l X G (i := i) (w := 4) (v := (-1)) (hi := hi) (hw := (by decide)) ) (xF_mo0).1 (xF_mo0).2.1 (by decide) rfl xw_377 xw_378 xw_379 xw_5 xw_380 hdV_yX7_moreL ⟨Nat.le_of_ble_eq_true rfl, Nat.le_of_ble_eq_true rfl⟩ rfl (Nat.le_of_ble_eq_true rfl) ⟨Nat.le_refl _, Nat.le_refl _⟩ dX7_fade_32 (fun H locs hW => ?_)
      have hW : XR X G 12 (xMa f sg (va_up L i (va_up ℓ 4 (ℓ 4 + (-1)))) O Y pb pc pd pe pg ph pp pq pt pu) H locs := hW
      refine lv_aload_n hx hb dX7_fade_35 rfl (lv_at hl 1 rfl) ?_
      refine lv_iload_n hx hb dX7_fade_36 rfl (lv_at hl 2 rfl) ?_
      refine lv_iconst (v := 4) hx hb dX7_fade_37 (by decide) ?_
      refine x_callV hx hb hml hown hts hK hW hl.1 (c_X7_ofL l X G (i := i) (w := 4) (hi := hi) (hw := (by decide)) (hres := rfl)) (xF_mo0).1 (xF_mo0).2.1 (by decide) rfl xw_198 xw_199 xw_200 xw_5 xw_201 hdV_yX7_ofL ⟨Nat.le_of_ble_eq_true rfl, Nat.le_of_ble_eq_true rfl⟩ rfl (Nat.le_of_ble_eq_true rfl) ⟨Nat.le_refl _, Nat.le_refl _⟩ dX7_fade_38 (fun H locs hW => ?_)
      refine lv_eqi (y := ℓ 4 + (-1)) (xrd rfl) ?_
      refine lv_if_ne (tgt := 99) hx hb dX7_fade_41 (by decide) (fun c_3 => ?_) (fun c_3 => ?_)
      · skip
        obtain rfl : (va_up ℓ 4 (ℓ 4 + (-1))) = ℓ' := by (rw [← ho0]) <;> (simp [Mfade, c_1, c_2, c_3])
        rw [hQ0]
        exact x_vret hx hb hret hlocks hW rfl dX7_fade_99
      · skip
        refine lv_iload_n hx hb dX7_fade_44 rfl (lv_at hl 0 rfl) ?_
        refine lv_iconst (v := 2) hx hb dX7_fade_45 (by decide) ?_
        refine lv_icmp_ne (tgt := 62) hx hb dX7_fade_46 (by decide) (fun c_4 => ?_) (fun c_4 => absurd c_4 c_2)
        refine lv_iconst (v := 0) hx hb dX7_fade_62 (by decide) ?_
        refine lv_istore_n (lv' := [(3, .int 0), (2, .int (ℓ 2)), (0, .ref (xB X + xkey 12 0 0)), (1, .int (nI i))]) hx hb dX7_fade_63 rfl hl (by decide) rfl (fun ls hl => ?_)
        refine lv_aload_n hx hb dX7_fade_64 rfl (lv_at hl 2 rfl) ?_
        refine lv_iload_n hx hb dX7_fade_65 rfl (lv_at hl 3 rfl) ?_
        refine lv_iconst (v := 2) hx hb dX7_fade_66 (by decide) ?_
        refine lv_iload_n hx hb dX7_fade_67 rfl (lv_at hl 0 rfl) ?_
        refine lv_if_eq (tgt := 75) hx hb dX7_fade_68 (by decide) (fun c_5 => ?_) (fun c_5 => absurd rfl c_5)
        refine lv_iconst (v := 0) hx hb dX7_fade_75 (by decide) ?_
        refine x_callV hx hb hml hown hts hK hW hl.1 (c_X7_layL l X G (i := i) (w := 2) (v := 0) (hi := hi) (hw := (by decide)) ) (xF_mo0).1 (xF_mo0).2.1 (by decide) rfl xw_202 xw_203 xw_204 xw_5 xw_205 hdV_yX7_layL ⟨Nat.le_of_ble_eq_true rfl, Nat.le_of_ble_eq_true rfl⟩ rfl (Nat.le_of_ble_eq_true rfl) ⟨Nat.le_refl _, Nat.le_refl _⟩ dX7_fade_76 (fun H locs hW => ?_)
        have hW : XR X G 12 (xMa f sg (va_up L i (va_up (va_up ℓ 4 (ℓ 4 + (-1))) 2 0)) O Y pb pc pd pe pg ph pp pq pt pu) H locs := hW
        refine lv_aload_n hx hb dX7_fade_79 rfl (lv_at hl 2 rfl) ?_
        refine lv_iload_n hx hb dX7_fade_80 rfl (lv_at hl 3 rfl) ?_
        refine lv_iconst (v := 4) hx hb dX7_fade_81 (by decide) ?_
        refine lv_iload_n hx hb dX7_fade_82 rfl (lv_at hl 0 rfl) ?_
        refine lv_if_eq (tgt := 95) hx hb dX7_fade_83 (by decide) (fun c_6 => ?_) (fun c_6 => absurd rfl c_6)
        refine lv_iconst (v := 0) hx hb dX7_fade_95 (by decide) ?_
        refine x_callV hx hb hml hown hts hK hW hl.1 (c_X7_layL l X G (i := i) (w := 4) (v := 0) (hi := hi) (hw := (by decide)) ) (xF_mo0).1 (xF_mo0).2.1 (by decide) rfl xw_202 xw_203 xw_204 xw_5 xw_205 hdV_yX7_layL ⟨Nat.le_of_ble_eq_true rfl, Nat.le_of_ble_eq_true rfl⟩ rfl (Nat.le_of_ble_eq_true rfl) ⟨Nat.le_refl _, Nat.le_refl _⟩ dX7_fade_96 (fun H locs hW => ?_)
        have hW : XR X G 12 (xMa f sg (va_up L i (va_up (va_up (va_up ℓ 4 (ℓ 4 + (-1))) 2 0) 4 0)) O Y pb pc pd pe pg ph pp pq pt pu) H locs := hW
        obtain rfl : (va_up (va_up (va_up ℓ 4 (ℓ 4 + (-1))) 2 0) 4 0) = ℓ' := by (rw [← ho0]) <;> (simp [Mfade, c_1, c_2, c_3, c_4, c_5, c_6])
        rw [hQ0]
        exact x_vret hx hb hret hlocks hW rfl dX7_fade_99
    · skip
      refine lv_aload_n hx hb dX7_fade_16 rfl (lv_at hl 1 rfl) ?_
      refine lv_iload_n hx hb dX7_fade_17 rfl (lv_at hl 2 rfl) ?_
      refine lv_bipush (v := 12) hx hb dX7_fade_18 (by decide) ?_
      refine x_callV hx hb hml hown hts hK hW hl.1 (c_X7_ofL l X G (i := i) (w := 12) (hi := hi) (hw := (by decide)) (hres := rfl)) (xF_mo0).1 (xF_mo0).2.1 (by decide) rfl xw_198 xw_199 xw_200 xw_5 xw_201 hdV_yX7_ofL ⟨Nat.le_of_ble_eq_true rfl, Nat.le_of_ble_eq_true rfl⟩ rfl (Nat.le_of_ble_eq_true rfl) ⟨Nat.le_refl _, Nat.le_refl _⟩ dX7_fade_20 (fun H locs hW => ?_)
      refine lv_eqi (y := ℓ 12) (xrd rfl) ?_
      refine lv_iconst (v := 1) hx hb dX7_fade_23 (by decide) ?_
      refine lv_icmp_ne (tgt := 28) hx hb dX7_fade_24 (by decide) (fun c_7 => ?_) (fun c_7 => ?_)
      · skip
        refine lv_aload_n hx hb dX7_fade_28 rfl (lv_at hl 1 rfl) ?_
        refine lv_iload_n hx hb dX7_fade_29 rfl (lv_at hl 2 rfl) ?_
        refine lv_iconst (v := 4) hx hb dX7_fade_30 (by decide) ?_
        refine lv_iconst (v := (-1)) hx hb dX7_fade_31 (by decide) ?_
        refine x_callV hx hb hml hown hts hK hW hl.1 (c_X7_moreL l X G (i := i) (w := 4) (v := (-1)) (hi := hi) (hw := (by decide)) ) (xF_mo0).1 (xF_mo0).2.1 (by decide) rfl xw_377 xw_378 xw_379 xw_5 xw_380 hdV_yX7_moreL ⟨Nat.le_of_ble_eq_true rfl, Nat.le_of_ble_eq_true rfl⟩ rfl (Nat.le_of_ble_eq_true rfl) ⟨Nat.le_refl _, Nat.le_refl _⟩ dX7_fade_32 (fun H locs hW => ?_)
        have hW : XR X G 12 (xMa f sg (va_up L i (va_up ℓ 4 (ℓ 4 + (-1)))) O Y pb pc pd pe pg ph pp pq pt pu) H locs := hW
        refine lv_aload_n hx hb dX7_fade_35 rfl (lv_at hl 1 rfl) ?_
        refine lv_iload_n hx hb dX7_fade_36 rfl (lv_at hl 2 rfl) ?_
        refine lv_iconst (v := 4) hx hb dX7_fade_37 (by decide) ?_
        refine x_callV hx hb hml hown hts hK hW hl.1 (c_X7_ofL l X G (i := i) (w := 4) (hi := hi) (hw := (by decide)) (hres := rfl)) (xF_mo0).1 (xF_mo0).2.1 (by decide) rfl xw_198 xw_199 xw_200 xw_5 xw_201 hdV_yX7_ofL ⟨Nat.le_of_ble_eq_true rfl, Nat.le_of_ble_eq_true rfl⟩ rfl (Nat.le_of_ble_eq_true rfl) ⟨Nat.le_refl _, Nat.le_refl _⟩ dX7_fade_38 (fun H locs hW => ?_)
        refine lv_eqi (y := ℓ 4 + (-1)) (xrd rfl) ?_
        refine lv_if_ne (tgt := 99) hx hb dX7_fade_41 (by decide) (fun c_8 => ?_) (fun c_8 => ?_)
        · skip
          obtain rfl : (va_up ℓ 4 (ℓ 4 + (-1))) = ℓ' := by (rw [← ho0]) <;> (simp [Mfade, c_1, c_2, c_7, c_8])
          rw [hQ0]
          exact x_vret hx hb hret hlocks hW rfl dX7_fade_99
        · skip
          refine lv_iload_n hx hb dX7_fade_44 rfl (lv_at hl 0 rfl) ?_
          refine lv_iconst (v := 2) hx hb dX7_fade_45 (by decide) ?_
          refine lv_icmp_ne (tgt := 62) hx hb dX7_fade_46 (by decide) (fun c_9 => absurd c_2 c_9) (fun c_9 => ?_)
          refine lv_aload_n hx hb dX7_fade_49 rfl (lv_at hl 1 rfl) ?_
          refine r_getr (C := RX7) (T := TX7) hx hb hts hown hK hW (xF_mo0).1 (xF_mo0).2.1 inlX7 rfl (by decide) 0 (by decide) (show xro (xkey 12 0 0) 0 = some (xkey 12 1 0) from by decide +kernel) xw_79 rfl dX7_fade_50 ?_
          refine lv_iconst (v := 3) hx hb dX7_fade_53 (by decide) ?_
          refine r_iald hx hb hK hW (N := 440) (xF_mo1) 3 (by decide) (by decide) (by decide) (xr_model 1 (by decide) (by decide) 3) (x := sg 3) (xat_s (sg := sg) (L := (va_up L i (va_up ℓ 4 (ℓ 4 + (-1))))) (O := O) (Y := Y) (k := 3) (by omega)) dX7_fade_54 ?_
          refine lv_if_le (tgt := 62) hx hb dX7_fade_55 (by decide) (fun c_10 => ?_) (fun c_10 => ?_)
          · skip
            refine lv_iconst (v := 0) hx hb dX7_fade_62 (by decide) ?_
            refine lv_istore_n (lv' := [(3, .int 0), (2, .int (ℓ 2)), (0, .ref (xB X + xkey 12 0 0)), (1, .int (nI i))]) hx hb dX7_fade_63 rfl hl (by decide) rfl (fun ls hl => ?_)
            refine lv_aload_n hx hb dX7_fade_64 rfl (lv_at hl 2 rfl) ?_
            refine lv_iload_n hx hb dX7_fade_65 rfl (lv_at hl 3 rfl) ?_
            refine lv_iconst (v := 2) hx hb dX7_fade_66 (by decide) ?_
            refine lv_iload_n hx hb dX7_fade_67 rfl (lv_at hl 0 rfl) ?_
            refine lv_if_eq (tgt := 75) hx hb dX7_fade_68 (by decide) (fun c_11 => ?_) (fun c_11 => absurd rfl c_11)
            refine lv_iconst (v := 0) hx hb dX7_fade_75 (by decide) ?_
            refine x_callV hx hb hml hown hts hK hW hl.1 (c_X7_layL l X G (i := i) (w := 2) (v := 0) (hi := hi) (hw := (by decide)) ) (xF_mo0).1 (xF_mo0).2.1 (by decide) rfl xw_202 xw_203 xw_204 xw_5 xw_205 hdV_yX7_layL ⟨Nat.le_of_ble_eq_true rfl, Nat.le_of_ble_eq_true rfl⟩ rfl (Nat.le_of_ble_eq_true rfl) ⟨Nat.le_refl _, Nat.le_refl _⟩ dX7_fade_76 (fun H locs hW => ?_)
            have hW : XR X G 12 (xMa f sg (va_up L i (va_up (va_up ℓ 4 (ℓ 4 + (-1))) 2 0)) O Y pb pc pd pe pg ph pp pq pt pu) H locs := hW
            refine lv_aload_n hx hb dX7_fade_79 rfl (lv_at hl 2 rfl) ?_
            refine lv_iload_n hx hb dX7_fade_80 rfl (lv_at hl 3 rfl) ?_
            refine lv_iconst (v := 4) hx hb dX7_fade_81 (by decide) ?_
            refine lv_iload_n hx hb dX7_fade_82 rfl (lv_at hl 0 rfl) ?_
            refine lv_if_eq (tgt := 95) hx hb dX7_fade_83 (by decide) (fun c_12 => ?_) (fun c_12 => absurd rfl c_12)
            refine lv_iconst (v := 0) hx hb dX7_fade_95 (by decide) ?_
            refine x_callV hx hb hml hown hts hK hW hl.1 (c_X7_layL l X G (i := i) (w := 4) (v := 0) (hi := hi) (hw := (by decide)) ) (xF_mo0).1 (xF_mo0).2.1 (by decide) rfl xw_202 xw_203 xw_204 xw_5 xw_205 hdV_yX7_layL ⟨Nat.le_of_ble_eq_true rfl, Nat.le_of_ble_eq_true rfl⟩ rfl (Nat.le_of_ble_eq_true rfl) ⟨Nat.le_refl _, Nat.le_refl _⟩ dX7_fade_96 (fun H locs hW => ?_)
            have hW : XR X G 12 (xMa f sg (va_up L i (va_up (va_up (va_up ℓ 4 (ℓ 4 + (-1))) 2 0) 4 0)) O Y pb pc pd pe pg ph pp pq pt pu) H locs := hW
            obtain rfl : (va_up (va_up (va_up ℓ 4 (ℓ 4 + (-1))) 2 0) 4 0) = ℓ' := by (rw [← ho0]) <;> (simp [Mfade, c_1, c_2, c_7, c_8, c_9, c_10, Int32.not_lt.mpr c_10, c_11, c_12])
            rw [hQ0]
            exact x_vret hx hb hret hlocks hW rfl dX7_fade_99
          · skip
            refine lv_iconst (v := 1) hx hb dX7_fade_58 (by decide) ?_
            refine lv_goto (tgt := 63) hx hb dX7_fade_59 (by decide) ?_
            refine lv_istore_n (lv' := [(3, .int 1), (2, .int (ℓ 2)), (0, .ref (xB X + xkey 12 0 0)), (1, .int (nI i))]) hx hb dX7_fade_63 rfl hl (by decide) rfl (fun ls hl => ?_)
            refine lv_aload_n hx hb dX7_fade_64 rfl (lv_at hl 2 rfl) ?_
            refine lv_iload_n hx hb dX7_fade_65 rfl (lv_at hl 3 rfl) ?_
            refine lv_iconst (v := 2) hx hb dX7_fade_66 (by decide) ?_
            refine lv_iload_n hx hb dX7_fade_67 rfl (lv_at hl 0 rfl) ?_
            refine lv_if_eq (tgt := 75) hx hb dX7_fade_68 (by decide) (fun c_13 => absurd c_13 (by decide)) (fun c_13 => ?_)
            refine lv_iconst (v := 1) hx hb dX7_fade_71 (by decide) ?_
            refine lv_goto (tgt := 76) hx hb dX7_fade_72 (by decide) ?_
            refine x_callV hx hb hml hown hts hK hW hl.1 (c_X7_layL l X G (i := i) (w := 2) (v := 1) (hi := hi) (hw := (by decide)) ) (xF_mo0).1 (xF_mo0).2.1 (by decide) rfl xw_202 xw_203 xw_204 xw_5 xw_205 hdV_yX7_layL ⟨Nat.le_of_ble_eq_true rfl, Nat.le_of_ble_eq_true rfl⟩ rfl (Nat.le_of_ble_eq_true rfl) ⟨Nat.le_refl _, Nat.le_refl _⟩ dX7_fade_76 (fun H locs hW => ?_)
            have hW : XR X G 12 (xMa f sg (va_up L i (va_up (va_up ℓ 4 (ℓ 4 + (-1))) 2 1)) O Y pb pc pd pe pg ph pp pq pt pu) H locs := hW
            refine lv_aload_n hx hb dX7_fade_79 rfl (lv_at hl 2 rfl) ?_
            refine lv_iload_n hx hb dX7_fade_80 rfl (lv_at hl 3 rfl) ?_
            refine lv_iconst (v := 4) hx hb dX7_fade_81 (by decide) ?_
            refine lv_iload_n hx hb dX7_fade_82 rfl (lv_at hl 0 rfl) ?_
            refine lv_if_eq (tgt := 95) hx hb dX7_fade_83 (by decide) (fun c_14 => absurd c_14 (by decide)) (fun c_14 => ?_)
            refine lv_aload_n hx hb dX7_fade_86 rfl (lv_at hl 2 rfl) ?_
            refine r_getr (C := RX7) (T := TX7) hx hb hts hown hK hW (xF_mo0).1 (xF_mo0).2.1 inlX7 rfl (by decide) 0 (by decide) (show xro (xkey 12 0 0) 0 = some (xkey 12 1 0) from by decide +kernel) xw_79 rfl dX7_fade_87 ?_
            refine lv_iconst (v := 3) hx hb dX7_fade_90 (by decide) ?_
            refine r_iald hx hb hK hW (N := 440) (xF_mo1) 3 (by decide) (by decide) (by decide) (xr_model 1 (by decide) (by decide) 3) (x := sg 3) (xat_s (sg := sg) (L := (va_up L i (va_up (va_up ℓ 4 (ℓ 4 + (-1))) 2 1))) (O := O) (Y := Y) (k := 3) (by omega)) dX7_fade_91 ?_
            refine lv_goto (tgt := 96) hx hb dX7_fade_92 (by decide) ?_
            refine x_callV hx hb hml hown hts hK hW hl.1 (c_X7_layL l X G (i := i) (w := 4) (v := sg 3) (hi := hi) (hw := (by decide)) ) (xF_mo0).1 (xF_mo0).2.1 (by decide) rfl xw_202 xw_203 xw_204 xw_5 xw_205 hdV_yX7_layL ⟨Nat.le_of_ble_eq_true rfl, Nat.le_of_ble_eq_true rfl⟩ rfl (Nat.le_of_ble_eq_true rfl) ⟨Nat.le_refl _, Nat.le_refl _⟩ dX7_fade_96 (fun H locs hW => ?_)
            have hW : XR X G 12 (xMa f sg (va_up L i (va_up (va_up (va_up ℓ 4 (ℓ 4 + (-1))) 2 1) 4 (sg 3))) O Y pb pc pd pe pg ph pp pq pt pu) H locs := hW
            obtain rfl : (va_up (va_up (va_up ℓ 4 (ℓ 4 + (-1))) 2 1) 4 (sg 3)) = ℓ' := by (rw [← ho0]) <;> (simp [Mfade, c_1, c_2, c_7, c_8, c_9, c_10, Int32.not_le.mp c_10, c_13, c_14])
            rw [hQ0]
            exact x_vret hx hb hret hlocks hW rfl dX7_fade_99
      · skip
        obtain rfl : ℓ = ℓ' := by (rw [← ho0]) <;> (simp [Mfade, c_1, c_2, c_7])
        rw [hQ0]
        exact x_vret hx hb hret hlocks hW rfl dX7_fade_27
set_option maxHeartbeats 4000000 in
set_option maxRecDepth 100000 in
theorem c_X7_account (l : Launch) (X : xX) (G : xG) {f sg pb pc pd pe pg ph pp pq pt pu : Nat → Int32} {L O Y : Nat → Nat → Int32} {n nh nw : Nat} (hn : sg 7 = nI n) (hn16 : n ≤ 16) (hh : sg 8 = nI nh) (hh8 : nh ≤ 8) (hw : sg 9 = nI nw) (hw8 : nw ≤ 8) {L' : Nat → Nat → Int32} (ho0 : ((Mdark n nw (MUses n L) Y).1) = L') {O' : Nat → Nat → Int32} (ho1 : (MDist n nh (Mdark n nw (MUses n L) Y).1 O) = O') {Y' : Nat → Nat → Int32} (ho2 : ((Mdark n nw (MUses n L) Y).2) = Y') : XC l yX7_account cX7_account 3 none 3 69 0 0 X xsh [.ref (xB X + xkey 12 0 0)] 603 603 (xval (xB X) (va_up G 12 (xMa f sg L O Y pb pc pd pe pg ph pp pq pt pu))) (xval (xB X) (va_up G 12 (xMa f sg L' O' Y' pb pc pd pe pg ph pp pq pt pu))) none := by
  refine XC.of RX7 "account" [(0, .ref (xB X + xkey 12 0 0))] (by decide) rfl rfl (Nat.le_of_ble_eq_true rfl) rfl ?_
  intro p e s m args below meth c ls hx hb hret hml hts hown hlocks hnm hK hW hl
  have hW : XR X G 12 (xMa f sg L O Y pb pc pd pe pg ph pp pq pt pu) s.heap [] := hW
  obtain ⟨Q0, hQ0⟩ : ∃ z, z = MQ below (xQ X xsh 603 (xval (xB X) (va_up G 12 (xMa f sg L' O' Y' pb pc pd pe pg ph pp pq pt pu))) none) args s 0 0 (fun q => xB X ≤ q) := ⟨_, rfl⟩
  rw [← hQ0]
  refine lv_iconst (v := nI 0) hx hb dX7_account_0 (by decide) ?_
  refine lv_istore_n (lv' := [(1, .int (nI 0)), (0, .ref (xB X + xkey 12 0 0))]) hx hb dX7_account_1 rfl hl (by decide) rfl (fun ls hl => ?_)
  have loop_2 : ∀ (k_2 i : Nat) (La : Nat → Nat → Int32), i + k_2 = n → xloop (fun i M => va_up M i (Muse (M i))) k_2 i La = xloop (fun i M => va_up M i (Muse (M i))) n 0 L → ∀ (H : Heap) (locs : List Loc) (ls : Array Slot), XR X G 12 (xMa f sg La O Y pb pc pd pe pg ph pp pq pt pu) H locs → lv_has ls 3 [(0, .ref (xB X + xkey 12 0 0)), (1, .int (nI i))] → W p l e { frames := 3, cells := 0, slots := 0, locals := 69 } s m args below meth c H locs 0 0 Q0 (F0 m 2 ls []) := by
    intro k_2
    induction k_2 with
    | zero =>
      intro i La hik_2  hsp_2 H locs ls hW hl
      refine lv_iload_n hx hb dX7_account_2 rfl (lv_at hl 1 rfl) ?_
      refine lv_aload_n hx hb dX7_account_3 rfl (lv_at hl 0 rfl) ?_
      refine r_getr (C := RX7) (T := TX7) hx hb hts hown hK hW (xF_mo0).1 (xF_mo0).2.1 inlX7 rfl (by decide) 0 (by decide) (show xro (xkey 12 0 0) 0 = some (xkey 12 1 0) from by decide +kernel) xw_79 rfl dX7_account_4 ?_
      refine lv_bipush (v := 7) hx hb dX7_account_7 (by decide) ?_
      refine r_iald hx hb hK hW (N := 440) (xF_mo1) 7 (by decide) (by decide) (by decide) (xr_model 1 (by decide) (by decide) 7) (x := nI n) ((xat_s (sg := sg) (L := La) (O := O) (Y := Y) (k := 7) (by omega)).trans hn) dX7_account_9 ?_
      refine lv_icmp_ge (tgt := 55) hx hb dX7_account_10 (by decide) (fun c_1 => ?_) (fun c_1 => absurd (xge_refl (by omega)) c_1)
      refine lv_iconst (v := nI 0) hx hb dX7_account_55 (by decide) ?_
      refine lv_istore_n (lv' := [(1, .int (nI 0)), (0, .ref (xB X + xkey 12 0 0))]) hx hb dX7_account_56 rfl hl (by decide) rfl (fun ls hl => ?_)
      have loop_57 : ∀ (k_57 w : Nat) (Lb : Nat → Nat → Int32) (Ya : Nat → Nat → Int32), w + k_57 = nw → xloop (Mdark1 n) k_57 w (Lb, Ya) = xloop (Mdark1 n) nw 0 (La, Y) → ∀ (H : Heap) (locs : List Loc) (ls : Array Slot), XR X G 12 (xMa f sg Lb O Ya pb pc pd pe pg ph pp pq pt pu) H locs → lv_has ls 3 [(0, .ref (xB X + xkey 12 0 0)), (1, .int (nI w))] → W p l e { frames := 3, cells := 0, slots := 0, locals := 69 } s m args below meth c H locs 0 0 Q0 (F0 m 57 ls []) := by
        intro k_57
        induction k_57 with
        | zero =>
          intro w Lb Ya hik_57  hsp_57 H locs ls hW hl
          refine lv_iload_n hx hb dX7_account_57 rfl (lv_at hl 1 rfl) ?_
          refine lv_aload_n hx hb dX7_account_58 rfl (lv_at hl 0 rfl) ?_
          refine r_getr (C := RX7) (T := TX7) hx hb hts hown hK hW (xF_mo0).1 (xF_mo0).2.1 inlX7 rfl (by decide) 0 (by decide) (show xro (xkey 12 0 0) 0 = some (xkey 12 1 0) from by decide +kernel) xw_79 rfl dX7_account_59 ?_
          refine lv_bipush (v := 9) hx hb dX7_account_62 (by decide) ?_
          refine r_iald hx hb hK hW (N := 440) (xF_mo1) 9 (by decide) (by decide) (by decide) (xr_model 1 (by decide) (by decide) 9) (x := nI nw) ((xat_s (sg := sg) (L := Lb) (O := O) (Y := Ya) (k := 9) (by omega)).trans hw) dX7_account_64 ?_
          refine lv_icmp_ge (tgt := 132) hx hb dX7_account_65 (by decide) (fun c_2 => ?_) (fun c_2 => absurd (xge_refl (by omega)) c_2)
          refine lv_iconst (v := nI 0) hx hb dX7_account_132 (by decide) ?_
          refine lv_istore_n (lv' := [(1, .int (nI 0)), (0, .ref (xB X + xkey 12 0 0))]) hx hb dX7_account_133 rfl hl (by decide) rfl (fun ls hl => ?_)
          have loop_134 : ∀ (k_134 h : Nat) (Oa : Nat → Nat → Int32), h + k_134 = nh → xloop (Mdist1 n Lb) k_134 h Oa = xloop (Mdist1 n Lb) nh 0 O → ∀ (H : Heap) (locs : List Loc) (ls : Array Slot), XR X G 12 (xMa f sg Lb Oa Ya pb pc pd pe pg ph pp pq pt pu) H locs → lv_has ls 3 [(0, .ref (xB X + xkey 12 0 0)), (1, .int (nI h))] → W p l e { frames := 3, cells := 0, slots := 0, locals := 69 } s m args below meth c H locs 0 0 Q0 (F0 m 134 ls []) := by
            intro k_134
            induction k_134 with
            | zero =>
              intro h Oa hik_134  hsp_134 H locs ls hW hl
              refine lv_iload_n hx hb dX7_account_134 rfl (lv_at hl 1 rfl) ?_
              refine lv_aload_n hx hb dX7_account_135 rfl (lv_at hl 0 rfl) ?_
              refine r_getr (C := RX7) (T := TX7) hx hb hts hown hK hW (xF_mo0).1 (xF_mo0).2.1 inlX7 rfl (by decide) 0 (by decide) (show xro (xkey 12 0 0) 0 = some (xkey 12 1 0) from by decide +kernel) xw_79 rfl dX7_account_136 ?_
              refine lv_bipush (v := 8) hx hb dX7_account_139 (by decide) ?_
              refine r_iald hx hb hK hW (N := 440) (xF_mo1) 8 (by decide) (by decide) (by decide) (xr_model 1 (by decide) (by decide) 8) (x := nI nh) ((xat_s (sg := sg) (L := Lb) (O := Oa) (Y := Ya) (k := 8) (by omega)).trans hh) dX7_account_141 ?_
              refine lv_icmp_ge (tgt := 181) hx hb dX7_account_142 (by decide) (fun c_3 => ?_) (fun c_3 => absurd (xge_refl (by omega)) c_3)
              obtain rfl : Lb = L' := by (rw [← ho0]) <;> (have e1 : La = MUses n L := hsp_2; have e2 : (Lb, Ya) = Mdark n nw La Y := hsp_57; first | (rw [← e1, ← e2]; exact hsp_134) | rw [← e1, ← e2])
              obtain rfl : Oa = O' := by (rw [← ho1]) <;> (have e1 : La = MUses n L := hsp_2; have e2 : (Lb, Ya) = Mdark n nw La Y := hsp_57; first | (rw [← e1, ← e2]; exact hsp_134) | rw [← e1, ← e2])
              obtain rfl : Ya = Y' := by (rw [← ho2]) <;> (have e1 : La = MUses n L := hsp_2; have e2 : (Lb, Ya) = Mdark n nw La Y := hsp_57; first | (rw [← e1, ← e2]; exact hsp_134) | rw [← e1, ← e2])
              rw [hQ0]
              exact x_vret hx hb hret hlocks hW rfl dX7_account_181
            | succ k_134 ih_134 =>
              intro h Oa hik_134  hsp_134 H locs ls hW hl
              refine lv_iload_n hx hb dX7_account_134 rfl (lv_at hl 1 rfl) ?_
              refine lv_aload_n hx hb dX7_account_135 rfl (lv_at hl 0 rfl) ?_
              refine r_getr (C := RX7) (T := TX7) hx hb hts hown hK hW (xF_mo0).1 (xF_mo0).2.1 inlX7 rfl (by decide) 0 (by decide) (show xro (xkey 12 0 0) 0 = some (xkey 12 1 0) from by decide +kernel) xw_79 rfl dX7_account_136 ?_
              refine lv_bipush (v := 8) hx hb dX7_account_139 (by decide) ?_
              refine r_iald hx hb hK hW (N := 440) (xF_mo1) 8 (by decide) (by decide) (by decide) (xr_model 1 (by decide) (by decide) 8) (x := nI nh) ((xat_s (sg := sg) (L := Lb) (O := Oa) (Y := Ya) (k := 8) (by omega)).trans hh) dX7_account_141 ?_
              refine lv_icmp_ge (tgt := 181) hx hb dX7_account_142 (by decide) (fun c_4 => absurd c_4 (nI_ge (by omega) (by omega))) (fun c_4 => ?_)
              refine lv_aload_n hx hb dX7_account_145 rfl (lv_at hl 0 rfl) ?_
              refine r_getr (C := RX7) (T := TX7) hx hb hts hown hK hW (xF_mo0).1 (xF_mo0).2.1 inlX7 rfl (by decide) 0 (by decide) (show xro (xkey 12 0 0) 0 = some (xkey 12 1 0) from by decide +kernel) xw_79 rfl dX7_account_146 ?_
              refine lv_sipush (v := nI 218) hx hb dX7_account_149 (by decide) ?_
              refine lv_iconst (v := nI 3) hx hb dX7_account_152 (by decide) ?_
              refine lv_iload_n hx hb dX7_account_153 rfl (lv_at hl 1 rfl) ?_
              refine lv_imul hx hb dX7_account_154 ?_
              refine lv_eqi (y := nI (3 * h)) (xnI_mul 3 h) ?_
              refine lv_iadd hx hb dX7_account_155 ?_
              refine lv_eqi (y := nI (218 + 3 * h)) (nI_add 218 (3 * h)) ?_
              refine lv_iconst (v := nI 1) hx hb dX7_account_156 (by decide) ?_
              refine lv_iadd hx hb dX7_account_157 ?_
              refine lv_eqi (y := nI (218 + 3 * h + 1)) (nI_add (218 + 3 * h) 1) ?_
              refine lv_dup2_11 hx hb dX7_account_158 rfl rfl ?_
              refine r_iald hx hb hK hW (N := 440) (xF_mo1) (218 + 3 * h + 1) (by omega) (by decide) rfl (xr_model 1 (by decide) (by decide) (218 + 3 * h + 1)) (x := Oa h 1) (xat_O (sg := sg) (L := Lb) (O := Oa) (Y := Ya) (i := h) (w := 1) (by omega) (by omega)) dX7_account_159 ?_
              refine lv_aload_n hx hb dX7_account_160 rfl (lv_at hl 0 rfl) ?_
              refine lv_iload_n hx hb dX7_account_161 rfl (lv_at hl 1 rfl) ?_
              refine x_callV hx hb hml hown hts hK hW hl.1 (c_X7_isDisturbed l X G (n := n) (a := h) (hn := (by assumption)) (hn16 := (by assumption)) (ha := (by omega)) (hres := rfl)) (xF_mo0).1 (xF_mo0).2.1 (by decide) rfl xw_546 xw_547 xw_548 xw_5 xw_549 hdV_yX7_isDisturbed ⟨Nat.le_of_ble_eq_true rfl, Nat.le_of_ble_eq_true rfl⟩ rfl (Nat.le_of_ble_eq_true rfl) ⟨Nat.le_refl _, Nat.le_refl _⟩ dX7_account_162 (fun H locs hW => ?_)
              refine lv_if_eq (tgt := 172) hx hb dX7_account_165 (by decide) (fun c_5 => ?_) (fun c_5 => ?_)
              · skip
                refine lv_iconst (v := 0) hx hb dX7_account_172 (by decide) ?_
                refine lv_iadd hx hb dX7_account_173 ?_
                have hW := XR.mfoc3 hW h
                refine r_iast hx hb hK hW (N := 440) (xF_mo1) (218 + 3 * h + 1) (by omega) (by decide) rfl (xr_model 1 (by decide) (by decide) (218 + 3 * h + 1)) (xMa3f (i := h) (w := 1) (by omega) (by omega)) dX7_account_174 (fun H locs hW => ?_)
                refine lv_iinc (v := nI (h + 1)) (lv' := [(1, .int (nI (h + 1))), (0, .ref (xB X + xkey 12 0 0))]) hx hb dX7_account_175 hl (k := 1) rfl (nI_1 h) (by decide) rfl (fun ls hl => ?_)
                refine lv_goto (tgt := 134) hx hb dX7_account_178 (by decide) ?_
                refine ih_134 (h + 1) (va_up Oa h (va_up (Oa h) 1 ((Oa h 1) + 0))) (by omega)  ?_ H locs ls hW (lv_sub hl [1, 0] rfl)
                rw [← hsp_134]; simp [xloop, Mdist1, c_1, c_2, c_4, c_5]
              · skip
                refine lv_iconst (v := 1) hx hb dX7_account_168 (by decide) ?_
                refine lv_goto (tgt := 173) hx hb dX7_account_169 (by decide) ?_
                refine lv_iadd hx hb dX7_account_173 ?_
                have hW := XR.mfoc3 hW h
                refine r_iast hx hb hK hW (N := 440) (xF_mo1) (218 + 3 * h + 1) (by omega) (by decide) rfl (xr_model 1 (by decide) (by decide) (218 + 3 * h + 1)) (xMa3f (i := h) (w := 1) (by omega) (by omega)) dX7_account_174 (fun H locs hW => ?_)
                refine lv_iinc (v := nI (h + 1)) (lv' := [(1, .int (nI (h + 1))), (0, .ref (xB X + xkey 12 0 0))]) hx hb dX7_account_175 hl (k := 1) rfl (nI_1 h) (by decide) rfl (fun ls hl => ?_)
                refine lv_goto (tgt := 134) hx hb dX7_account_178 (by decide) ?_
                refine ih_134 (h + 1) (va_up Oa h (va_up (Oa h) 1 ((Oa h 1) + 1))) (by omega)  ?_ H locs ls hW (lv_sub hl [1, 0] rfl)
                rw [← hsp_134]; simp [xloop, Mdist1, c_1, c_2, c_4, c_5]
          exact loop_134 nh 0 O (by omega)  rfl _ _ _ hW (lv_sub hl [1, 0] rfl)
        | succ k_57 ih_57 =>
          intro w Lb Ya hik_57  hsp_57 H locs ls hW hl
          refine lv_iload_n hx hb dX7_account_57 rfl (lv_at hl 1 rfl) ?_
          refine lv_aload_n hx hb dX7_account_58 rfl (lv_at hl 0 rfl) ?_
          refine r_getr (C := RX7) (T := TX7) hx hb hts hown hK hW (xF_mo0).1 (xF_mo0).2.1 inlX7 rfl (by decide) 0 (by decide) (show xro (xkey 12 0 0) 0 = some (xkey 12 1 0) from by decide +kernel) xw_79 rfl dX7_account_59 ?_
          refine lv_bipush (v := 9) hx hb dX7_account_62 (by decide) ?_
          refine r_iald hx hb hK hW (N := 440) (xF_mo1) 9 (by decide) (by decide) (by decide) (xr_model 1 (by decide) (by decide) 9) (x := nI nw) ((xat_s (sg := sg) (L := Lb) (O := O) (Y := Ya) (k := 9) (by omega)).trans hw) dX7_account_64 ?_
          refine lv_icmp_ge (tgt := 132) hx hb dX7_account_65 (by decide) (fun c_6 => absurd c_6 (nI_ge (by omega) (by omega))) (fun c_6 => ?_)
          refine lv_aload_n hx hb dX7_account_68 rfl (lv_at hl 0 rfl) ?_
          refine lv_iload_n hx hb dX7_account_69 rfl (lv_at hl 1 rfl) ?_
          refine x_callV hx hb hml hown hts hK hW hl.1 (c_X7_isInStreet l X G (i := w) (hi := (by omega)) (hres := rfl)) (xF_mo0).1 (xF_mo0).2.1 (by decide) rfl xw_282 xw_283 xw_284 xw_5 xw_285 hdV_yX7_isInStreet ⟨Nat.le_of_ble_eq_true rfl, Nat.le_of_ble_eq_true rfl⟩ rfl (Nat.le_of_ble_eq_true rfl) ⟨Nat.le_refl _, Nat.le_refl _⟩ dX7_account_70 (fun H locs hW => ?_)
          refine lv_if_eq (tgt := 126) hx hb dX7_account_73 (by decide) (fun c_7 => ?_) (fun c_7 => ?_)
          · skip
            refine lv_iinc (v := nI (w + 1)) (lv' := [(1, .int (nI (w + 1))), (0, .ref (xB X + xkey 12 0 0))]) hx hb dX7_account_126 hl (k := 1) rfl (nI_1 w) (by decide) rfl (fun ls hl => ?_)
            refine lv_goto (tgt := 57) hx hb dX7_account_129 (by decide) ?_
            refine ih_57 (w + 1) Lb Ya (by omega)  ?_ H locs ls hW (lv_sub hl [1, 0] rfl)
            rw [← hsp_57]; simp [xloop, Mdark1, Mblame, c_1, c_6, c_7]
          · skip
            refine lv_aload_n hx hb dX7_account_76 rfl (lv_at hl 0 rfl) ?_
            refine lv_aload_n hx hb dX7_account_77 rfl (lv_at hl 0 rfl) ?_
            refine lv_iload_n hx hb dX7_account_78 rfl (lv_at hl 1 rfl) ?_
            refine lv_iconst (v := 0) hx hb dX7_account_79 (by decide) ?_
            refine x_callV hx hb hml hown hts hK hW hl.1 (c_X7_ofW l X G (i := w) (w := 0) (hi := (by omega)) (hw := (by decide)) (hres := rfl)) (xF_mo0).1 (xF_mo0).2.1 (by decide) rfl xw_278 xw_279 xw_280 xw_5 xw_281 hdV_yX7_ofW ⟨Nat.le_of_ble_eq_true rfl, Nat.le_of_ble_eq_true rfl⟩ rfl (Nat.le_of_ble_eq_true rfl) ⟨Nat.le_refl _, Nat.le_refl _⟩ dX7_account_80 (fun H locs hW => ?_)
            refine x_callV hx hb hml hown hts hK hW hl.1 (c_X7_lightOn l X G (n := n) (x := Ya w 0) (hn := (by assumption)) (hn16 := (by assumption)) (hres := rfl)) (xF_mo0).1 (xF_mo0).2.1 (by decide) rfl xw_534 xw_535 xw_536 xw_5 xw_537 hdV_yX7_lightOn ⟨Nat.le_of_ble_eq_true rfl, Nat.le_of_ble_eq_true rfl⟩ rfl (Nat.le_of_ble_eq_true rfl) ⟨Nat.le_refl _, Nat.le_refl _⟩ dX7_account_83 (fun H locs hW => ?_)
            refine lv_if_ne (tgt := 126) hx hb dX7_account_86 (by decide) (fun c_8 => ?_) (fun c_8 => ?_)
            · skip
              refine lv_iinc (v := nI (w + 1)) (lv' := [(1, .int (nI (w + 1))), (0, .ref (xB X + xkey 12 0 0))]) hx hb dX7_account_126 hl (k := 1) rfl (nI_1 w) (by decide) rfl (fun ls hl => ?_)
              refine lv_goto (tgt := 57) hx hb dX7_account_129 (by decide) ?_
              refine ih_57 (w + 1) Lb Ya (by omega)  ?_ H locs ls hW (lv_sub hl [1, 0] rfl)
              rw [← hsp_57]; simp [xloop, Mdark1, Mblame, c_1, c_6, c_7, c_8]
            · skip
              refine lv_aload_n hx hb dX7_account_89 rfl (lv_at hl 0 rfl) ?_
              refine lv_iload_n hx hb dX7_account_90 rfl (lv_at hl 1 rfl) ?_
              refine lv_iconst (v := 5) hx hb dX7_account_91 (by decide) ?_
              refine lv_aload_n hx hb dX7_account_92 rfl (lv_at hl 0 rfl) ?_
              refine lv_iload_n hx hb dX7_account_93 rfl (lv_at hl 1 rfl) ?_
              refine lv_iconst (v := 5) hx hb dX7_account_94 (by decide) ?_
              refine x_callV hx hb hml hown hts hK hW hl.1 (c_X7_ofW l X G (i := w) (w := 5) (hi := (by omega)) (hw := (by decide)) (hres := rfl)) (xF_mo0).1 (xF_mo0).2.1 (by decide) rfl xw_278 xw_279 xw_280 xw_5 xw_281 hdV_yX7_ofW ⟨Nat.le_of_ble_eq_true rfl, Nat.le_of_ble_eq_true rfl⟩ rfl (Nat.le_of_ble_eq_true rfl) ⟨Nat.le_refl _, Nat.le_refl _⟩ dX7_account_95 (fun H locs hW => ?_)
              refine lv_iconst (v := 1) hx hb dX7_account_98 (by decide) ?_
              refine lv_iadd hx hb dX7_account_99 ?_
              have hW := XR.mfoc4 hW w
              refine x_callV hx hb hml hown hts hK hW hl.1 (c_X7_layW l X G (i := w) (w := 5) (v := (Ya w 5) + 1) (hi := (by omega)) (hw := (by decide)) ) (xF_mo0).1 (xF_mo0).2.1 (by decide) rfl xw_246 xw_247 xw_248 xw_5 xw_249 hdV_yX7_layW ⟨Nat.le_of_ble_eq_true rfl, Nat.le_of_ble_eq_true rfl⟩ rfl (Nat.le_of_ble_eq_true rfl) ⟨Nat.le_refl _, Nat.le_refl _⟩ dX7_account_100 (fun H locs hW => ?_)
              have hW : XR X G 12 (xMa f sg Lb O (va_up Ya w (va_up (Ya w) 5 ((Ya w 5) + 1))) pb pc pd pe pg ph pp pq pt pu) H locs := hW
              refine lv_aload_n hx hb dX7_account_103 rfl (lv_at hl 0 rfl) ?_
              refine lv_aload_n hx hb dX7_account_104 rfl (lv_at hl 0 rfl) ?_
              refine lv_iload_n hx hb dX7_account_105 rfl (lv_at hl 1 rfl) ?_
              refine lv_iconst (v := 0) hx hb dX7_account_106 (by decide) ?_
              refine x_callV hx hb hml hown hts hK hW hl.1 (c_X7_ofW l X G (i := w) (w := 0) (hi := (by omega)) (hw := (by decide)) (hres := rfl)) (xF_mo0).1 (xF_mo0).2.1 (by decide) rfl xw_278 xw_279 xw_280 xw_5 xw_281 hdV_yX7_ofW ⟨Nat.le_of_ble_eq_true rfl, Nat.le_of_ble_eq_true rfl⟩ rfl (Nat.le_of_ble_eq_true rfl) ⟨Nat.le_refl _, Nat.le_refl _⟩ dX7_account_107 (fun H locs hW => ?_)
              refine lv_eqi (y := (Ya w) 0) (xrd rfl) ?_
              refine x_callV hx hb hml hown hts hK hW hl.1 (c_X7_nearestTo l X G (n := n) (x := (Ya w) 0) (hn := (by assumption)) (hn16 := (by assumption)) (hres := rfl)) (xF_mo0).1 (xF_mo0).2.1 (by decide) rfl xw_542 xw_543 xw_544 xw_5 xw_545 hdV_yX7_nearestTo ⟨Nat.le_of_ble_eq_true rfl, Nat.le_of_ble_eq_true rfl⟩ rfl (Nat.le_of_ble_eq_true rfl) ⟨Nat.le_refl _, Nat.le_refl _⟩ dX7_account_110 (fun H locs hW => ?_)
              refine lv_istore_n (lv' := [(2, .int (Mnear ((Ya w) 0) n Lb)), (0, .ref (xB X + xkey 12 0 0)), (1, .int (nI w))]) hx hb dX7_account_113 rfl hl (by decide) rfl (fun ls hl => ?_)
              refine lv_iload_n hx hb dX7_account_114 rfl (lv_at hl 0 rfl) ?_
              refine lv_if_lt (tgt := 126) hx hb dX7_account_115 (by decide) (fun c_9 => ?_) (fun c_9 => ?_)
              · skip
                refine lv_iinc (v := nI (w + 1)) (lv' := [(1, .int (nI (w + 1))), (2, .int (Mnear ((Ya w) 0) n Lb)), (0, .ref (xB X + xkey 12 0 0))]) hx hb dX7_account_126 hl (k := 2) rfl (nI_1 w) (by decide) rfl (fun ls hl => ?_)
                refine lv_goto (tgt := 57) hx hb dX7_account_129 (by decide) ?_
                refine ih_57 (w + 1) Lb (va_up Ya w (va_up (Ya w) 5 ((Ya w 5) + 1))) (by omega)  ?_ H locs ls hW (lv_sub hl [2, 0] rfl)
                rw [← hsp_57]; simp [xloop, Mdark1, Mblame, c_1, c_6, c_7, c_8, c_9, Int32.not_le.mpr c_9]
              · skip
                refine lv_aload_n hx hb dX7_account_118 rfl (lv_at hl 1 rfl) ?_
                refine lv_iload_n hx hb dX7_account_119 rfl (lv_at hl 0 rfl) ?_
                refine lv_eqi (y := nI (Mnear ((Ya w) 0) n Lb).toNatClampNeg) (Mnear_nat hn16 c_9).1 ?_
                refine lv_bipush (v := 10) hx hb dX7_account_120 (by decide) ?_
                refine lv_iconst (v := 1) hx hb dX7_account_122 (by decide) ?_
                have hW := XR.mfoc2 hW ((Mnear ((Ya w) 0) n Lb).toNatClampNeg)
                refine x_callV hx hb hml hown hts hK hW hl.1 (c_X7_moreL l X G (i := (Mnear ((Ya w) 0) n Lb).toNatClampNeg) (w := 10) (v := 1) (hi := (Mnear_nat hn16 c_9).2) (hw := (by decide)) ) (xF_mo0).1 (xF_mo0).2.1 (by decide) rfl xw_377 xw_378 xw_379 xw_5 xw_380 hdV_yX7_moreL ⟨Nat.le_of_ble_eq_true rfl, Nat.le_of_ble_eq_true rfl⟩ rfl (Nat.le_of_ble_eq_true rfl) ⟨Nat.le_refl _, Nat.le_refl _⟩ dX7_account_123 (fun H locs hW => ?_)
                have hW : XR X G 12 (xMa f sg (va_up Lb ((Mnear ((Ya w) 0) n Lb).toNatClampNeg) (va_up (Lb ((Mnear ((Ya w) 0) n Lb).toNatClampNeg)) 10 ((Lb ((Mnear ((Ya w) 0) n Lb).toNatClampNeg)) 10 + 1))) O (va_up Ya w (va_up (Ya w) 5 ((Ya w 5) + 1))) pb pc pd pe pg ph pp pq pt pu) H locs := hW
                refine lv_iinc (v := nI (w + 1)) (lv' := [(1, .int (nI (w + 1))), (2, .int (Mnear ((Ya w) 0) n Lb)), (0, .ref (xB X + xkey 12 0 0))]) hx hb dX7_account_126 hl (k := 2) rfl (nI_1 w) (by decide) rfl (fun ls hl => ?_)
                refine lv_goto (tgt := 57) hx hb dX7_account_129 (by decide) ?_
                refine ih_57 (w + 1) (va_up Lb ((Mnear ((Ya w) 0) n Lb).toNatClampNeg) (va_up (Lb ((Mnear ((Ya w) 0) n Lb).toNatClampNeg)) 10 ((Lb ((Mnear ((Ya w) 0) n Lb).toNatClampNeg)) 10 + 1))) (va_up Ya w (va_up (Ya w) 5 ((Ya w 5) + 1))) (by omega)  ?_ H locs ls hW (lv_sub hl [2, 0] rfl)
                rw [← hsp_57]; simp [xloop, Mdark1, Mblame, c_1, c_6, c_7, c_8, c_9, Int32.not_lt.mp c_9]
      exact loop_57 nw 0 La Y (by omega)  rfl _ _ _ hW (lv_sub hl [1, 0] rfl)
    | succ k_2 ih_2 =>
      intro i La hik_2  hsp_2 H locs ls hW hl
      refine lv_iload_n hx hb dX7_account_2 rfl (lv_at hl 1 rfl) ?_
      refine lv_aload_n hx hb dX7_account_3 rfl (lv_at hl 0 rfl) ?_
      refine r_getr (C := RX7) (T := TX7) hx hb hts hown hK hW (xF_mo0).1 (xF_mo0).2.1 inlX7 rfl (by decide) 0 (by decide) (show xro (xkey 12 0 0) 0 = some (xkey 12 1 0) from by decide +kernel) xw_79 rfl dX7_account_4 ?_
      refine lv_bipush (v := 7) hx hb dX7_account_7 (by decide) ?_
      refine r_iald hx hb hK hW (N := 440) (xF_mo1) 7 (by decide) (by decide) (by decide) (xr_model 1 (by decide) (by decide) 7) (x := nI n) ((xat_s (sg := sg) (L := La) (O := O) (Y := Y) (k := 7) (by omega)).trans hn) dX7_account_9 ?_
      refine lv_icmp_ge (tgt := 55) hx hb dX7_account_10 (by decide) (fun c_10 => absurd c_10 (nI_ge (by omega) (by omega))) (fun c_10 => ?_)
      refine lv_aload_n hx hb dX7_account_13 rfl (lv_at hl 0 rfl) ?_
      refine lv_iload_n hx hb dX7_account_14 rfl (lv_at hl 1 rfl) ?_
      refine lv_bipush (v := 7) hx hb dX7_account_15 (by decide) ?_
      refine lv_aload_n hx hb dX7_account_17 rfl (lv_at hl 0 rfl) ?_
      refine lv_iload_n hx hb dX7_account_18 rfl (lv_at hl 1 rfl) ?_
      refine lv_iconst (v := 2) hx hb dX7_account_19 (by decide) ?_
      refine x_callV hx hb hml hown hts hK hW hl.1 (c_X7_ofL l X G (i := i) (w := 2) (hi := (by omega)) (hw := (by decide)) (hres := rfl)) (xF_mo0).1 (xF_mo0).2.1 (by decide) rfl xw_198 xw_199 xw_200 xw_5 xw_201 hdV_yX7_ofL ⟨Nat.le_of_ble_eq_true rfl, Nat.le_of_ble_eq_true rfl⟩ rfl (Nat.le_of_ble_eq_true rfl) ⟨Nat.le_refl _, Nat.le_refl _⟩ dX7_account_20 (fun H locs hW => ?_)
      refine lv_iconst (v := 2) hx hb dX7_account_23 (by decide) ?_
      refine lv_icmp_ne (tgt := 31) hx hb dX7_account_24 (by decide) (fun c_11 => ?_) (fun c_11 => ?_)
      · skip
        refine lv_aload_n hx hb dX7_account_31 rfl (lv_at hl 0 rfl) ?_
        refine lv_iload_n hx hb dX7_account_32 rfl (lv_at hl 1 rfl) ?_
        refine lv_iconst (v := 2) hx hb dX7_account_33 (by decide) ?_
        refine x_callV hx hb hml hown hts hK hW hl.1 (c_X7_ofL l X G (i := i) (w := 2) (hi := (by omega)) (hw := (by decide)) (hres := rfl)) (xF_mo0).1 (xF_mo0).2.1 (by decide) rfl xw_198 xw_199 xw_200 xw_5 xw_201 hdV_yX7_ofL ⟨Nat.le_of_ble_eq_true rfl, Nat.le_of_ble_eq_true rfl⟩ rfl (Nat.le_of_ble_eq_true rfl) ⟨Nat.le_refl _, Nat.le_refl _⟩ dX7_account_34 (fun H locs hW => ?_)
        refine lv_iconst (v := 1) hx hb dX7_account_37 (by decide) ?_
        refine lv_icmp_ne (tgt := 45) hx hb dX7_account_38 (by decide) (fun c_12 => ?_) (fun c_12 => ?_)
        · skip
          refine lv_iconst (v := 0) hx hb dX7_account_45 (by decide) ?_
          have hW := XR.mfoc2 hW i
          refine x_callV hx hb hml hown hts hK hW hl.1 (c_X7_moreL l X G (i := i) (w := 7) (v := 0) (hi := (by omega)) (hw := (by decide)) ) (xF_mo0).1 (xF_mo0).2.1 (by decide) rfl xw_377 xw_378 xw_379 xw_5 xw_380 hdV_yX7_moreL ⟨Nat.le_of_ble_eq_true rfl, Nat.le_of_ble_eq_true rfl⟩ rfl (Nat.le_of_ble_eq_true rfl) ⟨Nat.le_refl _, Nat.le_refl _⟩ dX7_account_46 (fun H locs hW => ?_)
          have hW : XR X G 12 (xMa f sg (va_up La i (va_up (La i) 7 ((La i) 7 + 0))) O Y pb pc pd pe pg ph pp pq pt pu) H locs := hW
          refine lv_iinc (v := nI (i + 1)) (lv' := [(1, .int (nI (i + 1))), (0, .ref (xB X + xkey 12 0 0))]) hx hb dX7_account_49 hl (k := 1) rfl (nI_1 i) (by decide) rfl (fun ls hl => ?_)
          refine lv_goto (tgt := 2) hx hb dX7_account_52 (by decide) ?_
          refine ih_2 (i + 1) (va_up La i (va_up (La i) 7 ((La i) 7 + 0))) (by omega)  ?_ H locs ls hW (lv_sub hl [1, 0] rfl)
          rw [← hsp_2]; simp [xloop, Muse, c_10, c_11, c_12]
        · skip
          refine lv_iconst (v := 1) hx hb dX7_account_41 (by decide) ?_
          refine lv_goto (tgt := 46) hx hb dX7_account_42 (by decide) ?_
          have hW := XR.mfoc2 hW i
          refine x_callV hx hb hml hown hts hK hW hl.1 (c_X7_moreL l X G (i := i) (w := 7) (v := 1) (hi := (by omega)) (hw := (by decide)) ) (xF_mo0).1 (xF_mo0).2.1 (by decide) rfl xw_377 xw_378 xw_379 xw_5 xw_380 hdV_yX7_moreL ⟨Nat.le_of_ble_eq_true rfl, Nat.le_of_ble_eq_true rfl⟩ rfl (Nat.le_of_ble_eq_true rfl) ⟨Nat.le_refl _, Nat.le_refl _⟩ dX7_account_46 (fun H locs hW => ?_)
          have hW : XR X G 12 (xMa f sg (va_up La i (va_up (La i) 7 ((La i) 7 + 1))) O Y pb pc pd pe pg ph pp pq pt pu) H locs := hW
          refine lv_iinc (v := nI (i + 1)) (lv' := [(1, .int (nI (i + 1))), (0, .ref (xB X + xkey 12 0 0))]) hx hb dX7_account_49 hl (k := 1) rfl (nI_1 i) (by decide) rfl (fun ls hl => ?_)
          refine lv_goto (tgt := 2) hx hb dX7_account_52 (by decide) ?_
          refine ih_2 (i + 1) (va_up La i (va_up (La i) 7 ((La i) 7 + 1))) (by omega)  ?_ H locs ls hW (lv_sub hl [1, 0] rfl)
          rw [← hsp_2]; simp [xloop, Muse, c_10, c_11, c_12]
      · skip
        refine lv_iconst (v := 4) hx hb dX7_account_27 (by decide) ?_
        refine lv_goto (tgt := 46) hx hb dX7_account_28 (by decide) ?_
        have hW := XR.mfoc2 hW i
        refine x_callV hx hb hml hown hts hK hW hl.1 (c_X7_moreL l X G (i := i) (w := 7) (v := 4) (hi := (by omega)) (hw := (by decide)) ) (xF_mo0).1 (xF_mo0).2.1 (by decide) rfl xw_377 xw_378 xw_379 xw_5 xw_380 hdV_yX7_moreL ⟨Nat.le_of_ble_eq_true rfl, Nat.le_of_ble_eq_true rfl⟩ rfl (Nat.le_of_ble_eq_true rfl) ⟨Nat.le_refl _, Nat.le_refl _⟩ dX7_account_46 (fun H locs hW => ?_)
        have hW : XR X G 12 (xMa f sg (va_up La i (va_up (La i) 7 ((La i) 7 + 4))) O Y pb pc pd pe pg ph pp pq pt pu) H locs := hW
        refine lv_iinc (v := nI (i + 1)) (lv' := [(1, .int (nI (i + 1))), (0, .ref (xB X + xkey 12 0 0))]) hx hb dX7_account_49 hl (k := 1) rfl (nI_1 i) (by decide) rfl (fun ls hl => ?_)
        refine lv_goto (tgt := 2) hx hb dX7_account_52 (by decide) ?_
        refine ih_2 (i + 1) (va_up La i (va_up (La i) 7 ((La i) 7 + 4))) (by omega)  ?_ H locs ls hW (lv_sub hl [1, 0] rfl)
        rw [← hsp_2]; simp [xloop, Muse, c_10, c_11]
  exact loop_2 n 0 L (by omega)  rfl _ _ _ hW (lv_sub hl [1, 0] rfl)
set_option maxHeartbeats 4000000 in
set_option maxRecDepth 100000 in
theorem c_X7_pass (l : Launch) (X : xX) (G : xG) {f sg pb pc pd pe pg ph pp pq pt pu : Nat → Int32} {L O Y : Nat → Nat → Int32} {n nh nw : Nat} (hn : sg 7 = nI n) (hn16 : n ≤ 16) (hh : sg 8 = nI nh) (hh8 : nh ≤ 8) (hw : sg 9 = nI nw) (hw8 : nw ≤ 8) (hY : ∀ j, j < 8 → MW (Y j)) {sg' : Nat → Int32} (ho0 : ((Mpass n nh nw (sg, L, O, Y, pg, ph)).1) = sg') {L' : Nat → Nat → Int32} (ho1 : ((Mpass n nh nw (sg, L, O, Y, pg, ph)).2.1) = L') {O' : Nat → Nat → Int32} (ho2 : ((Mpass n nh nw (sg, L, O, Y, pg, ph)).2.2.1) = O') {Y' : Nat → Nat → Int32} (ho3 : ((Mpass n nh nw (sg, L, O, Y, pg, ph)).2.2.2.1) = Y') {pg' : Nat → Int32} (ho4 : ((Mpass n nh nw (sg, L, O, Y, pg, ph)).2.2.2.2.1) = pg') {ph' : Nat → Int32} (ho5 : ((Mpass n nh nw (sg, L, O, Y, pg, ph)).2.2.2.2.2) = ph') : XC l yX7_pass cX7_pass 2 none 4 91 0 0 X xsh [.ref (xB X + xkey 12 0 0)] 603 603 (xval (xB X) (va_up G 12 (xMa f sg L O Y pb pc pd pe pg ph pp pq pt pu))) (xval (xB X) (va_up G 12 (xMa f sg' L' O' Y' pb pc pd pe pg' ph' pp pq pt pu))) none := by
  refine XC.of RX7 "pass" [(0, .ref (xB X + xkey 12 0 0))] (by decide) rfl rfl (Nat.le_of_ble_eq_true rfl) rfl ?_
  intro p e s m args below meth c ls hx hb hret hml hts hown hlocks hnm hK hW hl
  have hW : XR X G 12 (xMa f sg L O Y pb pc pd pe pg ph pp pq pt pu) s.heap [] := hW
  obtain ⟨Q0, hQ0⟩ : ∃ z, z = MQ below (xQ X xsh 603 (xval (xB X) (va_up G 12 (xMa f sg' L' O' Y' pb pc pd pe pg' ph' pp pq pt pu))) none) args s 0 0 (fun q => xB X ≤ q) := ⟨_, rfl⟩
  rw [← hQ0]
  refine lv_iconst (v := nI 0) hx hb dX7_pass_0 (by decide) ?_
  refine lv_istore_n (lv' := [(1, .int (nI 0)), (0, .ref (xB X + xkey 12 0 0))]) hx hb dX7_pass_1 rfl hl (by decide) rfl (fun ls hl => ?_)
  have loop_2 : ∀ (k_2 i : Nat) (La : Nat → Nat → Int32), i + k_2 = n → xloop (fun i (M : Nat → Nat → Int32) => va_up M i (va_up (va_up (M i) 11 0) 12 0)) k_2 i La = xloop (fun i (M : Nat → Nat → Int32) => va_up M i (va_up (va_up (M i) 11 0) 12 0)) n 0 L → ∀ (H : Heap) (locs : List Loc) (ls : Array Slot), XR X G 12 (xMa f sg La O Y pb pc pd pe pg ph pp pq pt pu) H locs → lv_has ls 2 [(0, .ref (xB X + xkey 12 0 0)), (1, .int (nI i))] → W p l e { frames := 4, cells := 0, slots := 0, locals := 91 } s m args below meth c H locs 0 0 Q0 (F0 m 2 ls []) := by
    intro k_2
    induction k_2 with
    | zero =>
      intro i La hik_2  hsp_2 H locs ls hW hl
      refine lv_iload_n hx hb dX7_pass_2 rfl (lv_at hl 1 rfl) ?_
      refine lv_aload_n hx hb dX7_pass_3 rfl (lv_at hl 0 rfl) ?_
      refine r_getr (C := RX7) (T := TX7) hx hb hts hown hK hW (xF_mo0).1 (xF_mo0).2.1 inlX7 rfl (by decide) 0 (by decide) (show xro (xkey 12 0 0) 0 = some (xkey 12 1 0) from by decide +kernel) xw_79 rfl dX7_pass_4 ?_
      refine lv_bipush (v := 7) hx hb dX7_pass_7 (by decide) ?_
      refine r_iald hx hb hK hW (N := 440) (xF_mo1) 7 (by decide) (by decide) (by decide) (xr_model 1 (by decide) (by decide) 7) (x := nI n) ((xat_s (sg := sg) (L := La) (O := O) (Y := Y) (k := 7) (by omega)).trans hn) dX7_pass_9 ?_
      refine lv_icmp_ge (tgt := 35) hx hb dX7_pass_10 (by decide) (fun c_1 => ?_) (fun c_1 => absurd (xge_refl (by omega)) c_1)
      refine lv_iconst (v := nI 0) hx hb dX7_pass_35 (by decide) ?_
      refine lv_istore_n (lv' := [(1, .int (nI 0)), (0, .ref (xB X + xkey 12 0 0))]) hx hb dX7_pass_36 rfl hl (by decide) rfl (fun ls hl => ?_)
      have loop_37 : ∀ (k_37 w : Nat) (Ya : Nat → Nat → Int32), w + k_37 = nw → (∀ j, j < 8 → MW (Ya j)) → xloop (fun w (V : Nat → Nat → Int32) => va_up V w (Mgo (V w) (V w 3).toNatClampNeg)) k_37 w Ya = xloop (fun w (V : Nat → Nat → Int32) => va_up V w (Mgo (V w) (V w 3).toNatClampNeg)) nw 0 Y → ∀ (H : Heap) (locs : List Loc) (ls : Array Slot), XR X G 12 (xMa f sg La O Ya pb pc pd pe pg ph pp pq pt pu) H locs → lv_has ls 2 [(0, .ref (xB X + xkey 12 0 0)), (1, .int (nI w))] → W p l e { frames := 4, cells := 0, slots := 0, locals := 91 } s m args below meth c H locs 0 0 Q0 (F0 m 37 ls []) := by
        intro k_37
        induction k_37 with
        | zero =>
          intro w Ya hik_37 hv0_37 hsp_37 H locs ls hW hl
          refine lv_iload_n hx hb dX7_pass_37 rfl (lv_at hl 1 rfl) ?_
          refine lv_aload_n hx hb dX7_pass_38 rfl (lv_at hl 0 rfl) ?_
          refine r_getr (C := RX7) (T := TX7) hx hb hts hown hK hW (xF_mo0).1 (xF_mo0).2.1 inlX7 rfl (by decide) 0 (by decide) (show xro (xkey 12 0 0) 0 = some (xkey 12 1 0) from by decide +kernel) xw_79 rfl dX7_pass_39 ?_
          refine lv_bipush (v := 9) hx hb dX7_pass_42 (by decide) ?_
          refine r_iald hx hb hK hW (N := 440) (xF_mo1) 9 (by decide) (by decide) (by decide) (xr_model 1 (by decide) (by decide) 9) (x := nI nw) ((xat_s (sg := sg) (L := La) (O := O) (Y := Ya) (k := 9) (by omega)).trans hw) dX7_pass_44 ?_
          refine lv_icmp_ge (tgt := 59) hx hb dX7_pass_45 (by decide) (fun c_2 => ?_) (fun c_2 => absurd (xge_refl (by omega)) c_2)
          refine lv_aload_n hx hb dX7_pass_59 rfl (lv_at hl 0 rfl) ?_
          refine x_callV hx hb hml hown hts hK hW hl.1 (c_X7_coughAgain l X G (n := n) (hn := (by assumption)) (hn16 := (by assumption)) (ho0 := rfl) (ho1 := rfl)) (xF_mo0).1 (xF_mo0).2.1 (by decide) rfl xw_514 xw_515 xw_516 xw_5 xw_517 hdV_yX7_coughAgain ⟨Nat.le_of_ble_eq_true rfl, Nat.le_of_ble_eq_true rfl⟩ rfl (Nat.le_of_ble_eq_true rfl) ⟨Nat.le_refl _, Nat.le_refl _⟩ dX7_pass_60 (fun H locs hW => ?_)
          have hW : XR X G 12 (xMa f sg ((MAgain n sg La pg).1) O Ya pb pc pd pe ((MAgain n sg La pg).2) ph pp pq pt pu) H locs := hW
          refine lv_aload_n hx hb dX7_pass_63 rfl (lv_at hl 0 rfl) ?_
          refine x_callV hx hb hml hown hts hK hW hl.1 (c_X7_look l X G (n := n) (nw := nw) (hn := (by assumption)) (hn16 := (by assumption)) (hw := (by assumption)) (hw8 := (by assumption)) (ho0 := rfl) (ho1 := rfl)) (xF_mo0).1 (xF_mo0).2.1 (by decide) rfl xw_518 xw_519 xw_520 xw_5 xw_521 hdV_yX7_look ⟨Nat.le_of_ble_eq_true rfl, Nat.le_of_ble_eq_true rfl⟩ rfl (Nat.le_of_ble_eq_true rfl) ⟨Nat.le_refl _, Nat.le_refl _⟩ dX7_pass_64 (fun H locs hW => ?_)
          have hW : XR X G 12 (xMa f sg (MLook n nw sg Ya ((MAgain n sg La pg).1) ph) O Ya pb pc pd pe ((MAgain n sg La pg).2) (Mwere n ((MAgain n sg La pg).1) ph) pp pq pt pu) H locs := hW
          refine lv_iconst (v := nI 0) hx hb dX7_pass_67 (by decide) ?_
          refine lv_istore_n (lv' := [(1, .int (nI 0)), (0, .ref (xB X + xkey 12 0 0))]) hx hb dX7_pass_68 rfl hl (by decide) rfl (fun ls hl => ?_)
          have loop_69 : ∀ (k_69 i : Nat) (Lb : Nat → Nat → Int32), i + k_69 = n → xloop (fun i (M : Nat → Nat → Int32) => va_up M i (Mfade sg (M i))) k_69 i Lb = xloop (fun i (M : Nat → Nat → Int32) => va_up M i (Mfade sg (M i))) n 0 (MLook n nw sg Ya ((MAgain n sg La pg).1) ph) → ∀ (H : Heap) (locs : List Loc) (ls : Array Slot), XR X G 12 (xMa f sg Lb O Ya pb pc pd pe ((MAgain n sg La pg).2) (Mwere n ((MAgain n sg La pg).1) ph) pp pq pt pu) H locs → lv_has ls 2 [(0, .ref (xB X + xkey 12 0 0)), (1, .int (nI i))] → W p l e { frames := 4, cells := 0, slots := 0, locals := 91 } s m args below meth c H locs 0 0 Q0 (F0 m 69 ls []) := by
            intro k_69
            induction k_69 with
            | zero =>
              intro i Lb hik_69  hsp_69 H locs ls hW hl
              refine lv_iload_n hx hb dX7_pass_69 rfl (lv_at hl 1 rfl) ?_
              refine lv_aload_n hx hb dX7_pass_70 rfl (lv_at hl 0 rfl) ?_
              refine r_getr (C := RX7) (T := TX7) hx hb hts hown hK hW (xF_mo0).1 (xF_mo0).2.1 inlX7 rfl (by decide) 0 (by decide) (show xro (xkey 12 0 0) 0 = some (xkey 12 1 0) from by decide +kernel) xw_79 rfl dX7_pass_71 ?_
              refine lv_bipush (v := 7) hx hb dX7_pass_74 (by decide) ?_
              refine r_iald hx hb hK hW (N := 440) (xF_mo1) 7 (by decide) (by decide) (by decide) (xr_model 1 (by decide) (by decide) 7) (x := nI n) ((xat_s (sg := sg) (L := Lb) (O := O) (Y := Ya) (k := 7) (by omega)).trans hn) dX7_pass_76 ?_
              refine lv_icmp_ge (tgt := 91) hx hb dX7_pass_77 (by decide) (fun c_3 => ?_) (fun c_3 => absurd (xge_refl (by omega)) c_3)
              refine lv_aload_n hx hb dX7_pass_91 rfl (lv_at hl 0 rfl) ?_
              refine x_callV hx hb hml hown hts hK hW hl.1 (c_X7_account l X G (n := n) (nh := nh) (nw := nw) (hn := (by assumption)) (hn16 := (by assumption)) (hh := (by assumption)) (hh8 := (by assumption)) (hw := (by assumption)) (hw8 := (by assumption)) (ho0 := rfl) (ho1 := rfl) (ho2 := rfl)) (xF_mo0).1 (xF_mo0).2.1 (by decide) rfl xw_530 xw_531 xw_532 xw_5 xw_533 hdV_yX7_account ⟨Nat.le_of_ble_eq_true rfl, Nat.le_of_ble_eq_true rfl⟩ rfl (Nat.le_of_ble_eq_true rfl) ⟨Nat.le_refl _, Nat.le_refl _⟩ dX7_pass_92 (fun H locs hW => ?_)
              have hW : XR X G 12 (xMa f sg ((Mdark n nw (MUses n Lb) Ya).1) (MDist n nh (Mdark n nw (MUses n Lb) Ya).1 O) ((Mdark n nw (MUses n Lb) Ya).2) pb pc pd pe ((MAgain n sg La pg).2) (Mwere n ((MAgain n sg La pg).1) ph) pp pq pt pu) H locs := hW
              refine lv_aload_n hx hb dX7_pass_95 rfl (lv_at hl 0 rfl) ?_
              refine r_getr (C := RX7) (T := TX7) hx hb hts hown hK hW (xF_mo0).1 (xF_mo0).2.1 inlX7 rfl (by decide) 0 (by decide) (show xro (xkey 12 0 0) 0 = some (xkey 12 1 0) from by decide +kernel) xw_79 rfl dX7_pass_96 ?_
              refine lv_bipush (v := 6) hx hb dX7_pass_99 (by decide) ?_
              refine lv_dup2_11 hx hb dX7_pass_101 rfl rfl ?_
              refine r_iald hx hb hK hW (N := 440) (xF_mo1) 6 (by decide) (by decide) (by decide) (xr_model 1 (by decide) (by decide) 6) (x := sg 6) (xat_s (sg := sg) (L := ((Mdark n nw (MUses n Lb) Ya).1)) (O := (MDist n nh (Mdark n nw (MUses n Lb) Ya).1 O)) (Y := ((Mdark n nw (MUses n Lb) Ya).2)) (k := 6) (by omega)) dX7_pass_102 ?_
              refine lv_iconst (v := 1) hx hb dX7_pass_103 (by decide) ?_
              refine lv_iadd hx hb dX7_pass_104 ?_
              refine r_iast hx hb hK hW (N := 440) (xF_mo1) 6 (by decide) (by decide) (by decide) (xr_model 1 (by decide) (by decide) 6) (xMa1 (w := 6) (by omega)) dX7_pass_105 (fun H locs hW => ?_)
              obtain rfl : (va_up sg 6 ((sg 6) + 1)) = sg' := by (rw [← ho0]) <;> (have e1 : La = Mclear n L := hsp_2; have e2 : Ya = MGos nw Y := hsp_37; have e3 : Lb = MFades n sg (MLook n nw sg Ya (MAgain n sg La pg).1 ph) := hsp_69; first | rfl | (rw [e1]; rfl) | (rw [e3, e2, e1]; rfl))
              obtain rfl : ((Mdark n nw (MUses n Lb) Ya).1) = L' := by (rw [← ho1]) <;> (have e1 : La = Mclear n L := hsp_2; have e2 : Ya = MGos nw Y := hsp_37; have e3 : Lb = MFades n sg (MLook n nw sg Ya (MAgain n sg La pg).1 ph) := hsp_69; first | rfl | (rw [e1]; rfl) | (rw [e3, e2, e1]; rfl))
              obtain rfl : (MDist n nh (Mdark n nw (MUses n Lb) Ya).1 O) = O' := by (rw [← ho2]) <;> (have e1 : La = Mclear n L := hsp_2; have e2 : Ya = MGos nw Y := hsp_37; have e3 : Lb = MFades n sg (MLook n nw sg Ya (MAgain n sg La pg).1 ph) := hsp_69; first | rfl | (rw [e1]; rfl) | (rw [e3, e2, e1]; rfl))
              obtain rfl : ((Mdark n nw (MUses n Lb) Ya).2) = Y' := by (rw [← ho3]) <;> (have e1 : La = Mclear n L := hsp_2; have e2 : Ya = MGos nw Y := hsp_37; have e3 : Lb = MFades n sg (MLook n nw sg Ya (MAgain n sg La pg).1 ph) := hsp_69; first | rfl | (rw [e1]; rfl) | (rw [e3, e2, e1]; rfl))
              obtain rfl : ((MAgain n sg La pg).2) = pg' := by (rw [← ho4]) <;> (have e1 : La = Mclear n L := hsp_2; have e2 : Ya = MGos nw Y := hsp_37; have e3 : Lb = MFades n sg (MLook n nw sg Ya (MAgain n sg La pg).1 ph) := hsp_69; first | rfl | (rw [e1]; rfl) | (rw [e3, e2, e1]; rfl))
              obtain rfl : (Mwere n ((MAgain n sg La pg).1) ph) = ph' := by (rw [← ho5]) <;> (have e1 : La = Mclear n L := hsp_2; have e2 : Ya = MGos nw Y := hsp_37; have e3 : Lb = MFades n sg (MLook n nw sg Ya (MAgain n sg La pg).1 ph) := hsp_69; first | rfl | (rw [e1]; rfl) | (rw [e3, e2, e1]; rfl))
              rw [hQ0]
              exact x_vret hx hb hret hlocks hW rfl dX7_pass_106
            | succ k_69 ih_69 =>
              intro i Lb hik_69  hsp_69 H locs ls hW hl
              refine lv_iload_n hx hb dX7_pass_69 rfl (lv_at hl 1 rfl) ?_
              refine lv_aload_n hx hb dX7_pass_70 rfl (lv_at hl 0 rfl) ?_
              refine r_getr (C := RX7) (T := TX7) hx hb hts hown hK hW (xF_mo0).1 (xF_mo0).2.1 inlX7 rfl (by decide) 0 (by decide) (show xro (xkey 12 0 0) 0 = some (xkey 12 1 0) from by decide +kernel) xw_79 rfl dX7_pass_71 ?_
              refine lv_bipush (v := 7) hx hb dX7_pass_74 (by decide) ?_
              refine r_iald hx hb hK hW (N := 440) (xF_mo1) 7 (by decide) (by decide) (by decide) (xr_model 1 (by decide) (by decide) 7) (x := nI n) ((xat_s (sg := sg) (L := Lb) (O := O) (Y := Ya) (k := 7) (by omega)).trans hn) dX7_pass_76 ?_
              refine lv_icmp_ge (tgt := 91) hx hb dX7_pass_77 (by decide) (fun c_4 => absurd c_4 (nI_ge (by omega) (by omega))) (fun c_4 => ?_)
              refine lv_aload_n hx hb dX7_pass_80 rfl (lv_at hl 0 rfl) ?_
              refine lv_iload_n hx hb dX7_pass_81 rfl (lv_at hl 1 rfl) ?_
              have hW := XR.mfoc2 hW i
              refine x_callV hx hb hml hown hts hK hW hl.1 (c_X7_fade l X G (i := i) (hi := (by omega)) (ho0 := rfl)) (xF_mo0).1 (xF_mo0).2.1 (by decide) rfl xw_526 xw_527 xw_528 xw_5 xw_529 hdV_yX7_fade ⟨Nat.le_of_ble_eq_true rfl, Nat.le_of_ble_eq_true rfl⟩ rfl (Nat.le_of_ble_eq_true rfl) ⟨Nat.le_refl _, Nat.le_refl _⟩ dX7_pass_82 (fun H locs hW => ?_)
              have hW : XR X G 12 (xMa f sg (va_up Lb i (Mfade sg (Lb i))) O Ya pb pc pd pe ((MAgain n sg La pg).2) (Mwere n ((MAgain n sg La pg).1) ph) pp pq pt pu) H locs := hW
              refine lv_iinc (v := nI (i + 1)) (lv' := [(1, .int (nI (i + 1))), (0, .ref (xB X + xkey 12 0 0))]) hx hb dX7_pass_85 hl (k := 1) rfl (nI_1 i) (by decide) rfl (fun ls hl => ?_)
              refine lv_goto (tgt := 69) hx hb dX7_pass_88 (by decide) ?_
              refine ih_69 (i + 1) (va_up Lb i (Mfade sg (Lb i))) (by omega)  ?_ H locs ls hW (lv_sub hl [1, 0] rfl)
              rw [← hsp_69]; rfl
          exact loop_69 n 0 (MLook n nw sg Ya ((MAgain n sg La pg).1) ph) (by omega)  rfl _ _ _ hW (lv_sub hl [1, 0] rfl)
        | succ k_37 ih_37 =>
          intro w Ya hik_37 hv0_37 hsp_37 H locs ls hW hl
          refine lv_iload_n hx hb dX7_pass_37 rfl (lv_at hl 1 rfl) ?_
          refine lv_aload_n hx hb dX7_pass_38 rfl (lv_at hl 0 rfl) ?_
          refine r_getr (C := RX7) (T := TX7) hx hb hts hown hK hW (xF_mo0).1 (xF_mo0).2.1 inlX7 rfl (by decide) 0 (by decide) (show xro (xkey 12 0 0) 0 = some (xkey 12 1 0) from by decide +kernel) xw_79 rfl dX7_pass_39 ?_
          refine lv_bipush (v := 9) hx hb dX7_pass_42 (by decide) ?_
          refine r_iald hx hb hK hW (N := 440) (xF_mo1) 9 (by decide) (by decide) (by decide) (xr_model 1 (by decide) (by decide) 9) (x := nI nw) ((xat_s (sg := sg) (L := La) (O := O) (Y := Ya) (k := 9) (by omega)).trans hw) dX7_pass_44 ?_
          refine lv_icmp_ge (tgt := 59) hx hb dX7_pass_45 (by decide) (fun c_5 => absurd c_5 (nI_ge (by omega) (by omega))) (fun c_5 => ?_)
          refine lv_aload_n hx hb dX7_pass_48 rfl (lv_at hl 0 rfl) ?_
          refine lv_iload_n hx hb dX7_pass_49 rfl (lv_at hl 1 rfl) ?_
          have hW := XR.mfoc4 hW w
          refine x_callV hx hb hml hown hts hK hW hl.1 (c_X7_go l X G (i := w) (g := (Ya w 3).toNatClampNeg) (hi := (by omega)) (hg := (hv0_37 w (by omega)).1) (hg6 := (hv0_37 w (by omega)).2) (ho0 := rfl)) (xF_mo0).1 (xF_mo0).2.1 (by decide) rfl xw_502 xw_503 xw_504 xw_5 xw_505 hdV_yX7_go ⟨Nat.le_of_ble_eq_true rfl, Nat.le_of_ble_eq_true rfl⟩ rfl (Nat.le_of_ble_eq_true rfl) ⟨Nat.le_refl _, Nat.le_refl _⟩ dX7_pass_50 (fun H locs hW => ?_)
          have hW : XR X G 12 (xMa f sg La O (va_up Ya w (Mgo (Ya w) ((Ya w 3).toNatClampNeg))) pb pc pd pe pg ph pp pq pt pu) H locs := hW
          refine lv_iinc (v := nI (w + 1)) (lv' := [(1, .int (nI (w + 1))), (0, .ref (xB X + xkey 12 0 0))]) hx hb dX7_pass_53 hl (k := 1) rfl (nI_1 w) (by decide) rfl (fun ls hl => ?_)
          refine lv_goto (tgt := 37) hx hb dX7_pass_56 (by decide) ?_
          refine ih_37 (w + 1) (va_up Ya w (Mgo (Ya w) ((Ya w 3).toNatClampNeg))) (by omega) (MW_up hv0_37 (MW_go (hv0_37 w (by omega)))) ?_ H locs ls hW (lv_sub hl [1, 0] rfl)
          rw [← hsp_37]; rfl
      exact loop_37 nw 0 Y (by omega) hY rfl _ _ _ hW (lv_sub hl [1, 0] rfl)
    | succ k_2 ih_2 =>
      intro i La hik_2  hsp_2 H locs ls hW hl
      refine lv_iload_n hx hb dX7_pass_2 rfl (lv_at hl 1 rfl) ?_
      refine lv_aload_n hx hb dX7_pass_3 rfl (lv_at hl 0 rfl) ?_
      refine r_getr (C := RX7) (T := TX7) hx hb hts hown hK hW (xF_mo0).1 (xF_mo0).2.1 inlX7 rfl (by decide) 0 (by decide) (show xro (xkey 12 0 0) 0 = some (xkey 12 1 0) from by decide +kernel) xw_79 rfl dX7_pass_4 ?_
      refine lv_bipush (v := 7) hx hb dX7_pass_7 (by decide) ?_
      refine r_iald hx hb hK hW (N := 440) (xF_mo1) 7 (by decide) (by decide) (by decide) (xr_model 1 (by decide) (by decide) 7) (x := nI n) ((xat_s (sg := sg) (L := La) (O := O) (Y := Y) (k := 7) (by omega)).trans hn) dX7_pass_9 ?_
      refine lv_icmp_ge (tgt := 35) hx hb dX7_pass_10 (by decide) (fun c_6 => absurd c_6 (nI_ge (by omega) (by omega))) (fun c_6 => ?_)
      refine lv_aload_n hx hb dX7_pass_13 rfl (lv_at hl 0 rfl) ?_
      refine lv_iload_n hx hb dX7_pass_14 rfl (lv_at hl 1 rfl) ?_
      refine lv_bipush (v := 11) hx hb dX7_pass_15 (by decide) ?_
      refine lv_iconst (v := 0) hx hb dX7_pass_17 (by decide) ?_
      have hW := XR.mfoc2 hW i
      refine x_callV hx hb hml hown hts hK hW hl.1 (c_X7_layL l X G (i := i) (w := 11) (v := 0) (hi := (by omega)) (hw := (by decide)) ) (xF_mo0).1 (xF_mo0).2.1 (by decide) rfl xw_202 xw_203 xw_204 xw_5 xw_205 hdV_yX7_layL ⟨Nat.le_of_ble_eq_true rfl, Nat.le_of_ble_eq_true rfl⟩ rfl (Nat.le_of_ble_eq_true rfl) ⟨Nat.le_refl _, Nat.le_refl _⟩ dX7_pass_18 (fun H locs hW => ?_)
      have hW : XR X G 12 (xMa f sg (va_up La i (va_up (La i) 11 0)) O Y pb pc pd pe pg ph pp pq pt pu) H locs := hW
      refine lv_aload_n hx hb dX7_pass_21 rfl (lv_at hl 0 rfl) ?_
      refine lv_iload_n hx hb dX7_pass_22 rfl (lv_at hl 1 rfl) ?_
      refine lv_bipush (v := 12) hx hb dX7_pass_23 (by decide) ?_
      refine lv_iconst (v := 0) hx hb dX7_pass_25 (by decide) ?_
      refine x_callV hx hb hml hown hts hK hW hl.1 (c_X7_layL l X G (i := i) (w := 12) (v := 0) (hi := (by omega)) (hw := (by decide)) ) (xF_mo0).1 (xF_mo0).2.1 (by decide) rfl xw_202 xw_203 xw_204 xw_5 xw_205 hdV_yX7_layL ⟨Nat.le_of_ble_eq_true rfl, Nat.le_of_ble_eq_true rfl⟩ rfl (Nat.le_of_ble_eq_true rfl) ⟨Nat.le_refl _, Nat.le_refl _⟩ dX7_pass_26 (fun H locs hW => ?_)
      have hW : XR X G 12 (xMa f sg (va_up La i (va_up (va_up (La i) 11 0) 12 0)) O Y pb pc pd pe pg ph pp pq pt pu) H locs := hW
      refine lv_iinc (v := nI (i + 1)) (lv' := [(1, .int (nI (i + 1))), (0, .ref (xB X + xkey 12 0 0))]) hx hb dX7_pass_29 hl (k := 1) rfl (nI_1 i) (by decide) rfl (fun ls hl => ?_)
      refine lv_goto (tgt := 2) hx hb dX7_pass_32 (by decide) ?_
      refine ih_2 (i + 1) (va_up La i (va_up (va_up (La i) 11 0) 12 0)) (by omega)  ?_ H locs ls hW (lv_sub hl [1, 0] rfl)
      rw [← hsp_2]; rfl
  exact loop_2 n 0 L (by omega)  rfl _ _ _ hW (lv_sub hl [1, 0] rfl)
