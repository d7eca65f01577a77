/-! ===== the class's own methods: carrying a text out ===== -/
theorem xle {a b : Nat} (h : a ≤ b) (hb : b < 2 ^ 31) : nI a ≤ nI b := by
  rcases Nat.lt_or_ge a b with h1 | h1
  · exact Int32.le_of_lt (nI_lt h1 hb)
  · have : a = b := by omega
    subst this
    exact Int32.le_refl _
def Fgive (nb : Nat → Int32) (w : Int32) (n : Nat) : Nat → Nat → xS × Int32 → xS × Int32
  | 0, _, q => q
  | k + 1, i, q => if nI n ≤ nI (i + 1) then q else if q.2 < 0 then q else Fgive nb w n k (i + 2) (s_giveGoal w (nb i) (nb (i + 1)) q.1, r_giveGoal w (nb i) (nb (i + 1)) q.1)
theorem Sok_give {nb : Nat → Int32} {w : Int32} {n : Nat} : ∀ (k i : Nat) (q : xS × Int32), Sok q.1 → Sok (Fgive nb w n k i q).1
  | 0, _, _, h => h
  | k + 1, i, q, h => by
    unfold Fgive
    split
    · exact h
    · split
      · exact h
      · exact Sok_give k _ _ (Sok_giveGoal h)
def sWin (pf nb : Nat → Int32) (σ : xS) : xS × Int32 := Fgive nb (r_addWalker (nb 0) (nb 1) σ) (pf 4).toNatClampNeg 40 2 (s_addWalker (nb 0) (nb 1) σ, r_addWalker (nb 0) (nb 1) σ)
theorem Sok_win {pf nb : Nat → Int32} {σ : xS} (h : Sok σ) : Sok (sWin pf nb σ).1 := Sok_give 40 2 _ (Sok_addWalker h)
def sOrder (pf nb : Nat → Int32) (σ : xS) : xS × Int32 :=
  if pf 5 = 99 then (s_coughByOrder (nb 0) σ, r_coughByOrder (nb 0) σ) else if pf 5 = 109 then (s_mendLamp (nb 0) (nb 1) σ, r_mendLamp (nb 0) (nb 1) σ)
  else if pf 5 = 116 then (s_letPass (nb 0) σ, r_letPass (nb 0) σ) else if pf 5 = 119 then sWin pf nb σ else (σ, -3)
theorem Sok_order {pf nb : Nat → Int32} {σ : xS} (h : Sok σ) : Sok (sOrder pf nb σ).1 := by
  unfold sOrder
  split
  · exact Sok_coughByOrder h
  · split
    · exact Sok_mendLamp h
    · split
      · exact Sok_letPass h
      · split
        · exact Sok_win h
        · exact h
def Fdone (sn : Nat → Int32) : Nat → Nat → xS × xPS → (xS × xPS) × Int32
  | 0, i, q => (q, nI i)
  | k + 1, i, q => if (Fnext sn q.2).2 = 0 then ((q.1, (Fnext sn q.2).1), nI i) else
      if (sOrder (Fnext sn q.2).1.1 (Fnext sn q.2).1.2 q.1).2 < 0 then (((sOrder (Fnext sn q.2).1.1 (Fnext sn q.2).1.2 q.1).1, (Fnext sn q.2).1), nI i) else Fdone sn k (i + 1) ((sOrder (Fnext sn q.2).1.1 (Fnext sn q.2).1.2 q.1).1, (Fnext sn q.2).1)
def sDone (sn : Nat → Int32) (q : xPS) (σ : xS) : (xS × xPS) × Int32 := Fdone sn 80 0 (σ, (va_up (Ffirst sn q).1.1 3 0, (Ffirst sn q).1.2))
theorem hdV_yX6_carryWalkerIn : yX6_carryWalkerIn.cls = RX6 ∧ yX6_carryWalkerIn.cls ≠ "java/lang/invoke/MethodHandle" ∧ yX6_carryWalkerIn.cls ≠ "java/lang/invoke/VarHandle" ∧ (parseMethodDescriptor yX6_carryWalkerIn.desc).map (fun d => d.parameters.length) = some 0 := by decide +kernel
theorem hdV_yX6_carryOrder : yX6_carryOrder.cls = RX6 ∧ yX6_carryOrder.cls ≠ "java/lang/invoke/MethodHandle" ∧ yX6_carryOrder.cls ≠ "java/lang/invoke/VarHandle" ∧ (parseMethodDescriptor yX6_carryOrder.desc).map (fun d => d.parameters.length) = some 0 := by decide +kernel
theorem hdV_yX6_carryOut : yX6_carryOut.cls = RX6 ∧ yX6_carryOut.cls ≠ "java/lang/invoke/MethodHandle" ∧ yX6_carryOut.cls ≠ "java/lang/invoke/VarHandle" ∧ (parseMethodDescriptor yX6_carryOut.desc).map (fun d => d.parameters.length) = some 0 := by decide +kernel
set_option maxHeartbeats 4000000 in
set_option maxRecDepth 100000 in
theorem c_X6_carryWalkerIn (l : Launch) (X : xX) {S : Nat → xS} {sv hs pf sn nb : Nat → Int32} {ρ : xS}  (hS : ∀ r, r < 11 → Sok (S r)) (hp : Pok pf) {S' : Nat → xS} (ho0 : (va_up S 0 (sWin pf nb (S 0)).1) = S') {res : Int32} (hres : ((sWin pf nb (S 0)).2) = res) : XC l yX6_carryWalkerIn cX6_carryWalkerIn 4 (some .int) 3 65 0 0 X xsh [.ref (xB X + xkey 11 5 0)] 603 603 (xval (xB X) (xGl S (xMi sv hs pf sn nb) ρ)) (xval (xB X) (xGl S' (xMi sv hs pf sn nb) ρ)) (some (.int res)) := by
  refine XC.of RX6 "carryWalkerIn" [(0, .ref (xB X + xkey 11 5 0))] (by decide) rfl rfl (Nat.le_of_ble_eq_true rfl) rfl ?_
  intro p e s m args below meth c ls hx hb hret hml hts hown hlocks hnm hK hW hl
  have hW : XG X (xGl S (xMi sv hs pf sn nb) ρ) s.heap [] := hW
  obtain ⟨Q0, hQ0⟩ : ∃ z, z = MQ below (xQ X xsh 603 (xval (xB X) (xGl S' (xMi sv hs pf sn nb) ρ)) (some (.int res))) args s 0 0 (fun q => xB X ≤ q) := ⟨_, rfl⟩
  rw [← hQ0]
  have hp4 := hp.2.2.2.2.2
  refine lv_aload_n hx hb dX6_carryWalkerIn_0 rfl (lv_at hl 0 rfl) ?_
  refine r_getr (C := RX6) (T := TX6) hx hb hts hown hK hW (xF_mi5).1 (xF_mi5).2 inlX6 rfl (by decide) 0 (by decide) (show xro (xkey 11 5 0) 0 = some (xkey 0 0 0) from by decide +kernel) xw_16 rfl dX6_carryWalkerIn_1 ?_
  refine lv_aload_n hx hb dX6_carryWalkerIn_4 rfl (lv_at hl 0 rfl) ?_
  refine r_getr (C := RX6) (T := TX6) hx hb hts hown hK hW (xF_mi5).1 (xF_mi5).2 inlX6 rfl (by decide) 5 (by decide) (show xro (xkey 11 5 0) 5 = some (xkey 11 2 0) from by decide +kernel) xw_28 rfl dX6_carryWalkerIn_5 ?_
  refine r_getr (C := RX3) (T := TX3) hx hb hts hown hK hW (xF_mi2).1 (xF_mi2).2.1 inlX3 rfl (by decide) 1 (by decide) (show xro (xkey 11 2 0) 1 = some (xkey 11 4 0) from by decide +kernel) xw_888 rfl dX6_carryWalkerIn_8 ?_
  refine lv_iconst (v := 0) hx hb dX6_carryWalkerIn_11 (by decide) ?_
  refine r_iald hx hb hK (XG.in11 hW) (N := 80) (xF_mi4) 0 (by decide) (by decide) (by decide) (xr_mi4 0) (x := nb 0) rfl dX6_carryWalkerIn_12 ?_
  refine lv_aload_n hx hb dX6_carryWalkerIn_13 rfl (lv_at hl 0 rfl) ?_
  refine r_getr (C := RX6) (T := TX6) hx hb hts hown hK hW (xF_mi5).1 (xF_mi5).2 inlX6 rfl (by decide) 5 (by decide) (show xro (xkey 11 5 0) 5 = some (xkey 11 2 0) from by decide +kernel) xw_28 rfl dX6_carryWalkerIn_14 ?_
  refine r_getr (C := RX3) (T := TX3) hx hb hts hown hK hW (xF_mi2).1 (xF_mi2).2.1 inlX3 rfl (by decide) 1 (by decide) (show xro (xkey 11 2 0) 1 = some (xkey 11 4 0) from by decide +kernel) xw_888 rfl dX6_carryWalkerIn_17 ?_
  refine lv_iconst (v := 1) hx hb dX6_carryWalkerIn_20 (by decide) ?_
  refine r_iald hx hb hK (XG.in11 hW) (N := 80) (xF_mi4) 1 (by decide) (by decide) (by decide) (xr_mi4 1) (x := nb 1) rfl dX6_carryWalkerIn_21 ?_
  have hW : XR X (xGl S (xMi sv hs pf sn nb) ρ) 0 (xSt ((S 0) 0 0) ((S 0) 1 0) ((S 0) 2) ((S 0) 3) ((S 0) 4) ((S 0) 5) ((S 0) 6)) _ _ := XG.inS hW 0 (S 0) (by decide) rfl
  refine x_callV hx hb hml hown hts hK hW hl.1 (c_X4_addWalker l X _ (r := 0) (nw := (cW (S 0))) (x := nb 0) (y := nb 1) (hr := (by decide)) (hw := (hS 0 (by decide)).hw) (hw8 := (hS 0 (by decide)).hw8) (ho0 := rfl) (ho1 := rfl) (hres := rfl)) (xF_street 0 (by omega)).1 (xF_street 0 (by omega)).2.1 (by decide) rfl xw_226 xw_227 xw_228 xw_15 xw_229 hdV_yX4_addWalker ⟨Nat.le_of_ble_eq_true rfl, Nat.le_of_ble_eq_true rfl⟩ rfl (Nat.le_of_ble_eq_true rfl) ⟨Nat.le_refl _, Nat.le_refl _⟩ dX6_carryWalkerIn_22 (fun H locs hW => ?_)
  have hW : XR X (xGl S (xMi sv hs pf sn nb) ρ) 0 (s_addWalker (nb 0) (nb 1) (S 0)) H locs := hW
  have hW : XG X (xGl (va_up S 0 (s_addWalker (nb 0) (nb 1) (S 0))) (xMi sv hs pf sn nb) ρ) H locs := by have h := XG.outS (by decide) hW; exact h
  have hk_1 : Sok (s_addWalker (nb 0) (nb 1) (S 0)) := (Sok_addWalker (hS 0 (by decide)))
  refine lv_eqi (y := (r_addWalker (nb 0) (nb 1) (S 0))) rfl ?_
  refine lv_istore_n (lv' := [(1, .int (r_addWalker (nb 0) (nb 1) (S 0))), (0, .ref (xB X + xkey 11 5 0))]) hx hb dX6_carryWalkerIn_25 rfl hl (by decide) rfl (fun ls hl => ?_)
  refine lv_iload_n hx hb dX6_carryWalkerIn_26 rfl (lv_at hl 0 rfl) ?_
  refine lv_istore_n (lv' := [(2, .int (r_addWalker (nb 0) (nb 1) (S 0))), (1, .int (r_addWalker (nb 0) (nb 1) (S 0))), (0, .ref (xB X + xkey 11 5 0))]) hx hb dX6_carryWalkerIn_27 rfl hl (by decide) rfl (fun ls hl => ?_)
  refine lv_iconst (v := nI 2) hx hb dX6_carryWalkerIn_28 (by decide) ?_
  refine lv_istore_n (lv' := [(3, .int (nI 2)), (2, .int (r_addWalker (nb 0) (nb 1) (S 0))), (1, .int (r_addWalker (nb 0) (nb 1) (S 0))), (0, .ref (xB X + xkey 11 5 0))]) hx hb dX6_carryWalkerIn_29 rfl hl (by decide) rfl (fun ls hl => ?_)
  have loop_30 : ∀ (k_30 i : Nat) (τ : xS) (ra : Int32), ((pf 4).toNatClampNeg ≤ i + 2 * k_30 ∧ i + 2 * k_30 ≤ 82) → Sok τ → Fgive nb (r_addWalker (nb 0) (nb 1) (S 0)) (pf 4).toNatClampNeg k_30 i (τ, ra) = Fgive nb (r_addWalker (nb 0) (nb 1) (S 0)) (pf 4).toNatClampNeg 40 2 ((s_addWalker (nb 0) (nb 1) (S 0)), (r_addWalker (nb 0) (nb 1) (S 0))) → ∀ (H : Heap) (locs : List Loc) (ls : Array Slot), XG X (xGl (va_up S 0 τ) (xMi sv hs pf sn nb) ρ) H locs → lv_has ls 4 [(0, .ref (xB X + xkey 11 5 0)), (1, .int (r_addWalker (nb 0) (nb 1) (S 0))), (2, .int ra), (3, .int (nI i))] → W p l e { frames := 3, cells := 0, slots := 0, locals := 65 } s m args below meth c H locs 0 0 Q0 (F0 m 30 ls []) := by
    intro k_30
    induction k_30 with
    | zero =>
      intro i τ ra hik_30 hv0_30 hsp_30 H locs ls hW hl
      refine lv_iload_n hx hb dX6_carryWalkerIn_30 rfl (lv_at hl 3 rfl) ?_
      refine lv_iconst (v := 1) hx hb dX6_carryWalkerIn_31 (by decide) ?_
      refine lv_iadd hx hb dX6_carryWalkerIn_32 ?_
      refine lv_eqi (y := nI (i + 1)) (nI_1 i) ?_
      refine lv_aload_n hx hb dX6_carryWalkerIn_33 rfl (lv_at hl 0 rfl) ?_
      refine r_getr (C := RX6) (T := TX6) hx hb hts hown hK hW (xF_mi5).1 (xF_mi5).2 inlX6 rfl (by decide) 5 (by decide) (show xro (xkey 11 5 0) 5 = some (xkey 11 2 0) from by decide +kernel) xw_28 rfl dX6_carryWalkerIn_34 ?_
      refine r_get hx hb hts hown hK (XG.in11 hW) (C := RX3) (T := TX3) (xF_mi2) inlX3 rfl (by decide) 4 (by decide) (by decide +kernel) xw_893 rfl (x := nI ((pf 4).toNatClampNeg)) hp.2.2.2.2.1 dX6_carryWalkerIn_37 ?_
      refine lv_icmp_ge (tgt := 82) hx hb dX6_carryWalkerIn_40 (by decide) (fun c_2 => ?_) (fun c_2 => absurd (xle (by omega) (by omega)) c_2)
      refine lv_iload_n hx hb dX6_carryWalkerIn_82 rfl (lv_at hl 2 rfl) ?_
      obtain rfl : (va_up S 0 τ) = S' := by (rw [← ho0]) <;> (unfold sWin; rw [← hsp_30]; rfl)
      obtain rfl : ra = res := by (rw [← hres]) <;> (unfold sWin; rw [← hsp_30]; rfl)
      rw [hQ0]
      exact x_iret hx hb hret hlocks rfl hW rfl dX6_carryWalkerIn_83
    | succ k_30 ih_30 =>
      intro i τ ra hik_30 hv0_30 hsp_30 H locs ls hW hl
      refine lv_iload_n hx hb dX6_carryWalkerIn_30 rfl (lv_at hl 3 rfl) ?_
      refine lv_iconst (v := 1) hx hb dX6_carryWalkerIn_31 (by decide) ?_
      refine lv_iadd hx hb dX6_carryWalkerIn_32 ?_
      refine lv_eqi (y := nI (i + 1)) (nI_1 i) ?_
      refine lv_aload_n hx hb dX6_carryWalkerIn_33 rfl (lv_at hl 0 rfl) ?_
      refine r_getr (C := RX6) (T := TX6) hx hb hts hown hK hW (xF_mi5).1 (xF_mi5).2 inlX6 rfl (by decide) 5 (by decide) (show xro (xkey 11 5 0) 5 = some (xkey 11 2 0) from by decide +kernel) xw_28 rfl dX6_carryWalkerIn_34 ?_
      refine r_get hx hb hts hown hK (XG.in11 hW) (C := RX3) (T := TX3) (xF_mi2) inlX3 rfl (by decide) 4 (by decide) (by decide +kernel) xw_893 rfl (x := nI ((pf 4).toNatClampNeg)) hp.2.2.2.2.1 dX6_carryWalkerIn_37 ?_
      refine lv_icmp_ge (tgt := 82) hx hb dX6_carryWalkerIn_40 (by decide) (fun c_3 => ?_) (fun c_3 => ?_)
      · skip
        refine lv_iload_n hx hb dX6_carryWalkerIn_82 rfl (lv_at hl 2 rfl) ?_
        obtain rfl : (va_up S 0 τ) = S' := by (rw [← ho0]) <;> (unfold sWin; rw [← hsp_30, show Fgive nb _ _ (k_30 + 1) i (τ, ra) = (τ, ra) from (if_pos c_3)])
        obtain rfl : ra = res := by (rw [← hres]) <;> (unfold sWin; rw [← hsp_30, show Fgive nb _ _ (k_30 + 1) i (τ, ra) = (τ, ra) from (if_pos c_3)])
        rw [hQ0]
        exact x_iret hx hb hret hlocks rfl hW rfl dX6_carryWalkerIn_83
      · skip
        refine lv_iload_n hx hb dX6_carryWalkerIn_43 rfl (lv_at hl 2 rfl) ?_
        refine lv_if_lt (tgt := 82) hx hb dX6_carryWalkerIn_44 (by decide) (fun c_4 => ?_) (fun c_4 => ?_)
        · skip
          refine lv_iload_n hx hb dX6_carryWalkerIn_82 rfl (lv_at hl 2 rfl) ?_
          obtain rfl : (va_up S 0 τ) = S' := by (rw [← ho0]) <;> (unfold sWin; rw [← hsp_30, show Fgive nb _ _ (k_30 + 1) i (τ, ra) = (τ, ra) from ((if_neg c_3).trans (if_pos c_4))])
          obtain rfl : ra = res := by (rw [← hres]) <;> (unfold sWin; rw [← hsp_30, show Fgive nb _ _ (k_30 + 1) i (τ, ra) = (τ, ra) from ((if_neg c_3).trans (if_pos c_4))])
          rw [hQ0]
          exact x_iret hx hb hret hlocks rfl hW rfl dX6_carryWalkerIn_83
        · skip
          have hi9 := Nat.lt_of_not_le (fun h => c_3 (xle h (by omega)))
          refine lv_aload_n hx hb dX6_carryWalkerIn_47 rfl (lv_at hl 0 rfl) ?_
          refine r_getr (C := RX6) (T := TX6) hx hb hts hown hK hW (xF_mi5).1 (xF_mi5).2 inlX6 rfl (by decide) 0 (by decide) (show xro (xkey 11 5 0) 0 = some (xkey 0 0 0) from by decide +kernel) xw_16 rfl dX6_carryWalkerIn_48 ?_
          refine lv_iload_n hx hb dX6_carryWalkerIn_51 rfl (lv_at hl 1 rfl) ?_
          refine lv_aload_n hx hb dX6_carryWalkerIn_52 rfl (lv_at hl 0 rfl) ?_
          refine r_getr (C := RX6) (T := TX6) hx hb hts hown hK hW (xF_mi5).1 (xF_mi5).2 inlX6 rfl (by decide) 5 (by decide) (show xro (xkey 11 5 0) 5 = some (xkey 11 2 0) from by decide +kernel) xw_28 rfl dX6_carryWalkerIn_53 ?_
          refine r_getr (C := RX3) (T := TX3) hx hb hts hown hK hW (xF_mi2).1 (xF_mi2).2.1 inlX3 rfl (by decide) 1 (by decide) (show xro (xkey 11 2 0) 1 = some (xkey 11 4 0) from by decide +kernel) xw_888 rfl dX6_carryWalkerIn_56 ?_
          refine lv_iload_n hx hb dX6_carryWalkerIn_59 rfl (lv_at hl 3 rfl) ?_
          refine r_iald hx hb hK (XG.in11 hW) (N := 80) (xF_mi4) i (by omega) (by decide) rfl (xr_mi4 i) (x := nb i) rfl dX6_carryWalkerIn_60 ?_
          refine lv_aload_n hx hb dX6_carryWalkerIn_61 rfl (lv_at hl 0 rfl) ?_
          refine r_getr (C := RX6) (T := TX6) hx hb hts hown hK hW (xF_mi5).1 (xF_mi5).2 inlX6 rfl (by decide) 5 (by decide) (show xro (xkey 11 5 0) 5 = some (xkey 11 2 0) from by decide +kernel) xw_28 rfl dX6_carryWalkerIn_62 ?_
          refine r_getr (C := RX3) (T := TX3) hx hb hts hown hK hW (xF_mi2).1 (xF_mi2).2.1 inlX3 rfl (by decide) 1 (by decide) (show xro (xkey 11 2 0) 1 = some (xkey 11 4 0) from by decide +kernel) xw_888 rfl dX6_carryWalkerIn_65 ?_
          refine lv_iload_n hx hb dX6_carryWalkerIn_68 rfl (lv_at hl 3 rfl) ?_
          refine lv_iconst (v := 1) hx hb dX6_carryWalkerIn_69 (by decide) ?_
          refine lv_iadd hx hb dX6_carryWalkerIn_70 ?_
          refine lv_eqi (y := nI (i + 1)) (nI_1 i) ?_
          refine r_iald hx hb hK (XG.in11 hW) (N := 80) (xF_mi4) (i + 1) (by omega) (by decide) rfl (xr_mi4 (i + 1)) (x := nb (i + 1)) rfl dX6_carryWalkerIn_71 ?_
          have hW : XR X (xGl (va_up S 0 τ) (xMi sv hs pf sn nb) ρ) 0 (xSt (τ 0 0) (τ 1 0) (τ 2) (τ 3) (τ 4) (τ 5) (τ 6)) _ _ := XG.inS hW 0 τ (by decide) va_up_at
          refine x_callV hx hb hml hown hts hK hW hl.1 (c_X4_giveGoal l X _ (r := 0) (nw := (cW τ)) (x := (r_addWalker (nb 0) (nb 1) (S 0))) (a := nb i) (b := nb (i + 1)) (gq := (fun j => (τ 4 j 2).toNatClampNeg)) (hr := (by decide)) (hw := hv0_30.hw) (hw8 := hv0_30.hw8) (hgq := hv0_30.hgq) (ho0 := rfl) (ho1 := rfl) (ho2 := rfl) (hres := rfl)) (xF_street 0 (by omega)).1 (xF_street 0 (by omega)).2.1 (by decide) rfl xw_254 xw_255 xw_256 xw_15 xw_257 hdV_yX4_giveGoal ⟨Nat.le_of_ble_eq_true rfl, Nat.le_of_ble_eq_true rfl⟩ rfl (Nat.le_of_ble_eq_true rfl) ⟨Nat.le_refl _, Nat.le_refl _⟩ dX6_carryWalkerIn_72 (fun H locs hW => ?_)
          have hW : XR X (xGl (va_up S 0 τ) (xMi sv hs pf sn nb) ρ) 0 (s_giveGoal (r_addWalker (nb 0) (nb 1) (S 0)) (nb i) (nb (i + 1)) τ) H locs := hW
          have hW : XG X (xGl (va_up S 0 (s_giveGoal (r_addWalker (nb 0) (nb 1) (S 0)) (nb i) (nb (i + 1)) τ)) (xMi sv hs pf sn nb) ρ) H locs := by have h := XG.outS (by decide) hW; rw [xuu] at h; exact h
          have hk_5 : Sok (s_giveGoal (r_addWalker (nb 0) (nb 1) (S 0)) (nb i) (nb (i + 1)) τ) := (Sok_giveGoal hv0_30)
          refine lv_eqi (y := (r_giveGoal (r_addWalker (nb 0) (nb 1) (S 0)) (nb i) (nb (i + 1)) τ)) rfl ?_
          refine lv_istore_n (lv' := [(2, .int (r_giveGoal (r_addWalker (nb 0) (nb 1) (S 0)) (nb i) (nb (i + 1)) τ)), (0, .ref (xB X + xkey 11 5 0)), (1, .int (r_addWalker (nb 0) (nb 1) (S 0))), (3, .int (nI i))]) hx hb dX6_carryWalkerIn_75 rfl hl (by decide) rfl (fun ls hl => ?_)
          refine lv_iinc (v := nI (i + 2)) (lv' := [(3, .int (nI (i + 2))), (2, .int (r_giveGoal (r_addWalker (nb 0) (nb 1) (S 0)) (nb i) (nb (i + 1)) τ)), (0, .ref (xB X + xkey 11 5 0)), (1, .int (r_addWalker (nb 0) (nb 1) (S 0)))]) hx hb dX6_carryWalkerIn_76 hl (k := 3) rfl (xnI2 i) (by decide) rfl (fun ls hl => ?_)
          refine lv_goto (tgt := 30) hx hb dX6_carryWalkerIn_79 (by decide) ?_
          refine ih_30 (i + 2) (s_giveGoal (r_addWalker (nb 0) (nb 1) (S 0)) (nb i) (nb (i + 1)) τ) (r_giveGoal (r_addWalker (nb 0) (nb 1) (S 0)) (nb i) (nb (i + 1)) τ) (by omega) hk_5 ?_ H locs ls hW (lv_sub hl [2, 3, 1, 0] rfl)
          exact ((if_neg c_3).trans (if_neg c_4)).symm.trans hsp_30
  exact loop_30 40 2 (s_addWalker (nb 0) (nb 1) (S 0)) (r_addWalker (nb 0) (nb 1) (S 0)) (by omega) hk_1 rfl _ _ _ hW (lv_sub hl [3, 2, 1, 0] rfl)
set_option maxHeartbeats 4000000 in
set_option maxRecDepth 100000 in
theorem c_X6_carryOrder (l : Launch) (X : xX) {S : Nat → xS} {sv hs pf sn nb : Nat → Int32} {ρ : xS}  (hS : ∀ r, r < 11 → Sok (S r)) (hp : Pok pf) {S' : Nat → xS} (ho0 : (va_up S 0 (sOrder pf nb (S 0)).1) = S') {res : Int32} (hres : ((sOrder pf nb (S 0)).2) = res) : XC l yX6_carryOrder cX6_carryOrder 1 (some .int) 6 145 0 0 X xsh [.ref (xB X + xkey 11 5 0)] 603 603 (xval (xB X) (xGl S (xMi sv hs pf sn nb) ρ)) (xval (xB X) (xGl S' (xMi sv hs pf sn nb) ρ)) (some (.int res)) := by
  refine XC.of RX6 "carryOrder" [(0, .ref (xB X + xkey 11 5 0))] (by decide) rfl rfl (Nat.le_of_ble_eq_true rfl) rfl ?_
  intro p e s m args below meth c ls hx hb hret hml hts hown hlocks hnm hK hW hl
  have hW : XG X (xGl S (xMi sv hs pf sn nb) ρ) s.heap [] := hW
  obtain ⟨Q0, hQ0⟩ : ∃ z, z = MQ below (xQ X xsh 603 (xval (xB X) (xGl S' (xMi sv hs pf sn nb) ρ)) (some (.int res))) args s 0 0 (fun q => xB X ≤ q) := ⟨_, rfl⟩
  rw [← hQ0]
  refine lv_aload_n hx hb dX6_carryOrder_0 rfl (lv_at hl 0 rfl) ?_
  refine r_getr (C := RX6) (T := TX6) hx hb hts hown hK hW (xF_mi5).1 (xF_mi5).2 inlX6 rfl (by decide) 5 (by decide) (show xro (xkey 11 5 0) 5 = some (xkey 11 2 0) from by decide +kernel) xw_28 rfl dX6_carryOrder_1 ?_
  refine r_get hx hb hts hown hK (XG.in11 hW) (C := RX3) (T := TX3) (xF_mi2) inlX3 rfl (by decide) 5 (by decide) (by decide +kernel) xw_887 rfl (x := pf 5) rfl dX6_carryOrder_4 ?_
  by_cases c_1 : pf 5 = 99
  · skip
    refine lv_lookup (off := 46) (tgt := 53) hx hb dX6_carryOrder_7 (by decide) (by rw [c_1]; decide) (by decide) ?_
    refine lv_aload_n hx hb dX6_carryOrder_53 rfl (lv_at hl 0 rfl) ?_
    refine r_getr (C := RX6) (T := TX6) hx hb hts hown hK hW (xF_mi5).1 (xF_mi5).2 inlX6 rfl (by decide) 0 (by decide) (show xro (xkey 11 5 0) 0 = some (xkey 0 0 0) from by decide +kernel) xw_16 rfl dX6_carryOrder_54 ?_
    refine lv_aload_n hx hb dX6_carryOrder_57 rfl (lv_at hl 0 rfl) ?_
    refine r_getr (C := RX6) (T := TX6) hx hb hts hown hK hW (xF_mi5).1 (xF_mi5).2 inlX6 rfl (by decide) 5 (by decide) (show xro (xkey 11 5 0) 5 = some (xkey 11 2 0) from by decide +kernel) xw_28 rfl dX6_carryOrder_58 ?_
    refine r_getr (C := RX3) (T := TX3) hx hb hts hown hK hW (xF_mi2).1 (xF_mi2).2.1 inlX3 rfl (by decide) 1 (by decide) (show xro (xkey 11 2 0) 1 = some (xkey 11 4 0) from by decide +kernel) xw_888 rfl dX6_carryOrder_61 ?_
    refine lv_iconst (v := 0) hx hb dX6_carryOrder_64 (by decide) ?_
    refine r_iald hx hb hK (XG.in11 hW) (N := 80) (xF_mi4) 0 (by decide) (by decide) (by decide) (xr_mi4 0) (x := nb 0) rfl dX6_carryOrder_65 ?_
    have hW : XR X (xGl S (xMi sv hs pf sn nb) ρ) 0 (xSt ((S 0) 0 0) ((S 0) 1 0) ((S 0) 2) ((S 0) 3) ((S 0) 4) ((S 0) 5) ((S 0) 6)) _ _ := XG.inS hW 0 (S 0) (by decide) rfl
    refine x_callV hx hb hml hown hts hK hW hl.1 (c_X4_coughByOrder l X _ (r := 0) (n := (cN (S 0))) (x := nb 0) (hr := (by decide)) (hn := (hS 0 (by decide)).hn) (hn16 := (hS 0 (by decide)).hn16) (ho0 := rfl) (hres := rfl)) (xF_street 0 (by omega)).1 (xF_street 0 (by omega)).2.1 (by decide) rfl xw_327 xw_328 xw_329 xw_15 xw_330 hdV_yX4_coughByOrder ⟨Nat.le_of_ble_eq_true rfl, Nat.le_of_ble_eq_true rfl⟩ rfl (Nat.le_of_ble_eq_true rfl) ⟨Nat.le_refl _, Nat.le_refl _⟩ dX6_carryOrder_66 (fun H locs hW => ?_)
    have hW : XR X (xGl S (xMi sv hs pf sn nb) ρ) 0 (s_coughByOrder (nb 0) (S 0)) H locs := hW
    have hW : XG X (xGl (va_up S 0 (s_coughByOrder (nb 0) (S 0))) (xMi sv hs pf sn nb) ρ) H locs := by have h := XG.outS (by decide) hW; exact h
    have hk_2 : Sok (s_coughByOrder (nb 0) (S 0)) := (Sok_coughByOrder (hS 0 (by decide)))
    refine lv_eqi (y := (r_coughByOrder (nb 0) (S 0))) rfl ?_
    obtain rfl : (va_up S 0 (s_coughByOrder (nb 0) (S 0))) = S' := by (rw [← ho0]) <;> (unfold sOrder; (rw [if_pos c_1]) <;> (first | rfl | exact xus.symm))
    obtain rfl : (r_coughByOrder (nb 0) (S 0)) = res := by (rw [← hres]) <;> (unfold sOrder; (rw [if_pos c_1]) <;> (first | rfl | exact xus.symm))
    rw [hQ0]
    exact x_iret hx hb hret hlocks rfl hW rfl dX6_carryOrder_69
  · skip
    by_cases c_3 : pf 5 = 109
    · skip
      refine lv_lookup (off := 63) (tgt := 70) hx hb dX6_carryOrder_7 (by decide) (by rw [c_3]; decide) (by decide) ?_
      refine lv_aload_n hx hb dX6_carryOrder_70 rfl (lv_at hl 0 rfl) ?_
      refine r_getr (C := RX6) (T := TX6) hx hb hts hown hK hW (xF_mi5).1 (xF_mi5).2 inlX6 rfl (by decide) 0 (by decide) (show xro (xkey 11 5 0) 0 = some (xkey 0 0 0) from by decide +kernel) xw_16 rfl dX6_carryOrder_71 ?_
      refine lv_aload_n hx hb dX6_carryOrder_74 rfl (lv_at hl 0 rfl) ?_
      refine r_getr (C := RX6) (T := TX6) hx hb hts hown hK hW (xF_mi5).1 (xF_mi5).2 inlX6 rfl (by decide) 5 (by decide) (show xro (xkey 11 5 0) 5 = some (xkey 11 2 0) from by decide +kernel) xw_28 rfl dX6_carryOrder_75 ?_
      refine r_getr (C := RX3) (T := TX3) hx hb hts hown hK hW (xF_mi2).1 (xF_mi2).2.1 inlX3 rfl (by decide) 1 (by decide) (show xro (xkey 11 2 0) 1 = some (xkey 11 4 0) from by decide +kernel) xw_888 rfl dX6_carryOrder_78 ?_
      refine lv_iconst (v := 0) hx hb dX6_carryOrder_81 (by decide) ?_
      refine r_iald hx hb hK (XG.in11 hW) (N := 80) (xF_mi4) 0 (by decide) (by decide) (by decide) (xr_mi4 0) (x := nb 0) rfl dX6_carryOrder_82 ?_
      refine lv_aload_n hx hb dX6_carryOrder_83 rfl (lv_at hl 0 rfl) ?_
      refine r_getr (C := RX6) (T := TX6) hx hb hts hown hK hW (xF_mi5).1 (xF_mi5).2 inlX6 rfl (by decide) 5 (by decide) (show xro (xkey 11 5 0) 5 = some (xkey 11 2 0) from by decide +kernel) xw_28 rfl dX6_carryOrder_84 ?_
      refine r_getr (C := RX3) (T := TX3) hx hb hts hown hK hW (xF_mi2).1 (xF_mi2).2.1 inlX3 rfl (by decide) 1 (by decide) (show xro (xkey 11 2 0) 1 = some (xkey 11 4 0) from by decide +kernel) xw_888 rfl dX6_carryOrder_87 ?_
      refine lv_iconst (v := 1) hx hb dX6_carryOrder_90 (by decide) ?_
      refine r_iald hx hb hK (XG.in11 hW) (N := 80) (xF_mi4) 1 (by decide) (by decide) (by decide) (xr_mi4 1) (x := nb 1) rfl dX6_carryOrder_91 ?_
      have hW : XR X (xGl S (xMi sv hs pf sn nb) ρ) 0 (xSt ((S 0) 0 0) ((S 0) 1 0) ((S 0) 2) ((S 0) 3) ((S 0) 4) ((S 0) 5) ((S 0) 6)) _ _ := XG.inS hW 0 (S 0) (by decide) rfl
      refine x_callV hx hb hml hown hts hK hW hl.1 (c_X4_mendLamp l X _ (r := 0) (n := (cN (S 0))) (x := nb 0) (h := nb 1) (hr := (by decide)) (hn := (hS 0 (by decide)).hn) (hn16 := (hS 0 (by decide)).hn16) (ho0 := rfl) (hres := rfl)) (xF_street 0 (by omega)).1 (xF_street 0 (by omega)).2.1 (by decide) rfl xw_290 xw_291 xw_292 xw_15 xw_293 hdV_yX4_mendLamp ⟨Nat.le_of_ble_eq_true rfl, Nat.le_of_ble_eq_true rfl⟩ rfl (Nat.le_of_ble_eq_true rfl) ⟨Nat.le_refl _, Nat.le_refl _⟩ dX6_carryOrder_92 (fun H locs hW => ?_)
      have hW : XR X (xGl S (xMi sv hs pf sn nb) ρ) 0 (s_mendLamp (nb 0) (nb 1) (S 0)) H locs := hW
      have hW : XG X (xGl (va_up S 0 (s_mendLamp (nb 0) (nb 1) (S 0))) (xMi sv hs pf sn nb) ρ) H locs := by have h := XG.outS (by decide) hW; exact h
      have hk_4 : Sok (s_mendLamp (nb 0) (nb 1) (S 0)) := (Sok_mendLamp (hS 0 (by decide)))
      refine lv_eqi (y := (r_mendLamp (nb 0) (nb 1) (S 0))) rfl ?_
      obtain rfl : (va_up S 0 (s_mendLamp (nb 0) (nb 1) (S 0))) = S' := by (rw [← ho0]) <;> (unfold sOrder; (rw [if_neg c_1, if_pos c_3]) <;> (first | rfl | exact xus.symm))
      obtain rfl : (r_mendLamp (nb 0) (nb 1) (S 0)) = res := by (rw [← hres]) <;> (unfold sOrder; (rw [if_neg c_1, if_pos c_3]) <;> (first | rfl | exact xus.symm))
      rw [hQ0]
      exact x_iret hx hb hret hlocks rfl hW rfl dX6_carryOrder_95
    · skip
      by_cases c_5 : pf 5 = 116
      · skip
        refine lv_lookup (off := 89) (tgt := 96) hx hb dX6_carryOrder_7 (by decide) (by rw [c_5]; decide) (by decide) ?_
        refine lv_aload_n hx hb dX6_carryOrder_96 rfl (lv_at hl 0 rfl) ?_
        refine r_getr (C := RX6) (T := TX6) hx hb hts hown hK hW (xF_mi5).1 (xF_mi5).2 inlX6 rfl (by decide) 0 (by decide) (show xro (xkey 11 5 0) 0 = some (xkey 0 0 0) from by decide +kernel) xw_16 rfl dX6_carryOrder_97 ?_
        refine lv_aload_n hx hb dX6_carryOrder_100 rfl (lv_at hl 0 rfl) ?_
        refine r_getr (C := RX6) (T := TX6) hx hb hts hown hK hW (xF_mi5).1 (xF_mi5).2 inlX6 rfl (by decide) 5 (by decide) (show xro (xkey 11 5 0) 5 = some (xkey 11 2 0) from by decide +kernel) xw_28 rfl dX6_carryOrder_101 ?_
        refine r_getr (C := RX3) (T := TX3) hx hb hts hown hK hW (xF_mi2).1 (xF_mi2).2.1 inlX3 rfl (by decide) 1 (by decide) (show xro (xkey 11 2 0) 1 = some (xkey 11 4 0) from by decide +kernel) xw_888 rfl dX6_carryOrder_104 ?_
        refine lv_iconst (v := 0) hx hb dX6_carryOrder_107 (by decide) ?_
        refine r_iald hx hb hK (XG.in11 hW) (N := 80) (xF_mi4) 0 (by decide) (by decide) (by decide) (xr_mi4 0) (x := nb 0) rfl dX6_carryOrder_108 ?_
        have hW : XR X (xGl S (xMi sv hs pf sn nb) ρ) 0 (xSt ((S 0) 0 0) ((S 0) 1 0) ((S 0) 2) ((S 0) 3) ((S 0) 4) ((S 0) 5) ((S 0) 6)) _ _ := XG.inS hW 0 (S 0) (by decide) rfl
        refine x_callV hx hb hml hown hts hK hW hl.1 (c_X4_letPass l X _ (r := 0) (n := (cN (S 0))) (nh := (cH (S 0))) (nw := (cW (S 0))) (x := nb 0) (hr := (by decide)) (hn := (hS 0 (by decide)).hn) (hn16 := (hS 0 (by decide)).hn16) (hh := (hS 0 (by decide)).hh) (hh8 := (hS 0 (by decide)).hh8) (hw := (hS 0 (by decide)).hw) (hw8 := (hS 0 (by decide)).hw8) (ho0 := rfl) (ho1 := rfl) (ho2 := rfl) (ho3 := rfl) (ho4 := rfl) (ho5 := rfl) (hres := rfl)) (xF_street 0 (by omega)).1 (xF_street 0 (by omega)).2.1 (by decide) rfl xw_396 xw_397 xw_398 xw_15 xw_399 hdV_yX4_letPass ⟨Nat.le_of_ble_eq_true rfl, Nat.le_of_ble_eq_true rfl⟩ rfl (Nat.le_of_ble_eq_true rfl) ⟨Nat.le_refl _, Nat.le_refl _⟩ dX6_carryOrder_109 (fun H locs hW => ?_)
        have hW : XR X (xGl S (xMi sv hs pf sn nb) ρ) 0 (s_letPass (nb 0) (S 0)) H locs := hW
        have hW : XG X (xGl (va_up S 0 (s_letPass (nb 0) (S 0))) (xMi sv hs pf sn nb) ρ) H locs := by have h := XG.outS (by decide) hW; exact h
        have hk_6 : Sok (s_letPass (nb 0) (S 0)) := (Sok_letPass (hS 0 (by decide)))
        refine lv_eqi (y := (r_letPass (nb 0) (S 0))) rfl ?_
        obtain rfl : (va_up S 0 (s_letPass (nb 0) (S 0))) = S' := by (rw [← ho0]) <;> (unfold sOrder; (rw [if_neg c_1, if_neg c_3, if_pos c_5]) <;> (first | rfl | exact xus.symm))
        obtain rfl : (r_letPass (nb 0) (S 0)) = res := by (rw [← hres]) <;> (unfold sOrder; (rw [if_neg c_1, if_neg c_3, if_pos c_5]) <;> (first | rfl | exact xus.symm))
        rw [hQ0]
        exact x_iret hx hb hret hlocks rfl hW rfl dX6_carryOrder_112
      · skip
        by_cases c_7 : pf 5 = 119
        · skip
          refine lv_lookup (off := 41) (tgt := 48) hx hb dX6_carryOrder_7 (by decide) (by rw [c_7]; decide) (by decide) ?_
          refine lv_aload_n hx hb dX6_carryOrder_48 rfl (lv_at hl 0 rfl) ?_
          refine x_callV hx hb hml hown hts hK hW hl.1 (c_X6_carryWalkerIn l X   (hS := hS) (hp := hp) (ho0 := rfl) (hres := rfl)) (xF_mi5).1 (xF_mi5).2 (by decide) rfl xw_889 xw_890 xw_891 xw_2 xw_892 hdV_yX6_carryWalkerIn ⟨Nat.le_of_ble_eq_true rfl, Nat.le_of_ble_eq_true rfl⟩ rfl (Nat.le_of_ble_eq_true rfl) ⟨Nat.le_refl _, Nat.le_refl _⟩ dX6_carryOrder_49 (fun H locs hW => ?_)
          have hk_8 : Sok ((sWin pf nb (S 0)).1) := Sok_win (hS 0 (by decide))
          have hW : XG X (xGl (va_up S 0 ((sWin pf nb (S 0)).1)) (xMi sv hs pf sn nb) ρ) H locs := by have h := hW; exact h
          refine lv_eqi (y := (sWin pf nb (S 0)).2) rfl ?_
          obtain rfl : (va_up S 0 ((sWin pf nb (S 0)).1)) = S' := by (rw [← ho0]) <;> (unfold sOrder; (rw [if_neg c_1, if_neg c_3, if_neg c_5, if_pos c_7]) <;> (first | rfl | exact xus.symm))
          obtain rfl : (sWin pf nb (S 0)).2 = res := by (rw [← hres]) <;> (unfold sOrder; (rw [if_neg c_1, if_neg c_3, if_neg c_5, if_pos c_7]) <;> (first | rfl | exact xus.symm))
          rw [hQ0]
          exact x_iret hx hb hret hlocks rfl hW rfl dX6_carryOrder_52
        · skip
          refine lv_lookup (off := 106) (tgt := 113) hx hb dX6_carryOrder_7 (by decide) (by show Op.lookupswitch.offset [(99, 46), (109, 63), (116, 89), (119, 41)] 106 _ = 106; rw [Op.lookupswitch.offset_cons, if_neg (x_nt2 c_1 (by decide)), Op.lookupswitch.offset_cons, if_neg (x_nt2 c_3 (by decide)), Op.lookupswitch.offset_cons, if_neg (x_nt2 c_5 (by decide)), Op.lookupswitch.offset_cons, if_neg (x_nt2 c_7 (by decide))]; rfl) (by decide) ?_
          refine lv_bipush (v := (-3)) hx hb dX6_carryOrder_113 (by decide) ?_
          obtain rfl : S = S' := by (rw [← ho0]) <;> (unfold sOrder; (rw [if_neg c_1, if_neg c_3, if_neg c_5, if_neg c_7]) <;> (first | rfl | exact xus.symm))
          obtain rfl : (-3) = res := by (rw [← hres]) <;> (unfold sOrder; (rw [if_neg c_1, if_neg c_3, if_neg c_5, if_neg c_7]) <;> (first | rfl | exact xus.symm))
          rw [hQ0]
          exact x_iret hx hb hret hlocks rfl hW rfl dX6_carryOrder_115
set_option maxHeartbeats 4000000 in
set_option maxRecDepth 100000 in
theorem c_X6_carryOut (l : Launch) (X : xX) {S : Nat → xS} {sv hs pf sn nb : Nat → Int32} {ρ : xS}  (hS : ∀ r, r < 11 → Sok (S r)) (hH : Hok hs) (hp : Pok pf) (hc : Cok sn) {S' : Nat → xS} (ho0 : (if (Ffirst sn (pf, nb)).2 = -6 then va_up (Sdraft S hs) 0 (sDone sn (pf, nb) (S 0)).1.1 else S) = S') {hs' : Nat → Int32} (ho1 : (if (Ffirst sn (pf, nb)).2 = -6 then Fkeep (sDone sn (pf, nb) (S 0)).2 hs else hs) = hs') {pf' : Nat → Int32} (ho2 : (if (Ffirst sn (pf, nb)).2 = -6 then va_up (sDone sn (pf, nb) (S 0)).1.2.1 2 0 else (Ffirst sn (pf, nb)).1.1) = pf') {nb' : Nat → Int32} (ho3 : (if (Ffirst sn (pf, nb)).2 = -6 then (sDone sn (pf, nb) (S 0)).1.2.2 else (Ffirst sn (pf, nb)).1.2) = nb') {res : Int32} (hres : (if (Ffirst sn (pf, nb)).2 = -6 then (sDone sn (pf, nb) (S 0)).2 else -3) = res) : XC l yX6_carryOut cX6_carryOut 2 (some .int) 7 165 0 0 X xsh [.ref (xB X + xkey 11 5 0)] 603 603 (xval (xB X) (xGl S (xMi sv hs pf sn nb) ρ)) (xval (xB X) (xGl S' (xMi sv hs' pf' sn nb') ρ)) (some (.int res)) := by
  refine XC.of RX6 "carryOut" [(0, .ref (xB X + xkey 11 5 0))] (by decide) rfl rfl (Nat.le_of_ble_eq_true rfl) rfl ?_
  intro p e s m args below meth c ls hx hb hret hml hts hown hlocks hnm hK hW hl
  have hW : XG X (xGl S (xMi sv hs pf sn nb) ρ) s.heap [] := hW
  obtain ⟨Q0, hQ0⟩ : ∃ z, z = MQ below (xQ X xsh 603 (xval (xB X) (xGl S' (xMi sv hs' pf' sn nb') ρ)) (some (.int res))) args s 0 0 (fun q => xB X ≤ q) := ⟨_, rfl⟩
  rw [← hQ0]
  have hd6 := hH.2.1
  refine lv_aload_n hx hb dX6_carryOut_0 rfl (lv_at hl 0 rfl) ?_
  refine r_getr (C := RX6) (T := TX6) hx hb hts hown hK hW (xF_mi5).1 (xF_mi5).2 inlX6 rfl (by decide) 5 (by decide) (show xro (xkey 11 5 0) 5 = some (xkey 11 2 0) from by decide +kernel) xw_28 rfl dX6_carryOut_1 ?_
  have hW := XG.in11 hW
  obtain ⟨q_1, eq_1⟩ : ∃ z, z = Ffirst sn (pf, nb) := ⟨_, rfl⟩
  refine x_callV hx hb hml hown hts hK hW hl.1 (c_X3_firstFault l X _  (hp := hp) (hc := (by assumption)) (ho0 := (congrArg (fun z => z.1.1) eq_1.symm)) (ho1 := (congrArg (fun z => z.1.2) eq_1.symm)) (hres := (congrArg (fun z => z.2) eq_1.symm))) (xF_mi2).1 (xF_mi2).2.1 (by decide) rfl xw_796 xw_797 xw_798 xw_27 xw_799 hdV_yX3_firstFault ⟨Nat.le_of_ble_eq_true rfl, Nat.le_of_ble_eq_true rfl⟩ rfl (Nat.le_of_ble_eq_true rfl) ⟨Nat.le_refl _, Nat.le_refl _⟩ dX6_carryOut_4 (fun H locs hW => ?_)
  have hW : XG X (xGl S (xMi sv hs q_1.1.1 sn q_1.1.2) ρ) H locs := XG.out11 hW
  have hp_2 : Pok q_1.1.1 := by rw [eq_1]; exact Pok_first (q := (pf, nb)) hp
  refine lv_bipush (v := (-6)) hx hb dX6_carryOut_7 (by decide) ?_
  refine lv_icmp_eq (tgt := 15) hx hb dX6_carryOut_9 (by decide) (fun c_3 => ?_) (fun c_3 => ?_)
  · skip
    refine lv_aload_n hx hb dX6_carryOut_15 rfl (lv_at hl 0 rfl) ?_
    refine r_getr (C := RX6) (T := TX6) hx hb hts hown hK hW (xF_mi5).1 (xF_mi5).2 inlX6 rfl (by decide) 4 (by decide) (show xro (xkey 11 5 0) 4 = some (xkey 11 1 0) from by decide +kernel) xw_24 rfl dX6_carryOut_16 ?_
    refine lv_aload_n hx hb dX6_carryOut_19 rfl (lv_at hl 0 rfl) ?_
    refine r_getr (C := RX6) (T := TX6) hx hb hts hown hK hW (xF_mi5).1 (xF_mi5).2 inlX6 rfl (by decide) 0 (by decide) (show xro (xkey 11 5 0) 0 = some (xkey 0 0 0) from by decide +kernel) xw_16 rfl dX6_carryOut_20 ?_
    refine x_callV hx hb hml hown hts hK hW hl.1 (c_X0_draft l X   (hS := hS) (hH := hH) (ho0 := rfl)) (xF_mi1).1 (xF_mi1).2.1 (by decide) rfl xw_94 xw_95 xw_96 xw_23 xw_97 hdV_yX0_draft ⟨Nat.le_of_ble_eq_true rfl, Nat.le_of_ble_eq_true rfl⟩ rfl (Nat.le_of_ble_eq_true rfl) ⟨Nat.le_refl _, Nat.le_refl _⟩ dX6_carryOut_23 (fun H locs hW => ?_)
    have hk_4 : Sok (s_become (S 0) (S (2 + (hs 1).toNatClampNeg))) := Sok_become (hS 0 (by decide)) (hS _ (by have := hH.2.1; omega))
    have hW : XG X (xGl (va_up S (2 + (hs 1).toNatClampNeg) (s_become (S 0) (S (2 + (hs 1).toNatClampNeg)))) (xMi sv hs q_1.1.1 sn q_1.1.2) ρ) H locs := hW
    obtain ⟨S1, hS1e⟩ : ∃ z, z = (va_up S (2 + (hs 1).toNatClampNeg) (s_become (S 0) (S (2 + (hs 1).toNatClampNeg)))) := ⟨_, rfl⟩
    rw [← hS1e] at hW
    have hS1 : ∀ r, r < 11 → Sok (S1 r) := by rw [hS1e]; exact (hS_up hS hk_4)
    have h10 : S1 0 = S 0 := by rw [hS1e]; exact va_up_ne _ _ (show (0 : Nat) ≠ 2 + (hs 1).toNatClampNeg by omega)
    refine lv_iconst (v := nI 0) hx hb dX6_carryOut_26 (by decide) ?_
    refine lv_istore_n (lv' := [(1, .int (nI 0)), (0, .ref (xB X + xkey 11 5 0))]) hx hb dX6_carryOut_27 rfl hl (by decide) rfl (fun ls hl => ?_)
    refine lv_aload_n hx hb dX6_carryOut_28 rfl (lv_at hl 1 rfl) ?_
    refine r_getr (C := RX6) (T := TX6) hx hb hts hown hK hW (xF_mi5).1 (xF_mi5).2 inlX6 rfl (by decide) 5 (by decide) (show xro (xkey 11 5 0) 5 = some (xkey 11 2 0) from by decide +kernel) xw_28 rfl dX6_carryOut_29 ?_
    have hW := XG.in11 hW
    refine x_callV hx hb hml hown hts hK hW hl.1 (c_X3_rewind l X _  (hp := hp_2) (ho0 := rfl)) (xF_mi2).1 (xF_mi2).2.1 (by decide) rfl xw_878 xw_802 xw_803 xw_27 xw_804 hdV_yX3_rewind ⟨Nat.le_of_ble_eq_true rfl, Nat.le_of_ble_eq_true rfl⟩ rfl (Nat.le_of_ble_eq_true rfl) ⟨Nat.le_refl _, Nat.le_refl _⟩ dX6_carryOut_32 (fun H locs hW => ?_)
    have hW : XG X (xGl S1 (xMi sv hs (va_up q_1.1.1 3 0) sn q_1.1.2) ρ) H locs := XG.out11 hW
    have hp_5 : Pok (va_up q_1.1.1 3 0) := Pok_3 hp_2
    have hW : XG X (xGl (va_up S1 0 (S1 0)) (xMi sv hs (va_up q_1.1.1 3 0) sn q_1.1.2) ρ) H locs := by rw [xus]; exact hW
    have loop_35 : ∀ (k_35 i : Nat) (τ : xS) (pa : Nat → Int32) (ua : Nat → Int32), i + k_35 = 80 → Sok τ → Pok pa → Fdone sn k_35 i (τ, (pa, ua)) = Fdone sn 80 0 ((S1 0), ((va_up q_1.1.1 3 0), q_1.1.2)) → ∀ (H : Heap) (locs : List Loc) (ls : Array Slot), XG X (xGl (va_up S1 0 τ) (xMi sv hs pa sn ua) ρ) H locs → lv_has ls 2 [(0, .ref (xB X + xkey 11 5 0)), (1, .int (nI i))] → W p l e { frames := 7, cells := 0, slots := 0, locals := 165 } s m args below meth c H locs 0 0 Q0 (F0 m 35 ls []) := by
      intro k_35
      induction k_35 with
      | zero =>
        intro i τ pa ua hik_35 hv0_35 hv1_35 hsp_35 H locs ls hW hl
        refine lv_iload_n hx hb dX6_carryOut_35 rfl (lv_at hl 1 rfl) ?_
        refine lv_bipush (v := nI 80) hx hb dX6_carryOut_36 (by decide) ?_
        refine lv_icmp_ge (tgt := 64) hx hb dX6_carryOut_38 (by decide) (fun c_6 => ?_) (fun c_6 => absurd (xge_refl (by omega)) c_6)
        have hD : ((τ, (pa, ua)), nI i) = sDone sn (pf, nb) (S 0) := by unfold sDone; rw [← eq_1, ← h10]; exact hsp_35
        refine lv_aload_n hx hb dX6_carryOut_64 rfl (lv_at hl 0 rfl) ?_
        refine r_getr (C := RX6) (T := TX6) hx hb hts hown hK hW (xF_mi5).1 (xF_mi5).2 inlX6 rfl (by decide) 5 (by decide) (show xro (xkey 11 5 0) 5 = some (xkey 11 2 0) from by decide +kernel) xw_28 rfl dX6_carryOut_65 ?_
        have hW := XG.in11 hW
        refine x_callV hx hb hml hown hts hK hW hl.1 (c_X3_clear l X _   (ho0 := rfl)) (xF_mi2).1 (xF_mi2).2.1 (by decide) rfl xw_784 xw_785 xw_786 xw_27 xw_787 hdV_yX3_clear ⟨Nat.le_of_ble_eq_true rfl, Nat.le_of_ble_eq_true rfl⟩ rfl (Nat.le_of_ble_eq_true rfl) ⟨Nat.le_refl _, Nat.le_refl _⟩ dX6_carryOut_68 (fun H locs hW => ?_)
        have hW : XG X (xGl (va_up S1 0 τ) (xMi sv hs (va_up pa 2 0) sn ua) ρ) H locs := XG.out11 hW
        refine lv_aload_n hx hb dX6_carryOut_71 rfl (lv_at hl 0 rfl) ?_
        refine r_getr (C := RX6) (T := TX6) hx hb hts hown hK hW (xF_mi5).1 (xF_mi5).2 inlX6 rfl (by decide) 4 (by decide) (show xro (xkey 11 5 0) 4 = some (xkey 11 1 0) from by decide +kernel) xw_24 rfl dX6_carryOut_72 ?_
        refine lv_iload_n hx hb dX6_carryOut_75 rfl (lv_at hl 1 rfl) ?_
        have hW := XG.in11 hW
        refine x_callV hx hb hml hown hts hK hW hl.1 (c_X0_keepUnlessError l X _ (a := nI i)  (ho0 := rfl) (hres := rfl)) (xF_mi1).1 (xF_mi1).2.1 (by decide) rfl xw_146 xw_147 xw_148 xw_23 xw_149 hdV_yX0_keepUnlessError ⟨Nat.le_of_ble_eq_true rfl, Nat.le_of_ble_eq_true rfl⟩ rfl (Nat.le_of_ble_eq_true rfl) ⟨Nat.le_refl _, Nat.le_refl _⟩ dX6_carryOut_76 (fun H locs hW => ?_)
        have hW : XG X (xGl (va_up S1 0 τ) (xMi sv (Fkeep (nI i) hs) (va_up pa 2 0) sn ua) ρ) H locs := XG.out11 hW
        obtain rfl : (va_up S1 0 τ) = S' := by (rw [← ho0]) <;> ((rw [← eq_1, if_pos c_3, ← hD]) <;> (first | rfl | (rw [hS1e]; rfl)))
        obtain rfl : (Fkeep (nI i) hs) = hs' := by (rw [← ho1]) <;> ((rw [← eq_1, if_pos c_3, ← hD]) <;> (first | rfl | (rw [hS1e]; rfl)))
        obtain rfl : (va_up pa 2 0) = pf' := by (rw [← ho2]) <;> ((rw [← eq_1, if_pos c_3, ← hD]) <;> (first | rfl | (rw [hS1e]; rfl)))
        obtain rfl : ua = nb' := by (rw [← ho3]) <;> ((rw [← eq_1, if_pos c_3, ← hD]) <;> (first | rfl | (rw [hS1e]; rfl)))
        obtain rfl : nI i = res := by (rw [← hres]) <;> ((rw [← eq_1, if_pos c_3, ← hD]) <;> (first | rfl | (rw [hS1e]; rfl)))
        rw [hQ0]
        exact x_iret hx hb hret hlocks rfl hW rfl dX6_carryOut_79
      | succ k_35 ih_35 =>
        intro i τ pa ua hik_35 hv0_35 hv1_35 hsp_35 H locs ls hW hl
        refine lv_iload_n hx hb dX6_carryOut_35 rfl (lv_at hl 1 rfl) ?_
        refine lv_bipush (v := nI 80) hx hb dX6_carryOut_36 (by decide) ?_
        refine lv_icmp_ge (tgt := 64) hx hb dX6_carryOut_38 (by decide) (fun c_7 => absurd c_7 (nI_ge (by omega) (by omega))) (fun c_7 => ?_)
        refine lv_aload_n hx hb dX6_carryOut_41 rfl (lv_at hl 0 rfl) ?_
        refine r_getr (C := RX6) (T := TX6) hx hb hts hown hK hW (xF_mi5).1 (xF_mi5).2 inlX6 rfl (by decide) 5 (by decide) (show xro (xkey 11 5 0) 5 = some (xkey 11 2 0) from by decide +kernel) xw_28 rfl dX6_carryOut_42 ?_
        have hW := XG.in11 hW
        obtain ⟨q_8, eq_8⟩ : ∃ z, z = Fnext sn (pa, ua) := ⟨_, rfl⟩
        refine x_callV hx hb hml hown hts hK hW hl.1 (c_X3_readNextOrder l X _  (hp := hv1_35) (hc := (by assumption)) (ho0 := (congrArg (fun z => z.1.1) eq_8.symm)) (ho1 := (congrArg (fun z => z.1.2) eq_8.symm)) (hres := (congrArg (fun z => z.2) eq_8.symm))) (xF_mi2).1 (xF_mi2).2.1 (by decide) rfl xw_879 xw_880 xw_881 xw_27 xw_882 hdV_yX3_readNextOrder ⟨Nat.le_of_ble_eq_true rfl, Nat.le_of_ble_eq_true rfl⟩ rfl (Nat.le_of_ble_eq_true rfl) ⟨Nat.le_refl _, Nat.le_refl _⟩ dX6_carryOut_45 (fun H locs hW => ?_)
        have hW : XG X (xGl (va_up S1 0 τ) (xMi sv hs q_8.1.1 sn q_8.1.2) ρ) H locs := XG.out11 hW
        have hp_9 : Pok q_8.1.1 := by rw [eq_8]; exact Pok_next (q := (pa, ua)) hv1_35
        refine lv_if_eq (tgt := 64) hx hb dX6_carryOut_48 (by decide) (fun c_10 => ?_) (fun c_10 => ?_)
        · skip
          have hD : ((τ, (q_8.1.1, q_8.1.2)), nI i) = sDone sn (pf, nb) (S 0) := by unfold sDone; rw [← eq_1, ← h10]; exact (show _ = Fdone sn (k_35 + 1) i (τ, (pa, ua)) from by (simp only [Fdone]; rw [← eq_8, if_pos c_10]) <;> rfl).trans hsp_35
          refine lv_aload_n hx hb dX6_carryOut_64 rfl (lv_at hl 0 rfl) ?_
          refine r_getr (C := RX6) (T := TX6) hx hb hts hown hK hW (xF_mi5).1 (xF_mi5).2 inlX6 rfl (by decide) 5 (by decide) (show xro (xkey 11 5 0) 5 = some (xkey 11 2 0) from by decide +kernel) xw_28 rfl dX6_carryOut_65 ?_
          have hW := XG.in11 hW
          refine x_callV hx hb hml hown hts hK hW hl.1 (c_X3_clear l X _   (ho0 := rfl)) (xF_mi2).1 (xF_mi2).2.1 (by decide) rfl xw_784 xw_785 xw_786 xw_27 xw_787 hdV_yX3_clear ⟨Nat.le_of_ble_eq_true rfl, Nat.le_of_ble_eq_true rfl⟩ rfl (Nat.le_of_ble_eq_true rfl) ⟨Nat.le_refl _, Nat.le_refl _⟩ dX6_carryOut_68 (fun H locs hW => ?_)
          have hW : XG X (xGl (va_up S1 0 τ) (xMi sv hs (va_up q_8.1.1 2 0) sn q_8.1.2) ρ) H locs := XG.out11 hW
          refine lv_aload_n hx hb dX6_carryOut_71 rfl (lv_at hl 0 rfl) ?_
          refine r_getr (C := RX6) (T := TX6) hx hb hts hown hK hW (xF_mi5).1 (xF_mi5).2 inlX6 rfl (by decide) 4 (by decide) (show xro (xkey 11 5 0) 4 = some (xkey 11 1 0) from by decide +kernel) xw_24 rfl dX6_carryOut_72 ?_
          refine lv_iload_n hx hb dX6_carryOut_75 rfl (lv_at hl 1 rfl) ?_
          have hW := XG.in11 hW
          refine x_callV hx hb hml hown hts hK hW hl.1 (c_X0_keepUnlessError l X _ (a := nI i)  (ho0 := rfl) (hres := rfl)) (xF_mi1).1 (xF_mi1).2.1 (by decide) rfl xw_146 xw_147 xw_148 xw_23 xw_149 hdV_yX0_keepUnlessError ⟨Nat.le_of_ble_eq_true rfl, Nat.le_of_ble_eq_true rfl⟩ rfl (Nat.le_of_ble_eq_true rfl) ⟨Nat.le_refl _, Nat.le_refl _⟩ dX6_carryOut_76 (fun H locs hW => ?_)
          have hW : XG X (xGl (va_up S1 0 τ) (xMi sv (Fkeep (nI i) hs) (va_up q_8.1.1 2 0) sn q_8.1.2) ρ) H locs := XG.out11 hW
          obtain rfl : (va_up S1 0 τ) = S' := by (rw [← ho0]) <;> ((rw [← eq_1, if_pos c_3, ← hD]) <;> (first | rfl | (rw [hS1e]; rfl)))
          obtain rfl : (Fkeep (nI i) hs) = hs' := by (rw [← ho1]) <;> ((rw [← eq_1, if_pos c_3, ← hD]) <;> (first | rfl | (rw [hS1e]; rfl)))
          obtain rfl : (va_up q_8.1.1 2 0) = pf' := by (rw [← ho2]) <;> ((rw [← eq_1, if_pos c_3, ← hD]) <;> (first | rfl | (rw [hS1e]; rfl)))
          obtain rfl : q_8.1.2 = nb' := by (rw [← ho3]) <;> ((rw [← eq_1, if_pos c_3, ← hD]) <;> (first | rfl | (rw [hS1e]; rfl)))
          obtain rfl : nI i = res := by (rw [← hres]) <;> ((rw [← eq_1, if_pos c_3, ← hD]) <;> (first | rfl | (rw [hS1e]; rfl)))
          rw [hQ0]
          exact x_iret hx hb hret hlocks rfl hW rfl dX6_carryOut_79
        · skip
          refine lv_aload_n hx hb dX6_carryOut_51 rfl (lv_at hl 0 rfl) ?_
          refine x_callV hx hb hml hown hts hK hW hl.1 (c_X6_carryOrder l X   (hS := (hS_up hS1 hv0_35)) (hp := hp_9) (ho0 := rfl) (hres := rfl)) (xF_mi5).1 (xF_mi5).2 (by decide) rfl xw_883 xw_884 xw_885 xw_2 xw_886 hdV_yX6_carryOrder ⟨Nat.le_of_ble_eq_true rfl, Nat.le_of_ble_eq_true rfl⟩ rfl (Nat.le_of_ble_eq_true rfl) ⟨Nat.le_refl _, Nat.le_refl _⟩ dX6_carryOut_52 (fun H locs hW => ?_)
          have hk_11 : Sok ((sOrder q_8.1.1 q_8.1.2 τ).1) := Sok_order hv0_35
          have hW : XG X (xGl (va_up S1 0 ((sOrder q_8.1.1 q_8.1.2 τ).1)) (xMi sv hs q_8.1.1 sn q_8.1.2) ρ) H locs := by have h := hW; rw [xuu] at h; exact h
          refine lv_eqi (y := (sOrder q_8.1.1 q_8.1.2 τ).2) rfl ?_
          refine lv_if_lt (tgt := 64) hx hb dX6_carryOut_55 (by decide) (fun c_12 => ?_) (fun c_12 => ?_)
          · skip
            have hD : ((((sOrder q_8.1.1 q_8.1.2 τ).1), (q_8.1.1, q_8.1.2)), nI i) = sDone sn (pf, nb) (S 0) := by unfold sDone; rw [← eq_1, ← h10]; exact (show _ = Fdone sn (k_35 + 1) i (τ, (pa, ua)) from by (simp only [Fdone]; rw [← eq_8, if_neg c_10, if_pos c_12]) <;> rfl).trans hsp_35
            refine lv_aload_n hx hb dX6_carryOut_64 rfl (lv_at hl 0 rfl) ?_
            refine r_getr (C := RX6) (T := TX6) hx hb hts hown hK hW (xF_mi5).1 (xF_mi5).2 inlX6 rfl (by decide) 5 (by decide) (show xro (xkey 11 5 0) 5 = some (xkey 11 2 0) from by decide +kernel) xw_28 rfl dX6_carryOut_65 ?_
            have hW := XG.in11 hW
            refine x_callV hx hb hml hown hts hK hW hl.1 (c_X3_clear l X _   (ho0 := rfl)) (xF_mi2).1 (xF_mi2).2.1 (by decide) rfl xw_784 xw_785 xw_786 xw_27 xw_787 hdV_yX3_clear ⟨Nat.le_of_ble_eq_true rfl, Nat.le_of_ble_eq_true rfl⟩ rfl (Nat.le_of_ble_eq_true rfl) ⟨Nat.le_refl _, Nat.le_refl _⟩ dX6_carryOut_68 (fun H locs hW => ?_)
            have hW : XG X (xGl (va_up S1 0 ((sOrder q_8.1.1 q_8.1.2 τ).1)) (xMi sv hs (va_up q_8.1.1 2 0) sn q_8.1.2) ρ) H locs := XG.out11 hW
            refine lv_aload_n hx hb dX6_carryOut_71 rfl (lv_at hl 0 rfl) ?_
            refine r_getr (C := RX6) (T := TX6) hx hb hts hown hK hW (xF_mi5).1 (xF_mi5).2 inlX6 rfl (by decide) 4 (by decide) (show xro (xkey 11 5 0) 4 = some (xkey 11 1 0) from by decide +kernel) xw_24 rfl dX6_carryOut_72 ?_
            refine lv_iload_n hx hb dX6_carryOut_75 rfl (lv_at hl 1 rfl) ?_
            have hW := XG.in11 hW
            refine x_callV hx hb hml hown hts hK hW hl.1 (c_X0_keepUnlessError l X _ (a := nI i)  (ho0 := rfl) (hres := rfl)) (xF_mi1).1 (xF_mi1).2.1 (by decide) rfl xw_146 xw_147 xw_148 xw_23 xw_149 hdV_yX0_keepUnlessError ⟨Nat.le_of_ble_eq_true rfl, Nat.le_of_ble_eq_true rfl⟩ rfl (Nat.le_of_ble_eq_true rfl) ⟨Nat.le_refl _, Nat.le_refl _⟩ dX6_carryOut_76 (fun H locs hW => ?_)
            have hW : XG X (xGl (va_up S1 0 ((sOrder q_8.1.1 q_8.1.2 τ).1)) (xMi sv (Fkeep (nI i) hs) (va_up q_8.1.1 2 0) sn q_8.1.2) ρ) H locs := XG.out11 hW
            obtain rfl : (va_up S1 0 ((sOrder q_8.1.1 q_8.1.2 τ).1)) = S' := by (rw [← ho0]) <;> ((rw [← eq_1, if_pos c_3, ← hD]) <;> (first | rfl | (rw [hS1e]; rfl)))
            obtain rfl : (Fkeep (nI i) hs) = hs' := by (rw [← ho1]) <;> ((rw [← eq_1, if_pos c_3, ← hD]) <;> (first | rfl | (rw [hS1e]; rfl)))
            obtain rfl : (va_up q_8.1.1 2 0) = pf' := by (rw [← ho2]) <;> ((rw [← eq_1, if_pos c_3, ← hD]) <;> (first | rfl | (rw [hS1e]; rfl)))
            obtain rfl : q_8.1.2 = nb' := by (rw [← ho3]) <;> ((rw [← eq_1, if_pos c_3, ← hD]) <;> (first | rfl | (rw [hS1e]; rfl)))
            obtain rfl : nI i = res := by (rw [← hres]) <;> ((rw [← eq_1, if_pos c_3, ← hD]) <;> (first | rfl | (rw [hS1e]; rfl)))
            rw [hQ0]
            exact x_iret hx hb hret hlocks rfl hW rfl dX6_carryOut_79
          · skip
            refine lv_iinc (v := nI (i + 1)) (lv' := [(1, .int (nI (i + 1))), (0, .ref (xB X + xkey 11 5 0))]) hx hb dX6_carryOut_58 hl (k := 1) rfl (nI_1 i) (by decide) rfl (fun ls hl => ?_)
            refine lv_goto (tgt := 35) hx hb dX6_carryOut_61 (by decide) ?_
            refine ih_35 (i + 1) ((sOrder q_8.1.1 q_8.1.2 τ).1) q_8.1.1 q_8.1.2 (by omega) hk_11 hp_9 ?_ H locs ls hW (lv_sub hl [1, 0] rfl)
            exact (show _ = Fdone sn (k_35 + 1) i (τ, (pa, ua)) from by (simp only [Fdone]; rw [← eq_8, if_neg c_10, if_neg c_12]) <;> rfl).trans hsp_35
    exact loop_35 80 0 (S1 0) (va_up q_1.1.1 3 0) q_1.1.2 (by omega) (hS1 0 (by decide)) hp_5 rfl _ _ _ hW (lv_sub hl [1, 0] rfl)
  · skip
    refine lv_bipush (v := (-3)) hx hb dX6_carryOut_12 (by decide) ?_
    obtain rfl : S = S' := by (rw [← ho0]) <;> (rw [← eq_1, if_neg c_3])
    obtain rfl : hs = hs' := by (rw [← ho1]) <;> (rw [← eq_1, if_neg c_3])
    obtain rfl : q_1.1.1 = pf' := by (rw [← ho2]) <;> (rw [← eq_1, if_neg c_3])
    obtain rfl : q_1.1.2 = nb' := by (rw [← ho3]) <;> (rw [← eq_1, if_neg c_3])
    obtain rfl : (-3) = res := by (rw [← hres]) <;> (rw [← eq_1, if_neg c_3])
    rw [hQ0]
    exact x_iret hx hb hret hlocks rfl hW rfl dX6_carryOut_14
