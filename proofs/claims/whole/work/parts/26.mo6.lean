/-! ===== the model: what is kept, what is set ===== -/
theorem XR.toA {X : xX} {G : xG} {f aa bb b c d e g h p q t u : Nat → Int32} {H : Heap} {locs : List Loc} (z : XR X G 12 (xMo f aa b c d e g h p q t u) H locs) (hab : ∀ k, k < 440 → aa k = bb k) : XR X G 12 (xMo f bb b c d e g h p q t u) H locs := by
  refine XG.to z (fun k hk j hj _ => ?_)
  by_cases hr : (xdec k).1 = 12
  · have e1 : va_up G 12 (xMo f aa b c d e g h p q t u) (xdec k).1 = xMo f aa b c d e g h p q t u := by rw [hr, va_up_at]
    have e2 : va_up G 12 (xMo f bb b c d e g h p q t u) (xdec k).1 = xMo f bb b c d e g h p q t u := by rw [hr, va_up_at]
    rw [e1, e2]
    by_cases hc : (xdec k).2.1 = 1
    · have hk5 : k = 592 := (show ∀ k, k < 603 → (xdec k).1 = 12 → (xdec k).2.1 = 1 → k = 592 from by decide +kernel) k hk hr hc
      subst hk5
      exact hab j hj
    · generalize (xdec k).2.1 = c' at hc
      match c', hc with
      | 0, _ => rfl
      | 1, hc => exact absurd rfl hc
      | 2, _ => rfl
      | 3, _ => rfl
      | 4, _ => rfl
      | 5, _ => rfl
      | 6, _ => rfl
      | 7, _ => rfl
      | 8, _ => rfl
      | 9, _ => rfl
      | 10, _ => rfl
      | 11, _ => rfl
      | _ + 12, _ => rfl
  · rw [va_up_ne _ _ hr, va_up_ne _ _ hr]
theorem xmod6 {a : Nat} (h : a < 13) : nI a - nI a / 6 * 6 = nI (a % 6) := (show ∀ a, a < 13 → nI a - nI a / 6 * 6 = nI (a % 6) from by decide +kernel) a h
theorem xnIinj {a b : Nat} (ha : a < 2 ^ 31) (hb : b < 2 ^ 31) (h : nI a = nI b) : a = b := by
  have e := congrArg Int32.toNatClampNeg h
  rwa [nI_clamp ha, nI_clamp hb] at e
theorem xnIeq {a : Nat} {x : Int32} (k : Nat) (hx : x = nI k) (hk : k < 2 ^ 31) (ha : a < 2 ^ 31) (h : nI a = x) : a = k := xnIinj ha hk (h.trans hx)
theorem xnIne {a : Nat} {x : Int32} (k : Nat) (hx : x = nI k) (h : ¬ nI a = x) : a ≠ k := fun e => h (by rw [e, hx])
theorem xin {x s : Int32} {n : Nat} (hs : s = nI n) (hn : n ≤ 16) (c : ¬ Fin3 x 0 (s - 1) = 0) : x.toNatClampNeg < n ∧ x = nI x.toNatClampNeg := by
  have hn0 : n ≠ 0 := by
    intro e
    subst hs
    subst e
    apply c
    unfold Fin3
    by_cases h1 : x < 0
    · rw [if_pos h1]
    · rw [if_neg h1, if_pos (Int32.lt_of_lt_of_le (show (nI 0 - 1 : Int32) < 0 by decide) (Int32.not_lt.mp h1))]
  have h := xfin (x := x) (hi := s - 1) (n - 1) (by rw [hs]; exact xnI_pred (by omega)) (by omega) c
  exact ⟨by omega, h.2⟩
def Mpl (pf pm : Nat) : Nat := if pm = 6 then ((pf + 1) % 6 + 5) % 6 else (pf + pm) % 6
def MkF (pf pm : Nat) (f : Nat → Int32) : Nat → Int32 := if pm = 6 then va_up (va_up (va_up f 2 (nI ((pf + 1) % 6))) 3 (nI 5)) 3 (nI (5 + 1)) else va_up f 3 (nI (pm + 1))
def MkB (pf pm : Nat) (a b : Nat → Int32) : Nat → Int32 := xloop (fun k b => va_up b (440 * Mpl pf pm + k) (a k)) 440 0 b
def Mcp (a b : Nat → Int32) : Nat → Int32 := xloop (fun k b => va_up b k (a k)) 440 0 b
theorem Mcp_all (a : Nat → Int32) : ∀ (k i : Nat) (b : Nat → Int32) (j : Nat), xloop (fun k b => va_up b k (a k)) k i b j = if i ≤ j ∧ j < i + k then a j else b j
  | 0, i, b, j => by simp only [xloop]; rw [if_neg (by omega)]
  | k + 1, i, b, j => by
    simp only [xloop]
    rw [Mcp_all a k (i + 1)]
    by_cases e : j = i
    · rw [if_neg (by omega), if_pos (by omega), e, va_up_at]
    · by_cases q : i ≤ j ∧ j < i + (k + 1)
      · rw [if_pos q, if_pos (by omega)]
      · rw [if_neg q, if_neg (by omega), va_up_ne _ _ e]
theorem Mcp_at {a b : Nat → Int32} {j : Nat} (h : j < 440) : Mcp a b j = a j := by unfold Mcp; rw [Mcp_all, if_pos (by omega)]
def Mhigh (x : Int32) : Int32 := if x = 0 then 20 else if x = 1 then 60 else if x = 4 then 10 else if x = 5 then 6 else 50
def Mlow (x : Int32) : Int32 := if x = 1 then 1 else if x = 2 then 1 else if x = 4 then 1 else 0
def Mset {α : Type} (x v : Int32) (A B : α) : α := if Fin3 x 0 5 = 0 then A else if Fin3 v (Mlow x) (Mhigh x) = 0 then A else B
def MlampAt (x : Int32) (L : Nat → Nat → Int32) : Nat → Nat → Int32
  | 0, _ => -6
  | k + 1, i => if L i 0 = x then nI i else MlampAt x L k (i + 1)
def Mlamp {α : Type} (x y : Int32) (n : Nat) (L : Nat → Nat → Int32) (A B C D : α) : α := if Fin3 x 0 99 = 0 then A else if Fin3 y 1 30 = 0 then A else if nI n = 16 then B else if MlampAt x L n 0 < 0 then C else D
def Mhouse {α : Type} (x : Int32) (n : Nat) (A B C : α) : α := if Fin3 x 0 99 = 0 then A else if nI n = 8 then B else C
def Mwk {α : Type} (x y : Int32) (n : Nat) (A B C : α) : α := if Fin3 x 0 99 = 0 then A else if Fin3 y 1 4 = 0 then A else if nI n = 8 then B else C
def Mgl {α : Type} (s x a b : Int32) (g : Nat) (ω : Nat → Int32) (A B C D E : α) : α := if Fin3 x 0 (s - 1) = 0 then A else if Fin3 a 0 99 = 0 then B else if Fin3 b 0 20 = 0 then B else if nI g = 6 then C else if Mstr ω = 0 then D else E
def Maddg (a b : Int32) (g : Nat) (ω : Nat → Int32) : Nat → Int32 := va_up (va_up (va_up ω (8 + 2 * g) a) (8 + 2 * g + 1) b) 3 (nI (g + 1))
def Mmend (h : Int32) (ℓ : Nat → Int32) : Nat → Int32 := if h = 2 then va_up (va_up (va_up (va_up (va_up ℓ 3 h) 2 0) 4 0) 5 0) 6 0 else va_up ℓ 3 h
def Mmd {α : Type} (s x h : Int32) (A B C : α) : α := if Fin3 x 0 (s - 1) = 0 then A else if Fin3 h 0 2 = 0 then B else C
def Mcl1 (n : Nat) (L : Nat → Nat → Int32) : Nat → Nat → Int32 := xloop (fun i (M : Nat → Nat → Int32) => va_up M i (va_up (M i) 11 0)) n 0 L
def Mcg {α : Type} (s x : Int32) (L : Nat → Nat → Int32) (A B C : α) : α := if Fin3 x 0 (s - 1) = 0 then A else if L x.toNatClampNeg 3 = 2 then B else C
def Mticks (n nh nw k : Nat) (q : xM6) : xM6 := xloop (fun _ q => Mpass n nh nw q) k 0 q
def Mtk {α : Type} (x : Int32) (A B : α) : α := if Fin3 x 1 200 = 0 then A else B
theorem MW_up' {Y : Nat → Nat → Int32} {ω : Nat → Int32} {w : Nat} (hY : ∀ j, j < 8 → MW (Y j)) (hω : w < 8 → MW ω) : ∀ j, j < 8 → MW (va_up Y w ω j) := by
  intro j hj
  by_cases e : j = w
  · rw [e, va_up_at]; exact hω (by omega)
  · rw [va_up_ne _ _ e]; exact hY j hj
theorem MW_pass {n nh nw : Nat} {q : xM6} (h : ∀ j, j < 8 → MW (q.2.2.2.1 j)) : ∀ j, j < 8 → MW ((Mpass n nh nw q).2.2.2.1 j) := by
  have h1 : ∀ j, j < 8 → MW (MGos nw q.2.2.2.1 j) := xloop_inv (fun V : Nat → Nat → Int32 => ∀ j, j < 8 → MW (V j)) (fun i V hV => MW_up' hV (fun hi => MW_go (hV i hi))) nw 0 _ h
  refine xloop_inv (fun z : (Nat → Nat → Int32) × (Nat → Nat → Int32) => ∀ j, j < 8 → MW (z.2 j)) (fun w z hz => ?_) nw 0 _ h1
  unfold Mdark1
  split
  · exact hz
  · split
    · exact MW_up' hz (fun hw => (hz w hw).of (by rw [va_up_ne _ _ (by decide)]))
    · exact hz
theorem hdV_yX7_keep : yX7_keep.cls = RX7 ∧ yX7_keep.cls ≠ "java/lang/invoke/MethodHandle" ∧ yX7_keep.cls ≠ "java/lang/invoke/VarHandle" ∧ (parseMethodDescriptor yX7_keep.desc).map (fun d => d.parameters.length) = some 0 := by decide +kernel
theorem hdV_yX7_keepIf : yX7_keepIf.cls = RX7 ∧ yX7_keepIf.cls ≠ "java/lang/invoke/MethodHandle" ∧ yX7_keepIf.cls ≠ "java/lang/invoke/VarHandle" ∧ (parseMethodDescriptor yX7_keepIf.desc).map (fun d => d.parameters.length) = some 1 := by decide +kernel
theorem hdV_yX7_layAside : yX7_layAside.cls = RX7 ∧ yX7_layAside.cls ≠ "java/lang/invoke/MethodHandle" ∧ yX7_layAside.cls ≠ "java/lang/invoke/VarHandle" ∧ (parseMethodDescriptor yX7_layAside.desc).map (fun d => d.parameters.length) = some 0 := by decide +kernel
theorem hdV_yX7_layBack : yX7_layBack.cls = RX7 ∧ yX7_layBack.cls ≠ "java/lang/invoke/MethodHandle" ∧ yX7_layBack.cls ≠ "java/lang/invoke/VarHandle" ∧ (parseMethodDescriptor yX7_layBack.desc).map (fun d => d.parameters.length) = some 0 := by decide +kernel
theorem hdS_yX7_highest : yX7_highest.cls ≠ "java/lang/invoke/MethodHandle" ∧ yX7_highest.cls ≠ "java/lang/invoke/VarHandle" ∧ (parseMethodDescriptor yX7_highest.desc).map (fun d => d.parameters.length) = some 1 := by decide +kernel
theorem hdV_yX7_set : yX7_set.cls = RX7 ∧ yX7_set.cls ≠ "java/lang/invoke/MethodHandle" ∧ yX7_set.cls ≠ "java/lang/invoke/VarHandle" ∧ (parseMethodDescriptor yX7_set.desc).map (fun d => d.parameters.length) = some 2 := by decide +kernel
theorem hdV_yX7_lampAt : yX7_lampAt.cls = RX7 ∧ yX7_lampAt.cls ≠ "java/lang/invoke/MethodHandle" ∧ yX7_lampAt.cls ≠ "java/lang/invoke/VarHandle" ∧ (parseMethodDescriptor yX7_lampAt.desc).map (fun d => d.parameters.length) = some 1 := by decide +kernel
theorem hdV_yX7_lamp : yX7_lamp.cls = RX7 ∧ yX7_lamp.cls ≠ "java/lang/invoke/MethodHandle" ∧ yX7_lamp.cls ≠ "java/lang/invoke/VarHandle" ∧ (parseMethodDescriptor yX7_lamp.desc).map (fun d => d.parameters.length) = some 2 := by decide +kernel
theorem hdV_yX7_house : yX7_house.cls = RX7 ∧ yX7_house.cls ≠ "java/lang/invoke/MethodHandle" ∧ yX7_house.cls ≠ "java/lang/invoke/VarHandle" ∧ (parseMethodDescriptor yX7_house.desc).map (fun d => d.parameters.length) = some 1 := by decide +kernel
theorem hdV_yX7_tryWalker : yX7_tryWalker.cls = RX7 ∧ yX7_tryWalker.cls ≠ "java/lang/invoke/MethodHandle" ∧ yX7_tryWalker.cls ≠ "java/lang/invoke/VarHandle" ∧ (parseMethodDescriptor yX7_tryWalker.desc).map (fun d => d.parameters.length) = some 3 := by decide +kernel
theorem hdV_yX7_walker : yX7_walker.cls = RX7 ∧ yX7_walker.cls ≠ "java/lang/invoke/MethodHandle" ∧ yX7_walker.cls ≠ "java/lang/invoke/VarHandle" ∧ (parseMethodDescriptor yX7_walker.desc).map (fun d => d.parameters.length) = some 2 := by decide +kernel
theorem hdV_yX7_tryGoal : yX7_tryGoal.cls = RX7 ∧ yX7_tryGoal.cls ≠ "java/lang/invoke/MethodHandle" ∧ yX7_tryGoal.cls ≠ "java/lang/invoke/VarHandle" ∧ (parseMethodDescriptor yX7_tryGoal.desc).map (fun d => d.parameters.length) = some 4 := by decide +kernel
set_option maxHeartbeats 4000000 in
set_option maxRecDepth 100000 in
theorem c_X7_keep (l : Launch) (X : xX) (G : xG) {f sg pb pc pd pe pg ph pp pq pt pu : Nat → Int32} {L O Y : Nat → Nat → Int32} {pf pm : Nat} (hpf : f 2 = nI pf) (hpf6 : pf < 6) (hpm : f 3 = nI pm) (hpm6 : pm ≤ 6) {f' : Nat → Int32} (ho0 : (MkF pf pm f) = f') {pb' : Nat → Int32} (ho1 : (MkB pf pm (xat sg L O Y) pb) = pb') : XC l yX7_keep cX7_keep 3 none 0 0 0 0 X xsh [.ref (xB X + xkey 12 0 0)] 603 603 (xval (xB X) (va_up G 12 (xMa f sg L O Y pb pc pd pe pg ph pp pq pt pu))) (xval (xB X) (va_up G 12 (xMa f' sg L O Y pb' pc pd pe pg ph pp pq pt pu))) none := by
  refine XC.of RX7 "keep" [(0, .ref (xB X + xkey 12 0 0))] (by decide) rfl rfl (Nat.le_of_ble_eq_true rfl) rfl ?_
  intro p e s m args below meth c ls hx hb hret hml hts hown hlocks hnm hK hW hl
  have hW : XR X G 12 (xMa f sg L O Y pb pc pd pe pg ph pp pq pt pu) s.heap [] := hW
  obtain ⟨Q0, hQ0⟩ : ∃ z, z = MQ below (xQ X xsh 603 (xval (xB X) (va_up G 12 (xMa f' sg L O Y pb' pc pd pe pg ph pp pq pt pu))) none) args s 0 0 (fun q => xB X ≤ q) := ⟨_, rfl⟩
  rw [← hQ0]
  have hW : XR X G 12 (xMo f (xat sg L O Y) pb pc pd pe pg ph pp pq pt pu) _ _ := hW
  refine lv_aload_n hx hb dX7_keep_0 rfl (lv_at hl 0 rfl) ?_
  refine r_get hx hb hts hown hK hW (C := RX7) (T := TX7) (xF_mo0) inlX7 rfl (by decide) 3 (by decide) (by decide +kernel) xw_169 rfl (x := nI pm) hpm dX7_keep_1 ?_
  refine lv_bipush (v := 6) hx hb dX7_keep_4 (by decide) ?_
  refine lv_icmp_ne (tgt := 32) hx hb dX7_keep_6 (by decide) (fun c_1 => ?_) (fun c_1 => ?_)
  · skip
    refine lv_aload_n hx hb dX7_keep_32 rfl (lv_at hl 0 rfl) ?_
    refine r_get hx hb hts hown hK hW (C := RX7) (T := TX7) (xF_mo0) inlX7 rfl (by decide) 2 (by decide) (by decide +kernel) xw_170 rfl (x := nI pf) hpf dX7_keep_33 ?_
    refine lv_aload_n hx hb dX7_keep_36 rfl (lv_at hl 0 rfl) ?_
    refine r_get hx hb hts hown hK hW (C := RX7) (T := TX7) (xF_mo0) inlX7 rfl (by decide) 3 (by decide) (by decide +kernel) xw_169 rfl (x := nI pm) hpm dX7_keep_37 ?_
    refine lv_iadd hx hb dX7_keep_40 ?_
    refine lv_eqi (y := nI (pf + pm)) (nI_add pf pm) ?_
    refine lv_bipush (v := 6) hx hb dX7_keep_41 (by decide) ?_
    obtain ⟨pl, hpl⟩ : ∃ z, z = (pf + pm) % 6 := ⟨_, rfl⟩
    refine lv_irem hx hb dX7_keep_43 (by decide) ?_
    refine lv_eqi (y := nI pl) (by rw [hpl]; exact xmod6 (by omega)) ?_
    refine lv_istore_n (lv' := [(1, .int (nI pl)), (0, .ref (xB X + xkey 12 0 0))]) hx hb dX7_keep_44 rfl hl (by decide) rfl (fun ls hl => ?_)
    refine lv_iconst (v := nI 0) hx hb dX7_keep_45 (by decide) ?_
    refine lv_istore_n (lv' := [(2, .int (nI 0)), (1, .int (nI pl)), (0, .ref (xB X + xkey 12 0 0))]) hx hb dX7_keep_46 rfl hl (by decide) rfl (fun ls hl => ?_)
    have loop_47 : ∀ (k_47 k : Nat) (ba : Nat → Int32), k + k_47 = 440 → xloop (fun k b => va_up b (440 * pl + k) (xat sg L O Y k)) k_47 k ba = xloop (fun k b => va_up b (440 * pl + k) (xat sg L O Y k)) 440 0 pb → ∀ (H : Heap) (locs : List Loc) (ls : Array Slot), XR X G 12 (xMo f (xat sg L O Y) ba pc pd pe pg ph pp pq pt pu) H locs → lv_has ls 3 [(0, .ref (xB X + xkey 12 0 0)), (1, .int (nI pl)), (2, .int (nI k))] → W p l e { frames := 0, cells := 0, slots := 0, locals := 0 } s m args below meth c H locs 0 0 Q0 (F0 m 47 ls []) := by
      intro k_47
      induction k_47 with
      | zero =>
        intro k ba hik_47  hsp_47 H locs ls hW hl
        refine lv_iload_n hx hb dX7_keep_47 rfl (lv_at hl 2 rfl) ?_
        refine lv_sipush (v := nI 440) hx hb dX7_keep_48 (by decide) ?_
        refine lv_icmp_ge (tgt := 78) hx hb dX7_keep_51 (by decide) (fun c_2 => ?_) (fun c_2 => absurd (xge_refl (by omega)) c_2)
        refine lv_aload_n hx hb dX7_keep_78 rfl (lv_at hl 0 rfl) ?_
        refine lv_dup hx hb dX7_keep_79 rfl ?_
        refine r_get hx hb hts hown hK hW (C := RX7) (T := TX7) (xF_mo0) inlX7 rfl (by decide) 3 (by decide) (by decide +kernel) xw_169 rfl (x := nI pm) hpm dX7_keep_80 ?_
        refine lv_iconst (v := nI 1) hx hb dX7_keep_83 (by decide) ?_
        refine lv_iadd hx hb dX7_keep_84 ?_
        refine lv_eqi (y := nI (pm + 1)) (nI_add pm 1) ?_
        refine r_put hx hb hts hown hK hW (C := RX7) (T := TX7) (xF_mo0) inlX7 tyX7 tyX7_ok nmX7 rfl (by decide) 3 (by decide) (by decide +kernel) xw_169 rfl rfl rfl rfl xMo0 dX7_keep_85 (fun H locs hW => ?_)
        have hW : XR X G 12 (xMa (va_up f 3 (nI (pm + 1))) sg L O Y ba pc pd pe pg ph pp pq pt pu) _ _ := hW
        obtain rfl : (va_up f 3 (nI (pm + 1))) = f' := by (rw [← ho0]) <;> (first | (have e9 : pm = 6 := xnIeq 6 rfl (by decide) (by omega) c_1; first | (unfold MkF; rw [if_pos e9]) | (unfold MkB Mpl; rw [if_pos e9, ← hpl]; exact hsp_47)) | (have e9 := xnIne 6 rfl c_1; first | (unfold MkF; rw [if_neg e9]) | (unfold MkB Mpl; rw [if_neg e9, ← hpl]; exact hsp_47)))
        obtain rfl : ba = pb' := by (rw [← ho1]) <;> (first | (have e9 : pm = 6 := xnIeq 6 rfl (by decide) (by omega) c_1; first | (unfold MkF; rw [if_pos e9]) | (unfold MkB Mpl; rw [if_pos e9, ← hpl]; exact hsp_47)) | (have e9 := xnIne 6 rfl c_1; first | (unfold MkF; rw [if_neg e9]) | (unfold MkB Mpl; rw [if_neg e9, ← hpl]; exact hsp_47)))
        rw [hQ0]
        exact x_vret hx hb hret hlocks hW rfl dX7_keep_88
      | succ k_47 ih_47 =>
        intro k ba hik_47  hsp_47 H locs ls hW hl
        refine lv_iload_n hx hb dX7_keep_47 rfl (lv_at hl 2 rfl) ?_
        refine lv_sipush (v := nI 440) hx hb dX7_keep_48 (by decide) ?_
        refine lv_icmp_ge (tgt := 78) hx hb dX7_keep_51 (by decide) (fun c_3 => absurd c_3 (nI_ge (by omega) (by omega))) (fun c_3 => ?_)
        refine lv_aload_n hx hb dX7_keep_54 rfl (lv_at hl 0 rfl) ?_
        refine r_getr (C := RX7) (T := TX7) hx hb hts hown hK hW (xF_mo0).1 (xF_mo0).2.1 inlX7 rfl (by decide) 1 (by decide) (show xro (xkey 12 0 0) 1 = some (xkey 12 2 0) from by decide +kernel) xw_80 rfl dX7_keep_55 ?_
        refine lv_sipush (v := nI 440) hx hb dX7_keep_58 (by decide) ?_
        refine lv_iload_n hx hb dX7_keep_61 rfl (lv_at hl 1 rfl) ?_
        refine lv_imul hx hb dX7_keep_62 ?_
        refine lv_eqi (y := nI (440 * pl)) (xnI_mul 440 pl) ?_
        refine lv_iload_n hx hb dX7_keep_63 rfl (lv_at hl 2 rfl) ?_
        refine lv_iadd hx hb dX7_keep_64 ?_
        refine lv_eqi (y := nI (440 * pl + k)) (nI_add (440 * pl) k) ?_
        refine lv_aload_n hx hb dX7_keep_65 rfl (lv_at hl 0 rfl) ?_
        refine r_getr (C := RX7) (T := TX7) hx hb hts hown hK hW (xF_mo0).1 (xF_mo0).2.1 inlX7 rfl (by decide) 0 (by decide) (show xro (xkey 12 0 0) 0 = some (xkey 12 1 0) from by decide +kernel) xw_79 rfl dX7_keep_66 ?_
        refine lv_iload_n hx hb dX7_keep_69 rfl (lv_at hl 2 rfl) ?_
        refine r_iald hx hb hK hW (N := 440) (xF_mo1) k (by omega) (by decide) rfl (xr_model 1 (by decide) (by decide) k) (x := (xat sg L O Y) k) rfl dX7_keep_70 ?_
        refine r_iast hx hb hK hW (N := 2640) (xF_mo2) (440 * pl + k) (by omega) (by decide) rfl (xr_model 2 (by decide) (by decide) (440 * pl + k)) xMo2 dX7_keep_71 (fun H locs hW => ?_)
        refine lv_iinc (v := nI (k + 1)) (lv' := [(2, .int (nI (k + 1))), (0, .ref (xB X + xkey 12 0 0)), (1, .int (nI pl))]) hx hb dX7_keep_72 hl (k := 2) rfl (nI_1 k) (by decide) rfl (fun ls hl => ?_)
        refine lv_goto (tgt := 47) hx hb dX7_keep_75 (by decide) ?_
        refine ih_47 (k + 1) (va_up ba (440 * pl + k) ((xat sg L O Y) k)) (by omega)  ?_ H locs ls hW (lv_sub hl [1, 2, 0] rfl)
        rw [← hsp_47]; rfl
    exact loop_47 440 0 pb (by omega)  rfl _ _ _ hW (lv_sub hl [2, 1, 0] rfl)
  · skip
    refine lv_aload_n hx hb dX7_keep_9 rfl (lv_at hl 0 rfl) ?_
    refine lv_aload_n hx hb dX7_keep_10 rfl (lv_at hl 0 rfl) ?_
    refine r_get hx hb hts hown hK hW (C := RX7) (T := TX7) (xF_mo0) inlX7 rfl (by decide) 2 (by decide) (by decide +kernel) xw_170 rfl (x := nI pf) hpf dX7_keep_11 ?_
    refine lv_iconst (v := nI 1) hx hb dX7_keep_14 (by decide) ?_
    refine lv_iadd hx hb dX7_keep_15 ?_
    refine lv_eqi (y := nI (pf + 1)) (nI_add pf 1) ?_
    refine lv_bipush (v := 6) hx hb dX7_keep_16 (by decide) ?_
    refine lv_irem hx hb dX7_keep_18 (by decide) ?_
    refine lv_eqi (y := nI ((pf + 1) % 6)) (xmod6 (by omega)) ?_
    refine r_put hx hb hts hown hK hW (C := RX7) (T := TX7) (xF_mo0) inlX7 tyX7 tyX7_ok nmX7 rfl (by decide) 2 (by decide) (by decide +kernel) xw_170 rfl rfl rfl rfl xMo0 dX7_keep_19 (fun H locs hW => ?_)
    refine lv_aload_n hx hb dX7_keep_22 rfl (lv_at hl 0 rfl) ?_
    refine lv_dup hx hb dX7_keep_23 rfl ?_
    refine r_get hx hb hts hown hK hW (C := RX7) (T := TX7) (xF_mo0) inlX7 rfl (by decide) 3 (by decide) (by decide +kernel) xw_169 rfl (x := nI pm) hpm dX7_keep_24 ?_
    refine lv_iconst (v := 1) hx hb dX7_keep_27 (by decide) ?_
    refine lv_isub hx hb dX7_keep_28 ?_
    refine lv_eqi (y := nI 5) (by rw [c_1]; decide) ?_
    refine r_put hx hb hts hown hK hW (C := RX7) (T := TX7) (xF_mo0) inlX7 tyX7 tyX7_ok nmX7 rfl (by decide) 3 (by decide) (by decide +kernel) xw_169 rfl rfl rfl rfl xMo0 dX7_keep_29 (fun H locs hW => ?_)
    refine lv_aload_n hx hb dX7_keep_32 rfl (lv_at hl 0 rfl) ?_
    refine r_get hx hb hts hown hK hW (C := RX7) (T := TX7) (xF_mo0) inlX7 rfl (by decide) 2 (by decide) (by decide +kernel) xw_170 rfl (x := nI ((pf + 1) % 6)) rfl dX7_keep_33 ?_
    refine lv_aload_n hx hb dX7_keep_36 rfl (lv_at hl 0 rfl) ?_
    refine r_get hx hb hts hown hK hW (C := RX7) (T := TX7) (xF_mo0) inlX7 rfl (by decide) 3 (by decide) (by decide +kernel) xw_169 rfl (x := nI 5) rfl dX7_keep_37 ?_
    refine lv_iadd hx hb dX7_keep_40 ?_
    refine lv_eqi (y := nI ((pf + 1) % 6 + 5)) (nI_add ((pf + 1) % 6) 5) ?_
    refine lv_bipush (v := 6) hx hb dX7_keep_41 (by decide) ?_
    obtain ⟨pl, hpl⟩ : ∃ z, z = ((pf + 1) % 6 + 5) % 6 := ⟨_, rfl⟩
    refine lv_irem hx hb dX7_keep_43 (by decide) ?_
    refine lv_eqi (y := nI pl) (by rw [hpl]; exact xmod6 (by omega)) ?_
    refine lv_istore_n (lv' := [(1, .int (nI pl)), (0, .ref (xB X + xkey 12 0 0))]) hx hb dX7_keep_44 rfl hl (by decide) rfl (fun ls hl => ?_)
    refine lv_iconst (v := nI 0) hx hb dX7_keep_45 (by decide) ?_
    refine lv_istore_n (lv' := [(2, .int (nI 0)), (1, .int (nI pl)), (0, .ref (xB X + xkey 12 0 0))]) hx hb dX7_keep_46 rfl hl (by decide) rfl (fun ls hl => ?_)
    have loop_47 : ∀ (k_47 k : Nat) (ba : Nat → Int32), k + k_47 = 440 → xloop (fun k b => va_up b (440 * pl + k) (xat sg L O Y k)) k_47 k ba = xloop (fun k b => va_up b (440 * pl + k) (xat sg L O Y k)) 440 0 pb → ∀ (H : Heap) (locs : List Loc) (ls : Array Slot), XR X G 12 (xMo (va_up (va_up f 2 (nI ((pf + 1) % 6))) 3 (nI 5)) (xat sg L O Y) ba pc pd pe pg ph pp pq pt pu) H locs → lv_has ls 3 [(0, .ref (xB X + xkey 12 0 0)), (1, .int (nI pl)), (2, .int (nI k))] → W p l e { frames := 0, cells := 0, slots := 0, locals := 0 } s m args below meth c H locs 0 0 Q0 (F0 m 47 ls []) := by
      intro k_47
      induction k_47 with
      | zero =>
        intro k ba hik_47  hsp_47 H locs ls hW hl
        refine lv_iload_n hx hb dX7_keep_47 rfl (lv_at hl 2 rfl) ?_
        refine lv_sipush (v := nI 440) hx hb dX7_keep_48 (by decide) ?_
        refine lv_icmp_ge (tgt := 78) hx hb dX7_keep_51 (by decide) (fun c_4 => ?_) (fun c_4 => absurd (xge_refl (by omega)) c_4)
        refine lv_aload_n hx hb dX7_keep_78 rfl (lv_at hl 0 rfl) ?_
        refine lv_dup hx hb dX7_keep_79 rfl ?_
        refine r_get hx hb hts hown hK hW (C := RX7) (T := TX7) (xF_mo0) inlX7 rfl (by decide) 3 (by decide) (by decide +kernel) xw_169 rfl (x := nI 5) rfl dX7_keep_80 ?_
        refine lv_iconst (v := nI 1) hx hb dX7_keep_83 (by decide) ?_
        refine lv_iadd hx hb dX7_keep_84 ?_
        refine lv_eqi (y := nI (5 + 1)) (nI_add 5 1) ?_
        refine r_put hx hb hts hown hK hW (C := RX7) (T := TX7) (xF_mo0) inlX7 tyX7 tyX7_ok nmX7 rfl (by decide) 3 (by decide) (by decide +kernel) xw_169 rfl rfl rfl rfl xMo0 dX7_keep_85 (fun H locs hW => ?_)
        have hW : XR X G 12 (xMa (va_up (va_up (va_up f 2 (nI ((pf + 1) % 6))) 3 (nI 5)) 3 (nI (5 + 1))) sg L O Y ba pc pd pe pg ph pp pq pt pu) _ _ := hW
        obtain rfl : (va_up (va_up (va_up f 2 (nI ((pf + 1) % 6))) 3 (nI 5)) 3 (nI (5 + 1))) = f' := by (rw [← ho0]) <;> (first | (have e9 : pm = 6 := xnIeq 6 rfl (by decide) (by omega) c_1; first | (unfold MkF; rw [if_pos e9]) | (unfold MkB Mpl; rw [if_pos e9, ← hpl]; exact hsp_47)) | (have e9 := xnIne 6 rfl c_1; first | (unfold MkF; rw [if_neg e9]) | (unfold MkB Mpl; rw [if_neg e9, ← hpl]; exact hsp_47)))
        obtain rfl : ba = pb' := by (rw [← ho1]) <;> (first | (have e9 : pm = 6 := xnIeq 6 rfl (by decide) (by omega) c_1; first | (unfold MkF; rw [if_pos e9]) | (unfold MkB Mpl; rw [if_pos e9, ← hpl]; exact hsp_47)) | (have e9 := xnIne 6 rfl c_1; first | (unfold MkF; rw [if_neg e9]) | (unfold MkB Mpl; rw [if_neg e9, ← hpl]; exact hsp_47)))
        rw [hQ0]
        exact x_vret hx hb hret hlocks hW rfl dX7_keep_88
      | succ k_47 ih_47 =>
        intro k ba hik_47  hsp_47 H locs ls hW hl
        refine lv_iload_n hx hb dX7_keep_47 rfl (lv_at hl 2 rfl) ?_
        refine lv_sipush (v := nI 440) hx hb dX7_keep_48 (by decide) ?_
        refine lv_icmp_ge (tgt := 78) hx hb dX7_keep_51 (by decide) (fun c_5 => absurd c_5 (nI_ge (by omega) (by omega))) (fun c_5 => ?_)
        refine lv_aload_n hx hb dX7_keep_54 rfl (lv_at hl 0 rfl) ?_
        refine r_getr (C := RX7) (T := TX7) hx hb hts hown hK hW (xF_mo0).1 (xF_mo0).2.1 inlX7 rfl (by decide) 1 (by decide) (show xro (xkey 12 0 0) 1 = some (xkey 12 2 0) from by decide +kernel) xw_80 rfl dX7_keep_55 ?_
        refine lv_sipush (v := nI 440) hx hb dX7_keep_58 (by decide) ?_
        refine lv_iload_n hx hb dX7_keep_61 rfl (lv_at hl 1 rfl) ?_
        refine lv_imul hx hb dX7_keep_62 ?_
        refine lv_eqi (y := nI (440 * pl)) (xnI_mul 440 pl) ?_
        refine lv_iload_n hx hb dX7_keep_63 rfl (lv_at hl 2 rfl) ?_
        refine lv_iadd hx hb dX7_keep_64 ?_
        refine lv_eqi (y := nI (440 * pl + k)) (nI_add (440 * pl) k) ?_
        refine lv_aload_n hx hb dX7_keep_65 rfl (lv_at hl 0 rfl) ?_
        refine r_getr (C := RX7) (T := TX7) hx hb hts hown hK hW (xF_mo0).1 (xF_mo0).2.1 inlX7 rfl (by decide) 0 (by decide) (show xro (xkey 12 0 0) 0 = some (xkey 12 1 0) from by decide +kernel) xw_79 rfl dX7_keep_66 ?_
        refine lv_iload_n hx hb dX7_keep_69 rfl (lv_at hl 2 rfl) ?_
        refine r_iald hx hb hK hW (N := 440) (xF_mo1) k (by omega) (by decide) rfl (xr_model 1 (by decide) (by decide) k) (x := (xat sg L O Y) k) rfl dX7_keep_70 ?_
        refine r_iast hx hb hK hW (N := 2640) (xF_mo2) (440 * pl + k) (by omega) (by decide) rfl (xr_model 2 (by decide) (by decide) (440 * pl + k)) xMo2 dX7_keep_71 (fun H locs hW => ?_)
        refine lv_iinc (v := nI (k + 1)) (lv' := [(2, .int (nI (k + 1))), (0, .ref (xB X + xkey 12 0 0)), (1, .int (nI pl))]) hx hb dX7_keep_72 hl (k := 2) rfl (nI_1 k) (by decide) rfl (fun ls hl => ?_)
        refine lv_goto (tgt := 47) hx hb dX7_keep_75 (by decide) ?_
        refine ih_47 (k + 1) (va_up ba (440 * pl + k) ((xat sg L O Y) k)) (by omega)  ?_ H locs ls hW (lv_sub hl [1, 2, 0] rfl)
        rw [← hsp_47]; rfl
    exact loop_47 440 0 pb (by omega)  rfl _ _ _ hW (lv_sub hl [2, 1, 0] rfl)
set_option maxHeartbeats 4000000 in
set_option maxRecDepth 100000 in
theorem c_X7_keepIf (l : Launch) (X : xX) (G : xG) {f sg pb pc pd pe pg ph pp pq pt pu : Nat → Int32} {L O Y : Nat → Nat → Int32} {pf pm : Nat} {k : Int32} (hpf : f 2 = nI pf) (hpf6 : pf < 6) (hpm : f 3 = nI pm) (hpm6 : pm ≤ 6) {f' : Nat → Int32} (ho0 : (if k = 0 then f else MkF pf pm f) = f') {pb' : Nat → Int32} (ho1 : (if k = 0 then pb else MkB pf pm (xat sg L O Y) pb) = pb') : XC l yX7_keepIf cX7_keepIf 2 none 1 22 0 0 X xsh [.ref (xB X + xkey 12 0 0), .int k] 603 603 (xval (xB X) (va_up G 12 (xMa f sg L O Y pb pc pd pe pg ph pp pq pt pu))) (xval (xB X) (va_up G 12 (xMa f' sg L O Y pb' pc pd pe pg ph pp pq pt pu))) none := by
  refine XC.of RX7 "keepIf" [(0, .ref (xB X + xkey 12 0 0)), (1, .int k)] (by decide) rfl rfl (Nat.le_of_ble_eq_true rfl) rfl ?_
  intro p e s m args below meth c ls hx hb hret hml hts hown hlocks hnm hK hW hl
  have hW : XR X G 12 (xMa f sg L O Y pb pc pd pe pg ph pp pq pt pu) s.heap [] := hW
  obtain ⟨Q0, hQ0⟩ : ∃ z, z = MQ below (xQ X xsh 603 (xval (xB X) (va_up G 12 (xMa f' sg L O Y pb' pc pd pe pg ph pp pq pt pu))) none) args s 0 0 (fun q => xB X ≤ q) := ⟨_, rfl⟩
  rw [← hQ0]
  refine lv_iload_n hx hb dX7_keepIf_0 rfl (lv_at hl 1 rfl) ?_
  refine lv_if_eq (tgt := 8) hx hb dX7_keepIf_1 (by decide) (fun c_1 => ?_) (fun c_1 => ?_)
  · skip
    obtain rfl : f = f' := by (rw [← ho0]) <;> (simp [c_1])
    obtain rfl : pb = pb' := by (rw [← ho1]) <;> (simp [c_1])
    rw [hQ0]
    exact x_vret hx hb hret hlocks hW rfl dX7_keepIf_8
  · skip
    refine lv_aload_n hx hb dX7_keepIf_4 rfl (lv_at hl 0 rfl) ?_
    refine x_callV hx hb hml hown hts hK hW hl.1 (c_X7_keep l X G (pf := pf) (pm := pm) (hpf := (by assumption)) (hpf6 := (by omega)) (hpm := (by assumption)) (hpm6 := (by assumption)) (ho0 := rfl) (ho1 := rfl)) (xF_mo0).1 (xF_mo0).2.1 (by decide) rfl xw_165 xw_166 xw_167 xw_5 xw_168 hdV_yX7_keep ⟨Nat.le_of_ble_eq_true rfl, Nat.le_of_ble_eq_true rfl⟩ rfl (Nat.le_of_ble_eq_true rfl) ⟨Nat.le_refl _, Nat.le_refl _⟩ dX7_keepIf_5 (fun H locs hW => ?_)
    have hW : XR X G 12 (xMa (MkF pf pm f) sg L O Y (MkB pf pm (xat sg L O Y) pb) pc pd pe pg ph pp pq pt pu) H locs := hW
    obtain rfl : (MkF pf pm f) = f' := by (rw [← ho0]) <;> (simp [c_1])
    obtain rfl : (MkB pf pm (xat sg L O Y) pb) = pb' := by (rw [← ho1]) <;> (simp [c_1])
    rw [hQ0]
    exact x_vret hx hb hret hlocks hW rfl dX7_keepIf_8
set_option maxHeartbeats 4000000 in
set_option maxRecDepth 100000 in
theorem c_X7_layAside (l : Launch) (X : xX) (G : xG) {f sg pb pc pd pe pg ph pp pq pt pu : Nat → Int32} {L O Y : Nat → Nat → Int32}   {pe' : Nat → Int32} (ho0 : (Mcp (xat sg L O Y) pe) = pe') : XC l yX7_layAside cX7_layAside 2 none 0 0 0 0 X xsh [.ref (xB X + xkey 12 0 0)] 603 603 (xval (xB X) (va_up G 12 (xMa f sg L O Y pb pc pd pe pg ph pp pq pt pu))) (xval (xB X) (va_up G 12 (xMa f sg L O Y pb pc pd pe' pg ph pp pq pt pu))) none := by
  refine XC.of RX7 "layAside" [(0, .ref (xB X + xkey 12 0 0))] (by decide) rfl rfl (Nat.le_of_ble_eq_true rfl) rfl ?_
  intro p e s m args below meth c ls hx hb hret hml hts hown hlocks hnm hK hW hl
  have hW : XR X G 12 (xMa f sg L O Y pb pc pd pe pg ph pp pq pt pu) s.heap [] := hW
  obtain ⟨Q0, hQ0⟩ : ∃ z, z = MQ below (xQ X xsh 603 (xval (xB X) (va_up G 12 (xMa f sg L O Y pb pc pd pe' pg ph pp pq pt pu))) none) args s 0 0 (fun q => xB X ≤ q) := ⟨_, rfl⟩
  rw [← hQ0]
  have hW : XR X G 12 (xMo f (xat sg L O Y) pb pc pd pe pg ph pp pq pt pu) _ _ := hW
  refine lv_iconst (v := nI 0) hx hb dX7_layAside_0 (by decide) ?_
  refine lv_istore_n (lv' := [(1, .int (nI 0)), (0, .ref (xB X + xkey 12 0 0))]) hx hb dX7_layAside_1 rfl hl (by decide) rfl (fun ls hl => ?_)
  have loop_2 : ∀ (k_2 k : Nat) (ea : Nat → Int32), k + k_2 = 440 → xloop (fun k b => va_up b k (xat sg L O Y k)) k_2 k ea = xloop (fun k b => va_up b k (xat sg L O Y k)) 440 0 pe → ∀ (H : Heap) (locs : List Loc) (ls : Array Slot), XR X G 12 (xMo f (xat sg L O Y) pb pc pd ea pg ph pp pq pt pu) H locs → lv_has ls 2 [(0, .ref (xB X + xkey 12 0 0)), (1, .int (nI k))] → W p l e { frames := 0, cells := 0, slots := 0, locals := 0 } s m args below meth c H locs 0 0 Q0 (F0 m 2 ls []) := by
    intro k_2
    induction k_2 with
    | zero =>
      intro k ea hik_2  hsp_2 H locs ls hW hl
      refine lv_iload_n hx hb dX7_layAside_2 rfl (lv_at hl 1 rfl) ?_
      refine lv_sipush (v := nI 440) hx hb dX7_layAside_3 (by decide) ?_
      refine lv_icmp_ge (tgt := 27) hx hb dX7_layAside_6 (by decide) (fun c_1 => ?_) (fun c_1 => absurd (xge_refl (by omega)) c_1)
      have hW : XR X G 12 (xMa f sg L O Y pb pc pd ea pg ph pp pq pt pu) _ _ := hW
      obtain rfl : ea = pe' := by (rw [← ho0]) <;> (exact hsp_2)
      rw [hQ0]
      exact x_vret hx hb hret hlocks hW rfl dX7_layAside_27
    | succ k_2 ih_2 =>
      intro k ea hik_2  hsp_2 H locs ls hW hl
      refine lv_iload_n hx hb dX7_layAside_2 rfl (lv_at hl 1 rfl) ?_
      refine lv_sipush (v := nI 440) hx hb dX7_layAside_3 (by decide) ?_
      refine lv_icmp_ge (tgt := 27) hx hb dX7_layAside_6 (by decide) (fun c_2 => absurd c_2 (nI_ge (by omega) (by omega))) (fun c_2 => ?_)
      refine lv_aload_n hx hb dX7_layAside_9 rfl (lv_at hl 0 rfl) ?_
      refine r_getr (C := RX7) (T := TX7) hx hb hts hown hK hW (xF_mo0).1 (xF_mo0).2.1 inlX7 rfl (by decide) 6 (by decide) (show xro (xkey 12 0 0) 6 = some (xkey 12 5 0) from by decide +kernel) xw_83 rfl dX7_layAside_10 ?_
      refine lv_iload_n hx hb dX7_layAside_13 rfl (lv_at hl 1 rfl) ?_
      refine lv_aload_n hx hb dX7_layAside_14 rfl (lv_at hl 0 rfl) ?_
      refine r_getr (C := RX7) (T := TX7) hx hb hts hown hK hW (xF_mo0).1 (xF_mo0).2.1 inlX7 rfl (by decide) 0 (by decide) (show xro (xkey 12 0 0) 0 = some (xkey 12 1 0) from by decide +kernel) xw_79 rfl dX7_layAside_15 ?_
      refine lv_iload_n hx hb dX7_layAside_18 rfl (lv_at hl 1 rfl) ?_
      refine r_iald hx hb hK hW (N := 440) (xF_mo1) k (by omega) (by decide) rfl (xr_model 1 (by decide) (by decide) k) (x := (xat sg L O Y) k) rfl dX7_layAside_19 ?_
      refine r_iast hx hb hK hW (N := 440) (xF_mo5) k (by omega) (by decide) rfl (xr_model 5 (by decide) (by decide) k) xMo5 dX7_layAside_20 (fun H locs hW => ?_)
      refine lv_iinc (v := nI (k + 1)) (lv' := [(1, .int (nI (k + 1))), (0, .ref (xB X + xkey 12 0 0))]) hx hb dX7_layAside_21 hl (k := 1) rfl (nI_1 k) (by decide) rfl (fun ls hl => ?_)
      refine lv_goto (tgt := 2) hx hb dX7_layAside_24 (by decide) ?_
      refine ih_2 (k + 1) (va_up ea k ((xat sg L O Y) k)) (by omega)  ?_ H locs ls hW (lv_sub hl [1, 0] rfl)
      rw [← hsp_2]; rfl
  exact loop_2 440 0 pe (by omega)  rfl _ _ _ hW (lv_sub hl [1, 0] rfl)
set_option maxHeartbeats 4000000 in
set_option maxRecDepth 100000 in
theorem c_X7_layBack (l : Launch) (X : xX) (G : xG) {f sg pb pc pd pe pg ph pp pq pt pu : Nat → Int32} {L O Y : Nat → Nat → Int32} {sg0 : Nat → Int32} {L0 O0 Y0 : Nat → Nat → Int32} (hpe : ∀ k, k < 440 → pe k = xat sg0 L0 O0 Y0 k) {sg' : Nat → Int32} (ho0 : (sg0) = sg') {L' : Nat → Nat → Int32} (ho1 : (L0) = L') {O' : Nat → Nat → Int32} (ho2 : (O0) = O') {Y' : Nat → Nat → Int32} (ho3 : (Y0) = Y') : XC l yX7_layBack cX7_layBack 2 none 0 0 0 0 X xsh [.ref (xB X + xkey 12 0 0)] 603 603 (xval (xB X) (va_up G 12 (xMa f sg L O Y pb pc pd pe pg ph pp pq pt pu))) (xval (xB X) (va_up G 12 (xMa f sg' L' O' Y' pb pc pd pe pg ph pp pq pt pu))) none := by
  refine XC.of RX7 "layBack" [(0, .ref (xB X + xkey 12 0 0))] (by decide) rfl rfl (Nat.le_of_ble_eq_true rfl) rfl ?_
  intro p e s m args below meth c ls hx hb hret hml hts hown hlocks hnm hK hW hl
  have hW : XR X G 12 (xMa f sg L O Y pb pc pd pe pg ph pp pq pt pu) s.heap [] := hW
  obtain ⟨Q0, hQ0⟩ : ∃ z, z = MQ below (xQ X xsh 603 (xval (xB X) (va_up G 12 (xMa f sg' L' O' Y' pb pc pd pe pg ph pp pq pt pu))) none) args s 0 0 (fun q => xB X ≤ q) := ⟨_, rfl⟩
  rw [← hQ0]
  have hW : XR X G 12 (xMo f (xat sg L O Y) pb pc pd pe pg ph pp pq pt pu) _ _ := hW
  refine lv_iconst (v := nI 0) hx hb dX7_layBack_0 (by decide) ?_
  refine lv_istore_n (lv' := [(1, .int (nI 0)), (0, .ref (xB X + xkey 12 0 0))]) hx hb dX7_layBack_1 rfl hl (by decide) rfl (fun ls hl => ?_)
  have loop_2 : ∀ (k_2 k : Nat) (aa : Nat → Int32), k + k_2 = 440 → xloop (fun k b => va_up b k (pe k)) k_2 k aa = xloop (fun k b => va_up b k (pe k)) 440 0 (xat sg L O Y) → ∀ (H : Heap) (locs : List Loc) (ls : Array Slot), XR X G 12 (xMo f aa pb pc pd pe pg ph pp pq pt pu) H locs → lv_has ls 2 [(0, .ref (xB X + xkey 12 0 0)), (1, .int (nI k))] → W p l e { frames := 0, cells := 0, slots := 0, locals := 0 } s m args below meth c H locs 0 0 Q0 (F0 m 2 ls []) := by
    intro k_2
    induction k_2 with
    | zero =>
      intro k aa hik_2  hsp_2 H locs ls hW hl
      refine lv_iload_n hx hb dX7_layBack_2 rfl (lv_at hl 1 rfl) ?_
      refine lv_sipush (v := nI 440) hx hb dX7_layBack_3 (by decide) ?_
      refine lv_icmp_ge (tgt := 27) hx hb dX7_layBack_6 (by decide) (fun c_1 => ?_) (fun c_1 => absurd (xge_refl (by omega)) c_1)
      have hW : XR X G 12 (xMa f sg0 L0 O0 Y0 pb pc pd pe pg ph pp pq pt pu) _ _ := XR.toA hW (fun k hk => by have e : aa = Mcp pe (xat sg L O Y) := hsp_2; rw [e, Mcp_at hk]; exact hpe k hk)
      obtain rfl : sg0 = sg' := by (rw [← ho0]) <;> (rfl)
      obtain rfl : L0 = L' := by (rw [← ho1]) <;> (rfl)
      obtain rfl : O0 = O' := by (rw [← ho2]) <;> (rfl)
      obtain rfl : Y0 = Y' := by (rw [← ho3]) <;> (rfl)
      rw [hQ0]
      exact x_vret hx hb hret hlocks hW rfl dX7_layBack_27
    | succ k_2 ih_2 =>
      intro k aa hik_2  hsp_2 H locs ls hW hl
      refine lv_iload_n hx hb dX7_layBack_2 rfl (lv_at hl 1 rfl) ?_
      refine lv_sipush (v := nI 440) hx hb dX7_layBack_3 (by decide) ?_
      refine lv_icmp_ge (tgt := 27) hx hb dX7_layBack_6 (by decide) (fun c_2 => absurd c_2 (nI_ge (by omega) (by omega))) (fun c_2 => ?_)
      refine lv_aload_n hx hb dX7_layBack_9 rfl (lv_at hl 0 rfl) ?_
      refine r_getr (C := RX7) (T := TX7) hx hb hts hown hK hW (xF_mo0).1 (xF_mo0).2.1 inlX7 rfl (by decide) 0 (by decide) (show xro (xkey 12 0 0) 0 = some (xkey 12 1 0) from by decide +kernel) xw_79 rfl dX7_layBack_10 ?_
      refine lv_iload_n hx hb dX7_layBack_13 rfl (lv_at hl 1 rfl) ?_
      refine lv_aload_n hx hb dX7_layBack_14 rfl (lv_at hl 0 rfl) ?_
      refine r_getr (C := RX7) (T := TX7) hx hb hts hown hK hW (xF_mo0).1 (xF_mo0).2.1 inlX7 rfl (by decide) 6 (by decide) (show xro (xkey 12 0 0) 6 = some (xkey 12 5 0) from by decide +kernel) xw_83 rfl dX7_layBack_15 ?_
      refine lv_iload_n hx hb dX7_layBack_18 rfl (lv_at hl 1 rfl) ?_
      refine r_iald hx hb hK hW (N := 440) (xF_mo5) k (by omega) (by decide) rfl (xr_model 5 (by decide) (by decide) k) (x := pe k) rfl dX7_layBack_19 ?_
      refine r_iast hx hb hK hW (N := 440) (xF_mo1) k (by omega) (by decide) rfl (xr_model 1 (by decide) (by decide) k) xMo1 dX7_layBack_20 (fun H locs hW => ?_)
      refine lv_iinc (v := nI (k + 1)) (lv' := [(1, .int (nI (k + 1))), (0, .ref (xB X + xkey 12 0 0))]) hx hb dX7_layBack_21 hl (k := 1) rfl (nI_1 k) (by decide) rfl (fun ls hl => ?_)
      refine lv_goto (tgt := 2) hx hb dX7_layBack_24 (by decide) ?_
      refine ih_2 (k + 1) (va_up aa k (pe k)) (by omega)  ?_ H locs ls hW (lv_sub hl [1, 0] rfl)
      rw [← hsp_2]; rfl
  exact loop_2 440 0 (xat sg L O Y) (by omega)  rfl _ _ _ hW (lv_sub hl [1, 0] rfl)
set_option maxHeartbeats 4000000 in
set_option maxRecDepth 100000 in
theorem c_X7_highest (l : Launch) (X : xX) (G : xG)  {x : Int32}  {res : Int32} (hres : (Mhigh x) = res) : XC l yX7_highest cX7_highest 1 (some .int) 0 0 0 0 X xsh [.int x] 603 603 (xval (xB X) G) (xval (xB X) G) (some (.int res)) := by
  refine XC.of RX7 "highest" [(0, .int x)] (by decide) rfl rfl (Nat.le_of_ble_eq_true rfl) rfl ?_
  intro p e s m args below meth c ls hx hb hret hml hts hown hlocks hnm hK hW hl
  have hW : XG X G s.heap [] := hW
  obtain ⟨Q0, hQ0⟩ : ∃ z, z = MQ below (xQ X xsh 603 (xval (xB X) G) (some (.int res))) args s 0 0 (fun q => xB X ≤ q) := ⟨_, rfl⟩
  rw [← hQ0]
  refine lv_iload_n hx hb dX7_highest_0 rfl (lv_at hl 0 rfl) ?_
  by_cases c_1 : x = 0
  · skip
    refine lv_tableIn (off := 39) (tgt := 40) hx hb dX7_highest_1 (by rw [c_1]; decide) (by rw [c_1]; decide) (by rw [c_1]; decide) (by decide) ?_
    refine lv_bipush (v := 20) hx hb dX7_highest_40 (by decide) ?_
    obtain rfl : 20 = res := by (rw [← hres]) <;> (simp [Mhigh, c_1])
    rw [hQ0]
    exact x_iret hx hb hret hlocks rfl hW rfl dX7_highest_42
  · skip
    by_cases c_2 : x = 1
    · skip
      refine lv_tableIn (off := 42) (tgt := 43) hx hb dX7_highest_1 (by rw [c_2]; decide) (by rw [c_2]; decide) (by rw [c_2]; decide) (by decide) ?_
      refine lv_bipush (v := 60) hx hb dX7_highest_43 (by decide) ?_
      obtain rfl : 60 = res := by (rw [← hres]) <;> (simp [Mhigh, c_1, c_2])
      rw [hQ0]
      exact x_iret hx hb hret hlocks rfl hW rfl dX7_highest_45
    · skip
      by_cases c_3 : x = 2
      · skip
        refine lv_tableIn (off := 51) (tgt := 52) hx hb dX7_highest_1 (by rw [c_3]; decide) (by rw [c_3]; decide) (by rw [c_3]; decide) (by decide) ?_
        refine lv_bipush (v := 50) hx hb dX7_highest_52 (by decide) ?_
        obtain rfl : 50 = res := by (rw [← hres]) <;> (simp [Mhigh, c_1, c_2, c_3])
        rw [hQ0]
        exact x_iret hx hb hret hlocks rfl hW rfl dX7_highest_54
      · skip
        by_cases c_4 : x = 3
        · skip
          refine lv_tableIn (off := 51) (tgt := 52) hx hb dX7_highest_1 (by rw [c_4]; decide) (by rw [c_4]; decide) (by rw [c_4]; decide) (by decide) ?_
          refine lv_bipush (v := 50) hx hb dX7_highest_52 (by decide) ?_
          obtain rfl : 50 = res := by (rw [← hres]) <;> (simp [Mhigh, c_1, c_2, c_3, c_4])
          rw [hQ0]
          exact x_iret hx hb hret hlocks rfl hW rfl dX7_highest_54
        · skip
          by_cases c_5 : x = 4
          · skip
            refine lv_tableIn (off := 45) (tgt := 46) hx hb dX7_highest_1 (by rw [c_5]; decide) (by rw [c_5]; decide) (by rw [c_5]; decide) (by decide) ?_
            refine lv_bipush (v := 10) hx hb dX7_highest_46 (by decide) ?_
            obtain rfl : 10 = res := by (rw [← hres]) <;> (simp [Mhigh, c_1, c_2, c_3, c_4, c_5])
            rw [hQ0]
            exact x_iret hx hb hret hlocks rfl hW rfl dX7_highest_48
          · skip
            by_cases c_6 : x = 5
            · skip
              refine lv_tableIn (off := 48) (tgt := 49) hx hb dX7_highest_1 (by rw [c_6]; decide) (by rw [c_6]; decide) (by rw [c_6]; decide) (by decide) ?_
              refine lv_bipush (v := 6) hx hb dX7_highest_49 (by decide) ?_
              obtain rfl : 6 = res := by (rw [← hres]) <;> (simp [Mhigh, c_1, c_2, c_3, c_4, c_5, c_6])
              rw [hQ0]
              exact x_iret hx hb hret hlocks rfl hW rfl dX7_highest_51
            · skip
              refine lv_tableOut (x := x) (tgt := 52) hx hb dX7_highest_1 (x_tabout (x := x) (lo := 0) (hi := 5) (fun z h1 h2 => (fun h => h.elim (fun h => by rw [h]; exact x_nt c_1 (by decide)) (fun h => h.elim (fun h => by rw [h]; exact x_nt c_2 (by decide)) (fun h => h.elim (fun h => by rw [h]; exact x_nt c_3 (by decide)) (fun h => h.elim (fun h => by rw [h]; exact x_nt c_4 (by decide)) (fun h => h.elim (fun h => by rw [h]; exact x_nt c_5 (by decide)) (fun h => by rw [h]; exact x_nt c_6 (by decide))))))) (show z = 0 ∨ z = 1 ∨ z = 2 ∨ z = 3 ∨ z = 4 ∨ z = 5 by omega))) (by decide) ?_
              refine lv_bipush (v := 50) hx hb dX7_highest_52 (by decide) ?_
              obtain rfl : 50 = res := by (rw [← hres]) <;> (simp [Mhigh, c_1, c_2, c_3, c_4, c_5, c_6])
              rw [hQ0]
              exact x_iret hx hb hret hlocks rfl hW rfl dX7_highest_54
set_option maxHeartbeats 4000000 in
set_option maxRecDepth 100000 in
theorem c_X7_set (l : Launch) (X : xX) (G : xG) {f sg pb pc pd pe pg ph pp pq pt pu : Nat → Int32} {L O Y : Nat → Nat → Int32} {pf pm : Nat} {x v : Int32} (hpf : f 2 = nI pf) (hpf6 : pf < 6) (hpm : f 3 = nI pm) (hpm6 : pm ≤ 6) {f' : Nat → Int32} (ho0 : (Mset x v f (MkF pf pm f)) = f') {pb' : Nat → Int32} (ho1 : (Mset x v pb (MkB pf pm (xat sg L O Y) pb)) = pb') {sg' : Nat → Int32} (ho2 : (Mset x v sg (va_up sg x.toNatClampNeg v)) = sg') {res : Int32} (hres : (Mset x v (-2) (sg x.toNatClampNeg)) = res) : XC l yX7_set cX7_set 4 (some .int) 1 22 0 0 X xsh [.ref (xB X + xkey 12 0 0), .int x, .int v] 603 603 (xval (xB X) (va_up G 12 (xMa f sg L O Y pb pc pd pe pg ph pp pq pt pu))) (xval (xB X) (va_up G 12 (xMa f' sg' L O Y pb' pc pd pe pg ph pp pq pt pu))) (some (.int res)) := by
  refine XC.of RX7 "set" [(0, .ref (xB X + xkey 12 0 0)), (1, .int x), (2, .int v)] (by decide) rfl rfl (Nat.le_of_ble_eq_true rfl) rfl ?_
  intro p e s m args below meth c ls hx hb hret hml hts hown hlocks hnm hK hW hl
  have hW : XR X G 12 (xMa f sg L O Y pb pc pd pe pg ph pp pq pt pu) s.heap [] := hW
  obtain ⟨Q0, hQ0⟩ : ∃ z, z = MQ below (xQ X xsh 603 (xval (xB X) (va_up G 12 (xMa f' sg' L O Y pb' pc pd pe pg ph pp pq pt pu))) (some (.int res))) args s 0 0 (fun q => xB X ≤ q) := ⟨_, rfl⟩
  rw [← hQ0]
  refine lv_iload_n hx hb dX7_set_0 rfl (lv_at hl 1 rfl) ?_
  refine lv_iconst (v := 0) hx hb dX7_set_1 (by decide) ?_
  refine lv_iconst (v := 5) hx hb dX7_set_2 (by decide) ?_
  refine x_callS hx hb hml hown hts hK hW hl.1 (c_X7_in l X _ (v := x) (lo := 0) (hi := 5) (hres := rfl)) xw_159 xw_160 xw_5 xw_161 hdS_yX7_in ⟨Nat.le_of_ble_eq_true rfl, Nat.le_of_ble_eq_true rfl⟩ rfl (Nat.le_of_ble_eq_true rfl) ⟨Nat.le_refl _, Nat.le_refl _⟩ dX7_set_3 (fun H locs hW => ?_)
  refine lv_if_eq (tgt := 40) hx hb dX7_set_6 (by decide) (fun c_1 => ?_) (fun c_1 => ?_)
  · skip
    refine lv_bipush (v := (-2)) hx hb dX7_set_40 (by decide) ?_
    obtain rfl : f = f' := by (rw [← ho0]) <;> (first | (simp [Mset, c_1]; done) | ((first | (have eL : Mlow x = 1 := (by simp [Mlow]); unfold Mset; rw [eL]; simp only [c_1, c_1, if_true, if_false]; done) | (have eL : Mlow x = 0 := (by simp [Mlow]); unfold Mset; rw [eL]; simp only [c_1, c_1, if_true, if_false]; done))))
    obtain rfl : pb = pb' := by (rw [← ho1]) <;> (first | (simp [Mset, c_1]; done) | ((first | (have eL : Mlow x = 1 := (by simp [Mlow]); unfold Mset; rw [eL]; simp only [c_1, c_1, if_true, if_false]; done) | (have eL : Mlow x = 0 := (by simp [Mlow]); unfold Mset; rw [eL]; simp only [c_1, c_1, if_true, if_false]; done))))
    obtain rfl : sg = sg' := by (rw [← ho2]) <;> (first | (simp [Mset, c_1]; done) | ((first | (have eL : Mlow x = 1 := (by simp [Mlow]); unfold Mset; rw [eL]; simp only [c_1, c_1, if_true, if_false]; done) | (have eL : Mlow x = 0 := (by simp [Mlow]); unfold Mset; rw [eL]; simp only [c_1, c_1, if_true, if_false]; done))))
    obtain rfl : (-2) = res := by (rw [← hres]) <;> (first | (simp [Mset, c_1]; done) | ((first | (have eL : Mlow x = 1 := (by simp [Mlow]); unfold Mset; rw [eL]; simp only [c_1, c_1, if_true, if_false]; done) | (have eL : Mlow x = 0 := (by simp [Mlow]); unfold Mset; rw [eL]; simp only [c_1, c_1, if_true, if_false]; done))))
    rw [hQ0]
    exact x_iret hx hb hret hlocks rfl hW rfl dX7_set_42
  · skip
    refine lv_iload_n hx hb dX7_set_9 rfl (lv_at hl 2 rfl) ?_
    refine lv_iload_n hx hb dX7_set_10 rfl (lv_at hl 1 rfl) ?_
    refine lv_iconst (v := 1) hx hb dX7_set_11 (by decide) ?_
    refine lv_icmp_eq (tgt := 25) hx hb dX7_set_12 (by decide) (fun c_2 => ?_) (fun c_2 => ?_)
    · skip
      refine lv_iconst (v := 1) hx hb dX7_set_25 (by decide) ?_
      refine lv_goto (tgt := 30) hx hb dX7_set_26 (by decide) ?_
      refine lv_iload_n hx hb dX7_set_30 rfl (lv_at hl 1 rfl) ?_
      refine x_callS hx hb hml hown hts hK hW hl.1 (c_X7_highest l X _ (x := x) (hres := rfl)) xw_162 xw_163 xw_5 xw_164 hdS_yX7_highest ⟨Nat.le_of_ble_eq_true rfl, Nat.le_of_ble_eq_true rfl⟩ rfl (Nat.le_of_ble_eq_true rfl) ⟨Nat.le_refl _, Nat.le_refl _⟩ dX7_set_31 (fun H locs hW => ?_)
      refine x_callS hx hb hml hown hts hK hW hl.1 (c_X7_in l X _ (v := v) (lo := 1) (hi := Mhigh x) (hres := rfl)) xw_159 xw_160 xw_5 xw_161 hdS_yX7_in ⟨Nat.le_of_ble_eq_true rfl, Nat.le_of_ble_eq_true rfl⟩ rfl (Nat.le_of_ble_eq_true rfl) ⟨Nat.le_refl _, Nat.le_refl _⟩ dX7_set_34 (fun H locs hW => ?_)
      refine lv_if_ne (tgt := 43) hx hb dX7_set_37 (by decide) (fun c_3 => ?_) (fun c_3 => ?_)
      · skip
        refine lv_aload_n hx hb dX7_set_43 rfl (lv_at hl 0 rfl) ?_
        refine x_callV hx hb hml hown hts hK hW hl.1 (c_X7_keep l X G (pf := pf) (pm := pm) (hpf := (by assumption)) (hpf6 := (by omega)) (hpm := (by assumption)) (hpm6 := (by assumption)) (ho0 := rfl) (ho1 := rfl)) (xF_mo0).1 (xF_mo0).2.1 (by decide) rfl xw_165 xw_166 xw_167 xw_5 xw_168 hdV_yX7_keep ⟨Nat.le_of_ble_eq_true rfl, Nat.le_of_ble_eq_true rfl⟩ rfl (Nat.le_of_ble_eq_true rfl) ⟨Nat.le_refl _, Nat.le_refl _⟩ dX7_set_44 (fun H locs hW => ?_)
        have hW : XR X G 12 (xMa (MkF pf pm f) sg L O Y (MkB pf pm (xat sg L O Y) pb) pc pd pe pg ph pp pq pt pu) H locs := hW
        have hx9 := xfin 5 rfl (by decide) c_1
        refine lv_aload_n hx hb dX7_set_47 rfl (lv_at hl 0 rfl) ?_
        refine r_getr (C := RX7) (T := TX7) hx hb hts hown hK hW (xF_mo0).1 (xF_mo0).2.1 inlX7 rfl (by decide) 0 (by decide) (show xro (xkey 12 0 0) 0 = some (xkey 12 1 0) from by decide +kernel) xw_79 rfl dX7_set_48 ?_
        refine lv_iload_n hx hb dX7_set_51 rfl (lv_at hl 1 rfl) ?_
        refine r_iald hx hb hK hW (N := 440) (xF_mo1) x.toNatClampNeg (by omega) (by decide) hx9.2 (xr_model 1 (by decide) (by decide) x.toNatClampNeg) (x := sg x.toNatClampNeg) (xat_s (sg := sg) (L := L) (O := O) (Y := Y) (k := x.toNatClampNeg) (by omega)) dX7_set_52 ?_
        refine lv_istore_n (lv' := [(3, .int (sg x.toNatClampNeg)), (0, .ref (xB X + xkey 12 0 0)), (1, .int x), (2, .int v)]) hx hb dX7_set_53 rfl hl (by decide) rfl (fun ls hl => ?_)
        refine lv_aload_n hx hb dX7_set_54 rfl (lv_at hl 1 rfl) ?_
        refine r_getr (C := RX7) (T := TX7) hx hb hts hown hK hW (xF_mo0).1 (xF_mo0).2.1 inlX7 rfl (by decide) 0 (by decide) (show xro (xkey 12 0 0) 0 = some (xkey 12 1 0) from by decide +kernel) xw_79 rfl dX7_set_55 ?_
        refine lv_iload_n hx hb dX7_set_58 rfl (lv_at hl 2 rfl) ?_
        refine lv_iload_n hx hb dX7_set_59 rfl (lv_at hl 3 rfl) ?_
        refine r_iast hx hb hK hW (N := 440) (xF_mo1) x.toNatClampNeg (by omega) (by decide) hx9.2 (xr_model 1 (by decide) (by decide) x.toNatClampNeg) (xMa1 (w := x.toNatClampNeg) (by omega)) dX7_set_60 (fun H locs hW => ?_)
        refine lv_iload_n hx hb dX7_set_61 rfl (lv_at hl 0 rfl) ?_
        obtain rfl : (MkF pf pm f) = f' := by (rw [← ho0]) <;> (first | (simp [Mset, c_1]; done) | ((first | (have eL : Mlow x = 1 := (by simp [Mlow, c_2]); unfold Mset; rw [eL]; simp only [c_1, c_3, if_true, if_false]; done) | (have eL : Mlow x = 0 := (by simp [Mlow, c_2]); unfold Mset; rw [eL]; simp only [c_1, c_3, if_true, if_false]; done))))
        obtain rfl : (MkB pf pm (xat sg L O Y) pb) = pb' := by (rw [← ho1]) <;> (first | (simp [Mset, c_1]; done) | ((first | (have eL : Mlow x = 1 := (by simp [Mlow, c_2]); unfold Mset; rw [eL]; simp only [c_1, c_3, if_true, if_false]; done) | (have eL : Mlow x = 0 := (by simp [Mlow, c_2]); unfold Mset; rw [eL]; simp only [c_1, c_3, if_true, if_false]; done))))
        obtain rfl : (va_up sg x.toNatClampNeg v) = sg' := by (rw [← ho2]) <;> (first | (simp [Mset, c_1]; done) | ((first | (have eL : Mlow x = 1 := (by simp [Mlow, c_2]); unfold Mset; rw [eL]; simp only [c_1, c_3, if_true, if_false]; done) | (have eL : Mlow x = 0 := (by simp [Mlow, c_2]); unfold Mset; rw [eL]; simp only [c_1, c_3, if_true, if_false]; done))))
        obtain rfl : sg x.toNatClampNeg = res := by (rw [← hres]) <;> (first | (simp [Mset, c_1]; done) | ((first | (have eL : Mlow x = 1 := (by simp [Mlow, c_2]); unfold Mset; rw [eL]; simp only [c_1, c_3, if_true, if_false]; done) | (have eL : Mlow x = 0 := (by simp [Mlow, c_2]); unfold Mset; rw [eL]; simp only [c_1, c_3, if_true, if_false]; done))))
        rw [hQ0]
        exact x_iret hx hb hret hlocks rfl hW rfl dX7_set_62
      · skip
        refine lv_bipush (v := (-2)) hx hb dX7_set_40 (by decide) ?_
        obtain rfl : f = f' := by (rw [← ho0]) <;> (first | (simp [Mset, c_1]; done) | ((first | (have eL : Mlow x = 1 := (by simp [Mlow, c_2]); unfold Mset; rw [eL]; simp only [c_1, c_3, if_true, if_false]; done) | (have eL : Mlow x = 0 := (by simp [Mlow, c_2]); unfold Mset; rw [eL]; simp only [c_1, c_3, if_true, if_false]; done))))
        obtain rfl : pb = pb' := by (rw [← ho1]) <;> (first | (simp [Mset, c_1]; done) | ((first | (have eL : Mlow x = 1 := (by simp [Mlow, c_2]); unfold Mset; rw [eL]; simp only [c_1, c_3, if_true, if_false]; done) | (have eL : Mlow x = 0 := (by simp [Mlow, c_2]); unfold Mset; rw [eL]; simp only [c_1, c_3, if_true, if_false]; done))))
        obtain rfl : sg = sg' := by (rw [← ho2]) <;> (first | (simp [Mset, c_1]; done) | ((first | (have eL : Mlow x = 1 := (by simp [Mlow, c_2]); unfold Mset; rw [eL]; simp only [c_1, c_3, if_true, if_false]; done) | (have eL : Mlow x = 0 := (by simp [Mlow, c_2]); unfold Mset; rw [eL]; simp only [c_1, c_3, if_true, if_false]; done))))
        obtain rfl : (-2) = res := by (rw [← hres]) <;> (first | (simp [Mset, c_1]; done) | ((first | (have eL : Mlow x = 1 := (by simp [Mlow, c_2]); unfold Mset; rw [eL]; simp only [c_1, c_3, if_true, if_false]; done) | (have eL : Mlow x = 0 := (by simp [Mlow, c_2]); unfold Mset; rw [eL]; simp only [c_1, c_3, if_true, if_false]; done))))
        rw [hQ0]
        exact x_iret hx hb hret hlocks rfl hW rfl dX7_set_42
    · skip
      refine lv_iload_n hx hb dX7_set_15 rfl (lv_at hl 1 rfl) ?_
      refine lv_iconst (v := 2) hx hb dX7_set_16 (by decide) ?_
      refine lv_icmp_eq (tgt := 25) hx hb dX7_set_17 (by decide) (fun c_4 => ?_) (fun c_4 => ?_)
      · skip
        refine lv_iconst (v := 1) hx hb dX7_set_25 (by decide) ?_
        refine lv_goto (tgt := 30) hx hb dX7_set_26 (by decide) ?_
        refine lv_iload_n hx hb dX7_set_30 rfl (lv_at hl 1 rfl) ?_
        refine x_callS hx hb hml hown hts hK hW hl.1 (c_X7_highest l X _ (x := x) (hres := rfl)) xw_162 xw_163 xw_5 xw_164 hdS_yX7_highest ⟨Nat.le_of_ble_eq_true rfl, Nat.le_of_ble_eq_true rfl⟩ rfl (Nat.le_of_ble_eq_true rfl) ⟨Nat.le_refl _, Nat.le_refl _⟩ dX7_set_31 (fun H locs hW => ?_)
        refine x_callS hx hb hml hown hts hK hW hl.1 (c_X7_in l X _ (v := v) (lo := 1) (hi := Mhigh x) (hres := rfl)) xw_159 xw_160 xw_5 xw_161 hdS_yX7_in ⟨Nat.le_of_ble_eq_true rfl, Nat.le_of_ble_eq_true rfl⟩ rfl (Nat.le_of_ble_eq_true rfl) ⟨Nat.le_refl _, Nat.le_refl _⟩ dX7_set_34 (fun H locs hW => ?_)
        refine lv_if_ne (tgt := 43) hx hb dX7_set_37 (by decide) (fun c_5 => ?_) (fun c_5 => ?_)
        · skip
          refine lv_aload_n hx hb dX7_set_43 rfl (lv_at hl 0 rfl) ?_
          refine x_callV hx hb hml hown hts hK hW hl.1 (c_X7_keep l X G (pf := pf) (pm := pm) (hpf := (by assumption)) (hpf6 := (by omega)) (hpm := (by assumption)) (hpm6 := (by assumption)) (ho0 := rfl) (ho1 := rfl)) (xF_mo0).1 (xF_mo0).2.1 (by decide) rfl xw_165 xw_166 xw_167 xw_5 xw_168 hdV_yX7_keep ⟨Nat.le_of_ble_eq_true rfl, Nat.le_of_ble_eq_true rfl⟩ rfl (Nat.le_of_ble_eq_true rfl) ⟨Nat.le_refl _, Nat.le_refl _⟩ dX7_set_44 (fun H locs hW => ?_)
          have hW : XR X G 12 (xMa (MkF pf pm f) sg L O Y (MkB pf pm (xat sg L O Y) pb) pc pd pe pg ph pp pq pt pu) H locs := hW
          have hx9 := xfin 5 rfl (by decide) c_1
          refine lv_aload_n hx hb dX7_set_47 rfl (lv_at hl 0 rfl) ?_
          refine r_getr (C := RX7) (T := TX7) hx hb hts hown hK hW (xF_mo0).1 (xF_mo0).2.1 inlX7 rfl (by decide) 0 (by decide) (show xro (xkey 12 0 0) 0 = some (xkey 12 1 0) from by decide +kernel) xw_79 rfl dX7_set_48 ?_
          refine lv_iload_n hx hb dX7_set_51 rfl (lv_at hl 1 rfl) ?_
          refine r_iald hx hb hK hW (N := 440) (xF_mo1) x.toNatClampNeg (by omega) (by decide) hx9.2 (xr_model 1 (by decide) (by decide) x.toNatClampNeg) (x := sg x.toNatClampNeg) (xat_s (sg := sg) (L := L) (O := O) (Y := Y) (k := x.toNatClampNeg) (by omega)) dX7_set_52 ?_
          refine lv_istore_n (lv' := [(3, .int (sg x.toNatClampNeg)), (0, .ref (xB X + xkey 12 0 0)), (1, .int x), (2, .int v)]) hx hb dX7_set_53 rfl hl (by decide) rfl (fun ls hl => ?_)
          refine lv_aload_n hx hb dX7_set_54 rfl (lv_at hl 1 rfl) ?_
          refine r_getr (C := RX7) (T := TX7) hx hb hts hown hK hW (xF_mo0).1 (xF_mo0).2.1 inlX7 rfl (by decide) 0 (by decide) (show xro (xkey 12 0 0) 0 = some (xkey 12 1 0) from by decide +kernel) xw_79 rfl dX7_set_55 ?_
          refine lv_iload_n hx hb dX7_set_58 rfl (lv_at hl 2 rfl) ?_
          refine lv_iload_n hx hb dX7_set_59 rfl (lv_at hl 3 rfl) ?_
          refine r_iast hx hb hK hW (N := 440) (xF_mo1) x.toNatClampNeg (by omega) (by decide) hx9.2 (xr_model 1 (by decide) (by decide) x.toNatClampNeg) (xMa1 (w := x.toNatClampNeg) (by omega)) dX7_set_60 (fun H locs hW => ?_)
          refine lv_iload_n hx hb dX7_set_61 rfl (lv_at hl 0 rfl) ?_
          obtain rfl : (MkF pf pm f) = f' := by (rw [← ho0]) <;> (first | (simp [Mset, c_1]; done) | ((first | (have eL : Mlow x = 1 := (by simp [Mlow, c_2, c_4]); unfold Mset; rw [eL]; simp only [c_1, c_5, if_true, if_false]; done) | (have eL : Mlow x = 0 := (by simp [Mlow, c_2, c_4]); unfold Mset; rw [eL]; simp only [c_1, c_5, if_true, if_false]; done))))
          obtain rfl : (MkB pf pm (xat sg L O Y) pb) = pb' := by (rw [← ho1]) <;> (first | (simp [Mset, c_1]; done) | ((first | (have eL : Mlow x = 1 := (by simp [Mlow, c_2, c_4]); unfold Mset; rw [eL]; simp only [c_1, c_5, if_true, if_false]; done) | (have eL : Mlow x = 0 := (by simp [Mlow, c_2, c_4]); unfold Mset; rw [eL]; simp only [c_1, c_5, if_true, if_false]; done))))
          obtain rfl : (va_up sg x.toNatClampNeg v) = sg' := by (rw [← ho2]) <;> (first | (simp [Mset, c_1]; done) | ((first | (have eL : Mlow x = 1 := (by simp [Mlow, c_2, c_4]); unfold Mset; rw [eL]; simp only [c_1, c_5, if_true, if_false]; done) | (have eL : Mlow x = 0 := (by simp [Mlow, c_2, c_4]); unfold Mset; rw [eL]; simp only [c_1, c_5, if_true, if_false]; done))))
          obtain rfl : sg x.toNatClampNeg = res := by (rw [← hres]) <;> (first | (simp [Mset, c_1]; done) | ((first | (have eL : Mlow x = 1 := (by simp [Mlow, c_2, c_4]); unfold Mset; rw [eL]; simp only [c_1, c_5, if_true, if_false]; done) | (have eL : Mlow x = 0 := (by simp [Mlow, c_2, c_4]); unfold Mset; rw [eL]; simp only [c_1, c_5, if_true, if_false]; done))))
          rw [hQ0]
          exact x_iret hx hb hret hlocks rfl hW rfl dX7_set_62
        · skip
          refine lv_bipush (v := (-2)) hx hb dX7_set_40 (by decide) ?_
          obtain rfl : f = f' := by (rw [← ho0]) <;> (first | (simp [Mset, c_1]; done) | ((first | (have eL : Mlow x = 1 := (by simp [Mlow, c_2, c_4]); unfold Mset; rw [eL]; simp only [c_1, c_5, if_true, if_false]; done) | (have eL : Mlow x = 0 := (by simp [Mlow, c_2, c_4]); unfold Mset; rw [eL]; simp only [c_1, c_5, if_true, if_false]; done))))
          obtain rfl : pb = pb' := by (rw [← ho1]) <;> (first | (simp [Mset, c_1]; done) | ((first | (have eL : Mlow x = 1 := (by simp [Mlow, c_2, c_4]); unfold Mset; rw [eL]; simp only [c_1, c_5, if_true, if_false]; done) | (have eL : Mlow x = 0 := (by simp [Mlow, c_2, c_4]); unfold Mset; rw [eL]; simp only [c_1, c_5, if_true, if_false]; done))))
          obtain rfl : sg = sg' := by (rw [← ho2]) <;> (first | (simp [Mset, c_1]; done) | ((first | (have eL : Mlow x = 1 := (by simp [Mlow, c_2, c_4]); unfold Mset; rw [eL]; simp only [c_1, c_5, if_true, if_false]; done) | (have eL : Mlow x = 0 := (by simp [Mlow, c_2, c_4]); unfold Mset; rw [eL]; simp only [c_1, c_5, if_true, if_false]; done))))
          obtain rfl : (-2) = res := by (rw [← hres]) <;> (first | (simp [Mset, c_1]; done) | ((first | (have eL : Mlow x = 1 := (by simp [Mlow, c_2, c_4]); unfold Mset; rw [eL]; simp only [c_1, c_5, if_true, if_false]; done) | (have eL : Mlow x = 0 := (by simp [Mlow, c_2, c_4]); unfold Mset; rw [eL]; simp only [c_1, c_5, if_true, if_false]; done))))
          rw [hQ0]
          exact x_iret hx hb hret hlocks rfl hW rfl dX7_set_42
      · skip
        refine lv_iload_n hx hb dX7_set_20 rfl (lv_at hl 1 rfl) ?_
        refine lv_iconst (v := 4) hx hb dX7_set_21 (by decide) ?_
        refine lv_icmp_ne (tgt := 29) hx hb dX7_set_22 (by decide) (fun c_6 => ?_) (fun c_6 => ?_)
        · skip
          refine lv_iconst (v := 0) hx hb dX7_set_29 (by decide) ?_
          refine lv_iload_n hx hb dX7_set_30 rfl (lv_at hl 1 rfl) ?_
          refine x_callS hx hb hml hown hts hK hW hl.1 (c_X7_highest l X _ (x := x) (hres := rfl)) xw_162 xw_163 xw_5 xw_164 hdS_yX7_highest ⟨Nat.le_of_ble_eq_true rfl, Nat.le_of_ble_eq_true rfl⟩ rfl (Nat.le_of_ble_eq_true rfl) ⟨Nat.le_refl _, Nat.le_refl _⟩ dX7_set_31 (fun H locs hW => ?_)
          refine x_callS hx hb hml hown hts hK hW hl.1 (c_X7_in l X _ (v := v) (lo := 0) (hi := Mhigh x) (hres := rfl)) xw_159 xw_160 xw_5 xw_161 hdS_yX7_in ⟨Nat.le_of_ble_eq_true rfl, Nat.le_of_ble_eq_true rfl⟩ rfl (Nat.le_of_ble_eq_true rfl) ⟨Nat.le_refl _, Nat.le_refl _⟩ dX7_set_34 (fun H locs hW => ?_)
          refine lv_if_ne (tgt := 43) hx hb dX7_set_37 (by decide) (fun c_7 => ?_) (fun c_7 => ?_)
          · skip
            refine lv_aload_n hx hb dX7_set_43 rfl (lv_at hl 0 rfl) ?_
            refine x_callV hx hb hml hown hts hK hW hl.1 (c_X7_keep l X G (pf := pf) (pm := pm) (hpf := (by assumption)) (hpf6 := (by omega)) (hpm := (by assumption)) (hpm6 := (by assumption)) (ho0 := rfl) (ho1 := rfl)) (xF_mo0).1 (xF_mo0).2.1 (by decide) rfl xw_165 xw_166 xw_167 xw_5 xw_168 hdV_yX7_keep ⟨Nat.le_of_ble_eq_true rfl, Nat.le_of_ble_eq_true rfl⟩ rfl (Nat.le_of_ble_eq_true rfl) ⟨Nat.le_refl _, Nat.le_refl _⟩ dX7_set_44 (fun H locs hW => ?_)
            have hW : XR X G 12 (xMa (MkF pf pm f) sg L O Y (MkB pf pm (xat sg L O Y) pb) pc pd pe pg ph pp pq pt pu) H locs := hW
            have hx9 := xfin 5 rfl (by decide) c_1
            refine lv_aload_n hx hb dX7_set_47 rfl (lv_at hl 0 rfl) ?_
            refine r_getr (C := RX7) (T := TX7) hx hb hts hown hK hW (xF_mo0).1 (xF_mo0).2.1 inlX7 rfl (by decide) 0 (by decide) (show xro (xkey 12 0 0) 0 = some (xkey 12 1 0) from by decide +kernel) xw_79 rfl dX7_set_48 ?_
            refine lv_iload_n hx hb dX7_set_51 rfl (lv_at hl 1 rfl) ?_
            refine r_iald hx hb hK hW (N := 440) (xF_mo1) x.toNatClampNeg (by omega) (by decide) hx9.2 (xr_model 1 (by decide) (by decide) x.toNatClampNeg) (x := sg x.toNatClampNeg) (xat_s (sg := sg) (L := L) (O := O) (Y := Y) (k := x.toNatClampNeg) (by omega)) dX7_set_52 ?_
            refine lv_istore_n (lv' := [(3, .int (sg x.toNatClampNeg)), (0, .ref (xB X + xkey 12 0 0)), (1, .int x), (2, .int v)]) hx hb dX7_set_53 rfl hl (by decide) rfl (fun ls hl => ?_)
            refine lv_aload_n hx hb dX7_set_54 rfl (lv_at hl 1 rfl) ?_
            refine r_getr (C := RX7) (T := TX7) hx hb hts hown hK hW (xF_mo0).1 (xF_mo0).2.1 inlX7 rfl (by decide) 0 (by decide) (show xro (xkey 12 0 0) 0 = some (xkey 12 1 0) from by decide +kernel) xw_79 rfl dX7_set_55 ?_
            refine lv_iload_n hx hb dX7_set_58 rfl (lv_at hl 2 rfl) ?_
            refine lv_iload_n hx hb dX7_set_59 rfl (lv_at hl 3 rfl) ?_
            refine r_iast hx hb hK hW (N := 440) (xF_mo1) x.toNatClampNeg (by omega) (by decide) hx9.2 (xr_model 1 (by decide) (by decide) x.toNatClampNeg) (xMa1 (w := x.toNatClampNeg) (by omega)) dX7_set_60 (fun H locs hW => ?_)
            refine lv_iload_n hx hb dX7_set_61 rfl (lv_at hl 0 rfl) ?_
            obtain rfl : (MkF pf pm f) = f' := by (rw [← ho0]) <;> (first | (simp [Mset, c_1]; done) | ((first | (have eL : Mlow x = 1 := (by simp [Mlow, c_2, c_4, c_6]); unfold Mset; rw [eL]; simp only [c_1, c_7, if_true, if_false]; done) | (have eL : Mlow x = 0 := (by simp [Mlow, c_2, c_4, c_6]); unfold Mset; rw [eL]; simp only [c_1, c_7, if_true, if_false]; done))))
            obtain rfl : (MkB pf pm (xat sg L O Y) pb) = pb' := by (rw [← ho1]) <;> (first | (simp [Mset, c_1]; done) | ((first | (have eL : Mlow x = 1 := (by simp [Mlow, c_2, c_4, c_6]); unfold Mset; rw [eL]; simp only [c_1, c_7, if_true, if_false]; done) | (have eL : Mlow x = 0 := (by simp [Mlow, c_2, c_4, c_6]); unfold Mset; rw [eL]; simp only [c_1, c_7, if_true, if_false]; done))))
            obtain rfl : (va_up sg x.toNatClampNeg v) = sg' := by (rw [← ho2]) <;> (first | (simp [Mset, c_1]; done) | ((first | (have eL : Mlow x = 1 := (by simp [Mlow, c_2, c_4, c_6]); unfold Mset; rw [eL]; simp only [c_1, c_7, if_true, if_false]; done) | (have eL : Mlow x = 0 := (by simp [Mlow, c_2, c_4, c_6]); unfold Mset; rw [eL]; simp only [c_1, c_7, if_true, if_false]; done))))
            obtain rfl : sg x.toNatClampNeg = res := by (rw [← hres]) <;> (first | (simp [Mset, c_1]; done) | ((first | (have eL : Mlow x = 1 := (by simp [Mlow, c_2, c_4, c_6]); unfold Mset; rw [eL]; simp only [c_1, c_7, if_true, if_false]; done) | (have eL : Mlow x = 0 := (by simp [Mlow, c_2, c_4, c_6]); unfold Mset; rw [eL]; simp only [c_1, c_7, if_true, if_false]; done))))
            rw [hQ0]
            exact x_iret hx hb hret hlocks rfl hW rfl dX7_set_62
          · skip
            refine lv_bipush (v := (-2)) hx hb dX7_set_40 (by decide) ?_
            obtain rfl : f = f' := by (rw [← ho0]) <;> (first | (simp [Mset, c_1]; done) | ((first | (have eL : Mlow x = 1 := (by simp [Mlow, c_2, c_4, c_6]); unfold Mset; rw [eL]; simp only [c_1, c_7, if_true, if_false]; done) | (have eL : Mlow x = 0 := (by simp [Mlow, c_2, c_4, c_6]); unfold Mset; rw [eL]; simp only [c_1, c_7, if_true, if_false]; done))))
            obtain rfl : pb = pb' := by (rw [← ho1]) <;> (first | (simp [Mset, c_1]; done) | ((first | (have eL : Mlow x = 1 := (by simp [Mlow, c_2, c_4, c_6]); unfold Mset; rw [eL]; simp only [c_1, c_7, if_true, if_false]; done) | (have eL : Mlow x = 0 := (by simp [Mlow, c_2, c_4, c_6]); unfold Mset; rw [eL]; simp only [c_1, c_7, if_true, if_false]; done))))
            obtain rfl : sg = sg' := by (rw [← ho2]) <;> (first | (simp [Mset, c_1]; done) | ((first | (have eL : Mlow x = 1 := (by simp [Mlow, c_2, c_4, c_6]); unfold Mset; rw [eL]; simp only [c_1, c_7, if_true, if_false]; done) | (have eL : Mlow x = 0 := (by simp [Mlow, c_2, c_4, c_6]); unfold Mset; rw [eL]; simp only [c_1, c_7, if_true, if_false]; done))))
            obtain rfl : (-2) = res := by (rw [← hres]) <;> (first | (simp [Mset, c_1]; done) | ((first | (have eL : Mlow x = 1 := (by simp [Mlow, c_2, c_4, c_6]); unfold Mset; rw [eL]; simp only [c_1, c_7, if_true, if_false]; done) | (have eL : Mlow x = 0 := (by simp [Mlow, c_2, c_4, c_6]); unfold Mset; rw [eL]; simp only [c_1, c_7, if_true, if_false]; done))))
            rw [hQ0]
            exact x_iret hx hb hret hlocks rfl hW rfl dX7_set_42
        · skip
          refine lv_iconst (v := 1) hx hb dX7_set_25 (by decide) ?_
          refine lv_goto (tgt := 30) hx hb dX7_set_26 (by decide) ?_
          refine lv_iload_n hx hb dX7_set_30 rfl (lv_at hl 1 rfl) ?_
          refine x_callS hx hb hml hown hts hK hW hl.1 (c_X7_highest l X _ (x := x) (hres := rfl)) xw_162 xw_163 xw_5 xw_164 hdS_yX7_highest ⟨Nat.le_of_ble_eq_true rfl, Nat.le_of_ble_eq_true rfl⟩ rfl (Nat.le_of_ble_eq_true rfl) ⟨Nat.le_refl _, Nat.le_refl _⟩ dX7_set_31 (fun H locs hW => ?_)
          refine x_callS hx hb hml hown hts hK hW hl.1 (c_X7_in l X _ (v := v) (lo := 1) (hi := Mhigh x) (hres := rfl)) xw_159 xw_160 xw_5 xw_161 hdS_yX7_in ⟨Nat.le_of_ble_eq_true rfl, Nat.le_of_ble_eq_true rfl⟩ rfl (Nat.le_of_ble_eq_true rfl) ⟨Nat.le_refl _, Nat.le_refl _⟩ dX7_set_34 (fun H locs hW => ?_)
          refine lv_if_ne (tgt := 43) hx hb dX7_set_37 (by decide) (fun c_8 => ?_) (fun c_8 => ?_)
          · skip
            refine lv_aload_n hx hb dX7_set_43 rfl (lv_at hl 0 rfl) ?_
            refine x_callV hx hb hml hown hts hK hW hl.1 (c_X7_keep l X G (pf := pf) (pm := pm) (hpf := (by assumption)) (hpf6 := (by omega)) (hpm := (by assumption)) (hpm6 := (by assumption)) (ho0 := rfl) (ho1 := rfl)) (xF_mo0).1 (xF_mo0).2.1 (by decide) rfl xw_165 xw_166 xw_167 xw_5 xw_168 hdV_yX7_keep ⟨Nat.le_of_ble_eq_true rfl, Nat.le_of_ble_eq_true rfl⟩ rfl (Nat.le_of_ble_eq_true rfl) ⟨Nat.le_refl _, Nat.le_refl _⟩ dX7_set_44 (fun H locs hW => ?_)
            have hW : XR X G 12 (xMa (MkF pf pm f) sg L O Y (MkB pf pm (xat sg L O Y) pb) pc pd pe pg ph pp pq pt pu) H locs := hW
            have hx9 := xfin 5 rfl (by decide) c_1
            refine lv_aload_n hx hb dX7_set_47 rfl (lv_at hl 0 rfl) ?_
            refine r_getr (C := RX7) (T := TX7) hx hb hts hown hK hW (xF_mo0).1 (xF_mo0).2.1 inlX7 rfl (by decide) 0 (by decide) (show xro (xkey 12 0 0) 0 = some (xkey 12 1 0) from by decide +kernel) xw_79 rfl dX7_set_48 ?_
            refine lv_iload_n hx hb dX7_set_51 rfl (lv_at hl 1 rfl) ?_
            refine r_iald hx hb hK hW (N := 440) (xF_mo1) x.toNatClampNeg (by omega) (by decide) hx9.2 (xr_model 1 (by decide) (by decide) x.toNatClampNeg) (x := sg x.toNatClampNeg) (xat_s (sg := sg) (L := L) (O := O) (Y := Y) (k := x.toNatClampNeg) (by omega)) dX7_set_52 ?_
            refine lv_istore_n (lv' := [(3, .int (sg x.toNatClampNeg)), (0, .ref (xB X + xkey 12 0 0)), (1, .int x), (2, .int v)]) hx hb dX7_set_53 rfl hl (by decide) rfl (fun ls hl => ?_)
            refine lv_aload_n hx hb dX7_set_54 rfl (lv_at hl 1 rfl) ?_
            refine r_getr (C := RX7) (T := TX7) hx hb hts hown hK hW (xF_mo0).1 (xF_mo0).2.1 inlX7 rfl (by decide) 0 (by decide) (show xro (xkey 12 0 0) 0 = some (xkey 12 1 0) from by decide +kernel) xw_79 rfl dX7_set_55 ?_
            refine lv_iload_n hx hb dX7_set_58 rfl (lv_at hl 2 rfl) ?_
            refine lv_iload_n hx hb dX7_set_59 rfl (lv_at hl 3 rfl) ?_
            refine r_iast hx hb hK hW (N := 440) (xF_mo1) x.toNatClampNeg (by omega) (by decide) hx9.2 (xr_model 1 (by decide) (by decide) x.toNatClampNeg) (xMa1 (w := x.toNatClampNeg) (by omega)) dX7_set_60 (fun H locs hW => ?_)
            refine lv_iload_n hx hb dX7_set_61 rfl (lv_at hl 0 rfl) ?_
            obtain rfl : (MkF pf pm f) = f' := by (rw [← ho0]) <;> (first | (simp [Mset, c_1]; done) | ((first | (have eL : Mlow x = 1 := (by simp [Mlow, c_2, c_4, c_6]); unfold Mset; rw [eL]; simp only [c_1, c_8, if_true, if_false]; done) | (have eL : Mlow x = 0 := (by simp [Mlow, c_2, c_4, c_6]); unfold Mset; rw [eL]; simp only [c_1, c_8, if_true, if_false]; done))))
            obtain rfl : (MkB pf pm (xat sg L O Y) pb) = pb' := by (rw [← ho1]) <;> (first | (simp [Mset, c_1]; done) | ((first | (have eL : Mlow x = 1 := (by simp [Mlow, c_2, c_4, c_6]); unfold Mset; rw [eL]; simp only [c_1, c_8, if_true, if_false]; done) | (have eL : Mlow x = 0 := (by simp [Mlow, c_2, c_4, c_6]); unfold Mset; rw [eL]; simp only [c_1, c_8, if_true, if_false]; done))))
            obtain rfl : (va_up sg x.toNatClampNeg v) = sg' := by (rw [← ho2]) <;> (first | (simp [Mset, c_1]; done) | ((first | (have eL : Mlow x = 1 := (by simp [Mlow, c_2, c_4, c_6]); unfold Mset; rw [eL]; simp only [c_1, c_8, if_true, if_false]; done) | (have eL : Mlow x = 0 := (by simp [Mlow, c_2, c_4, c_6]); unfold Mset; rw [eL]; simp only [c_1, c_8, if_true, if_false]; done))))
            obtain rfl : sg x.toNatClampNeg = res := by (rw [← hres]) <;> (first | (simp [Mset, c_1]; done) | ((first | (have eL : Mlow x = 1 := (by simp [Mlow, c_2, c_4, c_6]); unfold Mset; rw [eL]; simp only [c_1, c_8, if_true, if_false]; done) | (have eL : Mlow x = 0 := (by simp [Mlow, c_2, c_4, c_6]); unfold Mset; rw [eL]; simp only [c_1, c_8, if_true, if_false]; done))))
            rw [hQ0]
            exact x_iret hx hb hret hlocks rfl hW rfl dX7_set_62
          · skip
            refine lv_bipush (v := (-2)) hx hb dX7_set_40 (by decide) ?_
            obtain rfl : f = f' := by (rw [← ho0]) <;> (first | (simp [Mset, c_1]; done) | ((first | (have eL : Mlow x = 1 := (by simp [Mlow, c_2, c_4, c_6]); unfold Mset; rw [eL]; simp only [c_1, c_8, if_true, if_false]; done) | (have eL : Mlow x = 0 := (by simp [Mlow, c_2, c_4, c_6]); unfold Mset; rw [eL]; simp only [c_1, c_8, if_true, if_false]; done))))
            obtain rfl : pb = pb' := by (rw [← ho1]) <;> (first | (simp [Mset, c_1]; done) | ((first | (have eL : Mlow x = 1 := (by simp [Mlow, c_2, c_4, c_6]); unfold Mset; rw [eL]; simp only [c_1, c_8, if_true, if_false]; done) | (have eL : Mlow x = 0 := (by simp [Mlow, c_2, c_4, c_6]); unfold Mset; rw [eL]; simp only [c_1, c_8, if_true, if_false]; done))))
            obtain rfl : sg = sg' := by (rw [← ho2]) <;> (first | (simp [Mset, c_1]; done) | ((first | (have eL : Mlow x = 1 := (by simp [Mlow, c_2, c_4, c_6]); unfold Mset; rw [eL]; simp only [c_1, c_8, if_true, if_false]; done) | (have eL : Mlow x = 0 := (by simp [Mlow, c_2, c_4, c_6]); unfold Mset; rw [eL]; simp only [c_1, c_8, if_true, if_false]; done))))
            obtain rfl : (-2) = res := by (rw [← hres]) <;> (first | (simp [Mset, c_1]; done) | ((first | (have eL : Mlow x = 1 := (by simp [Mlow, c_2, c_4, c_6]); unfold Mset; rw [eL]; simp only [c_1, c_8, if_true, if_false]; done) | (have eL : Mlow x = 0 := (by simp [Mlow, c_2, c_4, c_6]); unfold Mset; rw [eL]; simp only [c_1, c_8, if_true, if_false]; done))))
            rw [hQ0]
            exact x_iret hx hb hret hlocks rfl hW rfl dX7_set_42
set_option maxHeartbeats 4000000 in
set_option maxRecDepth 100000 in
theorem c_X7_lampAt (l : Launch) (X : xX) (G : xG) {f sg pb pc pd pe pg ph pp pq pt pu : Nat → Int32} {L O Y : Nat → Nat → Int32} {n : Nat} {x : Int32} (hn : sg 7 = nI n) (hn16 : n ≤ 16) {res : Int32} (hres : (MlampAt x L n 0) = res) : XC l yX7_lampAt cX7_lampAt 3 (some .int) 1 22 0 0 X xsh [.ref (xB X + xkey 12 0 0), .int x] 603 603 (xval (xB X) (va_up G 12 (xMa f sg L O Y pb pc pd pe pg ph pp pq pt pu))) (xval (xB X) (va_up G 12 (xMa f sg L O Y pb pc pd pe pg ph pp pq pt pu))) (some (.int res)) := by
  refine XC.of RX7 "lampAt" [(0, .ref (xB X + xkey 12 0 0)), (1, .int x)] (by decide) rfl rfl (Nat.le_of_ble_eq_true rfl) rfl ?_
  intro p e s m args below meth c ls hx hb hret hml hts hown hlocks hnm hK hW hl
  have hW : XR X G 12 (xMa f sg L O Y pb pc pd pe pg ph pp pq pt pu) s.heap [] := hW
  obtain ⟨Q0, hQ0⟩ : ∃ z, z = MQ below (xQ X xsh 603 (xval (xB X) (va_up G 12 (xMa f sg L O Y pb pc pd pe pg ph pp pq pt pu))) (some (.int res))) args s 0 0 (fun q => xB X ≤ q) := ⟨_, rfl⟩
  rw [← hQ0]
  refine lv_iconst (v := nI 0) hx hb dX7_lampAt_0 (by decide) ?_
  refine lv_istore_n (lv' := [(2, .int (nI 0)), (0, .ref (xB X + xkey 12 0 0)), (1, .int x)]) hx hb dX7_lampAt_1 rfl hl (by decide) rfl (fun ls hl => ?_)
  have loop_2 : ∀ (k_2 i : Nat) , i + k_2 = n → MlampAt x L k_2 i = MlampAt x L n 0 → ∀ (H : Heap) (locs : List Loc) (ls : Array Slot), XR X G 12 (xMa f sg L O Y pb pc pd pe pg ph pp pq pt pu) H locs → lv_has ls 3 [(0, .ref (xB X + xkey 12 0 0)), (1, .int x), (2, .int (nI i))] → W p l e { frames := 1, cells := 0, slots := 0, locals := 22 } s m args below meth c H locs 0 0 Q0 (F0 m 2 ls []) := by
    intro k_2
    induction k_2 with
    | zero =>
      intro i  hik_2  hsp_2 H locs ls hW hl
      refine lv_iload_n hx hb dX7_lampAt_2 rfl (lv_at hl 2 rfl) ?_
      refine lv_aload_n hx hb dX7_lampAt_3 rfl (lv_at hl 0 rfl) ?_
      refine r_getr (C := RX7) (T := TX7) hx hb hts hown hK hW (xF_mo0).1 (xF_mo0).2.1 inlX7 rfl (by decide) 0 (by decide) (show xro (xkey 12 0 0) 0 = some (xkey 12 1 0) from by decide +kernel) xw_79 rfl dX7_lampAt_4 ?_
      refine lv_bipush (v := 7) hx hb dX7_lampAt_7 (by decide) ?_
      refine r_iald hx hb hK hW (N := 440) (xF_mo1) 7 (by decide) (by decide) (by decide) (xr_model 1 (by decide) (by decide) 7) (x := nI n) ((xat_s (sg := sg) (L := L) (O := O) (Y := Y) (k := 7) (by omega)).trans hn) dX7_lampAt_9 ?_
      refine lv_icmp_ge (tgt := 29) hx hb dX7_lampAt_10 (by decide) (fun c_1 => ?_) (fun c_1 => absurd (xge_refl (by omega)) c_1)
      refine lv_iload_n hx hb dX7_lampAt_29 rfl (lv_at hl 2 rfl) ?_
      refine lv_aload_n hx hb dX7_lampAt_30 rfl (lv_at hl 0 rfl) ?_
      refine r_getr (C := RX7) (T := TX7) hx hb hts hown hK hW (xF_mo0).1 (xF_mo0).2.1 inlX7 rfl (by decide) 0 (by decide) (show xro (xkey 12 0 0) 0 = some (xkey 12 1 0) from by decide +kernel) xw_79 rfl dX7_lampAt_31 ?_
      refine lv_bipush (v := 7) hx hb dX7_lampAt_34 (by decide) ?_
      refine r_iald hx hb hK hW (N := 440) (xF_mo1) 7 (by decide) (by decide) (by decide) (xr_model 1 (by decide) (by decide) 7) (x := nI n) ((xat_s (sg := sg) (L := L) (O := O) (Y := Y) (k := 7) (by omega)).trans hn) dX7_lampAt_36 ?_
      refine lv_icmp_ge (tgt := 44) hx hb dX7_lampAt_37 (by decide) (fun c_2 => ?_) (fun c_2 => absurd (xge_refl (by omega)) c_2)
      refine lv_bipush (v := (-6)) hx hb dX7_lampAt_44 (by decide) ?_
      obtain rfl : (-6) = res := by (rw [← hres]) <;> (rw [← hsp_2]; simp [MlampAt, c_1, c_2])
      rw [hQ0]
      exact x_iret hx hb hret hlocks rfl hW rfl dX7_lampAt_46
    | succ k_2 ih_2 =>
      intro i  hik_2  hsp_2 H locs ls hW hl
      refine lv_iload_n hx hb dX7_lampAt_2 rfl (lv_at hl 2 rfl) ?_
      refine lv_aload_n hx hb dX7_lampAt_3 rfl (lv_at hl 0 rfl) ?_
      refine r_getr (C := RX7) (T := TX7) hx hb hts hown hK hW (xF_mo0).1 (xF_mo0).2.1 inlX7 rfl (by decide) 0 (by decide) (show xro (xkey 12 0 0) 0 = some (xkey 12 1 0) from by decide +kernel) xw_79 rfl dX7_lampAt_4 ?_
      refine lv_bipush (v := 7) hx hb dX7_lampAt_7 (by decide) ?_
      refine r_iald hx hb hK hW (N := 440) (xF_mo1) 7 (by decide) (by decide) (by decide) (xr_model 1 (by decide) (by decide) 7) (x := nI n) ((xat_s (sg := sg) (L := L) (O := O) (Y := Y) (k := 7) (by omega)).trans hn) dX7_lampAt_9 ?_
      refine lv_icmp_ge (tgt := 29) hx hb dX7_lampAt_10 (by decide) (fun c_3 => absurd c_3 (nI_ge (by omega) (by omega))) (fun c_3 => ?_)
      refine lv_aload_n hx hb dX7_lampAt_13 rfl (lv_at hl 0 rfl) ?_
      refine lv_iload_n hx hb dX7_lampAt_14 rfl (lv_at hl 2 rfl) ?_
      refine lv_iconst (v := 0) hx hb dX7_lampAt_15 (by decide) ?_
      refine x_callV hx hb hml hown hts hK hW hl.1 (c_X7_ofL l X G (i := i) (w := 0) (hi := (by omega)) (hw := (by decide)) (hres := rfl)) (xF_mo0).1 (xF_mo0).2.1 (by decide) rfl xw_198 xw_199 xw_200 xw_5 xw_201 hdV_yX7_ofL ⟨Nat.le_of_ble_eq_true rfl, Nat.le_of_ble_eq_true rfl⟩ rfl (Nat.le_of_ble_eq_true rfl) ⟨Nat.le_refl _, Nat.le_refl _⟩ dX7_lampAt_16 (fun H locs hW => ?_)
      refine lv_iload_n hx hb dX7_lampAt_19 rfl (lv_at hl 1 rfl) ?_
      refine lv_icmp_eq (tgt := 29) hx hb dX7_lampAt_20 (by decide) (fun c_4 => ?_) (fun c_4 => ?_)
      · skip
        refine lv_iload_n hx hb dX7_lampAt_29 rfl (lv_at hl 2 rfl) ?_
        refine lv_aload_n hx hb dX7_lampAt_30 rfl (lv_at hl 0 rfl) ?_
        refine r_getr (C := RX7) (T := TX7) hx hb hts hown hK hW (xF_mo0).1 (xF_mo0).2.1 inlX7 rfl (by decide) 0 (by decide) (show xro (xkey 12 0 0) 0 = some (xkey 12 1 0) from by decide +kernel) xw_79 rfl dX7_lampAt_31 ?_
        refine lv_bipush (v := 7) hx hb dX7_lampAt_34 (by decide) ?_
        refine r_iald hx hb hK hW (N := 440) (xF_mo1) 7 (by decide) (by decide) (by decide) (xr_model 1 (by decide) (by decide) 7) (x := nI n) ((xat_s (sg := sg) (L := L) (O := O) (Y := Y) (k := 7) (by omega)).trans hn) dX7_lampAt_36 ?_
        refine lv_icmp_ge (tgt := 44) hx hb dX7_lampAt_37 (by decide) (fun c_5 => absurd c_5 (nI_ge (by omega) (by omega))) (fun c_5 => ?_)
        refine lv_iload_n hx hb dX7_lampAt_40 rfl (lv_at hl 2 rfl) ?_
        refine lv_goto (tgt := 46) hx hb dX7_lampAt_41 (by decide) ?_
        obtain rfl : nI i = res := by (rw [← hres]) <;> (rw [← hsp_2]; simp [MlampAt, c_3, c_4, c_5])
        rw [hQ0]
        exact x_iret hx hb hret hlocks rfl hW rfl dX7_lampAt_46
      · skip
        refine lv_iinc (v := nI (i + 1)) (lv' := [(2, .int (nI (i + 1))), (0, .ref (xB X + xkey 12 0 0)), (1, .int x)]) hx hb dX7_lampAt_23 hl (k := 2) rfl (nI_1 i) (by decide) rfl (fun ls hl => ?_)
        refine lv_goto (tgt := 2) hx hb dX7_lampAt_26 (by decide) ?_
        refine ih_2 (i + 1)  (by omega)  ?_ H locs ls hW (lv_sub hl [1, 2, 0] rfl)
        rw [← hsp_2]; simp [MlampAt, c_3, c_4]
  exact loop_2 n 0  (by omega)  rfl _ _ _ hW (lv_sub hl [1, 2, 0] rfl)
set_option maxHeartbeats 4000000 in
set_option maxRecDepth 100000 in
theorem c_X7_lamp (l : Launch) (X : xX) (G : xG) {f sg pb pc pd pe pg ph pp pq pt pu : Nat → Int32} {L O Y : Nat → Nat → Int32} {n pf pm : Nat} {x y : Int32} (hn : sg 7 = nI n) (hn16 : n ≤ 16) (hpf : f 2 = nI pf) (hpf6 : pf < 6) (hpm : f 3 = nI pm) (hpm6 : pm ≤ 6) {f' : Nat → Int32} (ho0 : (Mlamp x y n L f f (MkF pf pm f) f) = f') {pb' : Nat → Int32} (ho1 : (Mlamp x y n L pb pb (MkB pf pm (xat sg L O Y) pb) pb) = pb') {sg' : Nat → Int32} (ho2 : (Mlamp x y n L sg sg (va_up sg 7 (nI (n + 1))) sg) = sg') {L' : Nat → Nat → Int32} (ho3 : (Mlamp x y n L L L (va_up L n (va_up (va_up (L n) 0 x) 1 y)) L) = L') {res : Int32} (hres : (Mlamp x y n L (-2) (-4) (nI (n + 1) - 1) (-5)) = res) : XC l yX7_lamp cX7_lamp 3 (some .int) 2 44 0 0 X xsh [.ref (xB X + xkey 12 0 0), .int x, .int y] 603 603 (xval (xB X) (va_up G 12 (xMa f sg L O Y pb pc pd pe pg ph pp pq pt pu))) (xval (xB X) (va_up G 12 (xMa f' sg' L' O Y pb' pc pd pe pg ph pp pq pt pu))) (some (.int res)) := by
  refine XC.of RX7 "lamp" [(0, .ref (xB X + xkey 12 0 0)), (1, .int x), (2, .int y)] (by decide) rfl rfl (Nat.le_of_ble_eq_true rfl) rfl ?_
  intro p e s m args below meth c ls hx hb hret hml hts hown hlocks hnm hK hW hl
  have hW : XR X G 12 (xMa f sg L O Y pb pc pd pe pg ph pp pq pt pu) s.heap [] := hW
  obtain ⟨Q0, hQ0⟩ : ∃ z, z = MQ below (xQ X xsh 603 (xval (xB X) (va_up G 12 (xMa f' sg' L' O Y pb' pc pd pe pg ph pp pq pt pu))) (some (.int res))) args s 0 0 (fun q => xB X ≤ q) := ⟨_, rfl⟩
  rw [← hQ0]
  refine lv_iload_n hx hb dX7_lamp_0 rfl (lv_at hl 1 rfl) ?_
  refine x_callS hx hb hml hown hts hK hW hl.1 (c_X7_isStep l X _ (a := x) (hres := rfl)) xw_191 xw_192 xw_5 xw_193 hdS_yX7_isStep ⟨Nat.le_of_ble_eq_true rfl, Nat.le_of_ble_eq_true rfl⟩ rfl (Nat.le_of_ble_eq_true rfl) ⟨Nat.le_refl _, Nat.le_refl _⟩ dX7_lamp_1 (fun H locs hW => ?_)
  refine lv_if_eq (tgt := 17) hx hb dX7_lamp_4 (by decide) (fun c_1 => ?_) (fun c_1 => ?_)
  · skip
    refine lv_bipush (v := (-2)) hx hb dX7_lamp_17 (by decide) ?_
    obtain rfl : f = f' := by (rw [← ho0]) <;> (simp [Mlamp, c_1])
    obtain rfl : pb = pb' := by (rw [← ho1]) <;> (simp [Mlamp, c_1])
    obtain rfl : sg = sg' := by (rw [← ho2]) <;> (simp [Mlamp, c_1])
    obtain rfl : L = L' := by (rw [← ho3]) <;> (simp [Mlamp, c_1])
    obtain rfl : (-2) = res := by (rw [← hres]) <;> (simp [Mlamp, c_1])
    rw [hQ0]
    exact x_iret hx hb hret hlocks rfl hW rfl dX7_lamp_19
  · skip
    refine lv_iload_n hx hb dX7_lamp_7 rfl (lv_at hl 2 rfl) ?_
    refine lv_iconst (v := 1) hx hb dX7_lamp_8 (by decide) ?_
    refine lv_bipush (v := 30) hx hb dX7_lamp_9 (by decide) ?_
    refine x_callS hx hb hml hown hts hK hW hl.1 (c_X7_in l X _ (v := y) (lo := 1) (hi := 30) (hres := rfl)) xw_159 xw_160 xw_5 xw_161 hdS_yX7_in ⟨Nat.le_of_ble_eq_true rfl, Nat.le_of_ble_eq_true rfl⟩ rfl (Nat.le_of_ble_eq_true rfl) ⟨Nat.le_refl _, Nat.le_refl _⟩ dX7_lamp_11 (fun H locs hW => ?_)
    refine lv_if_ne (tgt := 20) hx hb dX7_lamp_14 (by decide) (fun c_2 => ?_) (fun c_2 => ?_)
    · skip
      refine lv_aload_n hx hb dX7_lamp_20 rfl (lv_at hl 0 rfl) ?_
      refine r_getr (C := RX7) (T := TX7) hx hb hts hown hK hW (xF_mo0).1 (xF_mo0).2.1 inlX7 rfl (by decide) 0 (by decide) (show xro (xkey 12 0 0) 0 = some (xkey 12 1 0) from by decide +kernel) xw_79 rfl dX7_lamp_21 ?_
      refine lv_bipush (v := 7) hx hb dX7_lamp_24 (by decide) ?_
      refine r_iald hx hb hK hW (N := 440) (xF_mo1) 7 (by decide) (by decide) (by decide) (xr_model 1 (by decide) (by decide) 7) (x := nI n) ((xat_s (sg := sg) (L := L) (O := O) (Y := Y) (k := 7) (by omega)).trans hn) dX7_lamp_26 ?_
      refine lv_bipush (v := 16) hx hb dX7_lamp_27 (by decide) ?_
      refine lv_icmp_ne (tgt := 35) hx hb dX7_lamp_29 (by decide) (fun c_3 => ?_) (fun c_3 => ?_)
      · skip
        have hlt9 : n < 16 := Nat.lt_of_le_of_ne hn16 (xnIne 16 rfl c_3)
        refine lv_aload_n hx hb dX7_lamp_35 rfl (lv_at hl 0 rfl) ?_
        refine lv_iload_n hx hb dX7_lamp_36 rfl (lv_at hl 1 rfl) ?_
        refine x_callV hx hb hml hown hts hK hW hl.1 (c_X7_lampAt l X G (n := n) (x := x) (hn := (by assumption)) (hn16 := (by assumption)) (hres := rfl)) (xF_mo0).1 (xF_mo0).2.1 (by decide) rfl xw_194 xw_195 xw_196 xw_5 xw_197 hdV_yX7_lampAt ⟨Nat.le_of_ble_eq_true rfl, Nat.le_of_ble_eq_true rfl⟩ rfl (Nat.le_of_ble_eq_true rfl) ⟨Nat.le_refl _, Nat.le_refl _⟩ dX7_lamp_37 (fun H locs hW => ?_)
        refine lv_if_lt (tgt := 46) hx hb dX7_lamp_40 (by decide) (fun c_4 => ?_) (fun c_4 => ?_)
        · skip
          refine lv_aload_n hx hb dX7_lamp_46 rfl (lv_at hl 0 rfl) ?_
          refine x_callV hx hb hml hown hts hK hW hl.1 (c_X7_keep l X G (pf := pf) (pm := pm) (hpf := (by assumption)) (hpf6 := (by omega)) (hpm := (by assumption)) (hpm6 := (by assumption)) (ho0 := rfl) (ho1 := rfl)) (xF_mo0).1 (xF_mo0).2.1 (by decide) rfl xw_165 xw_166 xw_167 xw_5 xw_168 hdV_yX7_keep ⟨Nat.le_of_ble_eq_true rfl, Nat.le_of_ble_eq_true rfl⟩ rfl (Nat.le_of_ble_eq_true rfl) ⟨Nat.le_refl _, Nat.le_refl _⟩ dX7_lamp_47 (fun H locs hW => ?_)
          have hW : XR X G 12 (xMa (MkF pf pm f) sg L O Y (MkB pf pm (xat sg L O Y) pb) pc pd pe pg ph pp pq pt pu) H locs := hW
          refine lv_aload_n hx hb dX7_lamp_50 rfl (lv_at hl 0 rfl) ?_
          refine lv_aload_n hx hb dX7_lamp_51 rfl (lv_at hl 0 rfl) ?_
          refine r_getr (C := RX7) (T := TX7) hx hb hts hown hK hW (xF_mo0).1 (xF_mo0).2.1 inlX7 rfl (by decide) 0 (by decide) (show xro (xkey 12 0 0) 0 = some (xkey 12 1 0) from by decide +kernel) xw_79 rfl dX7_lamp_52 ?_
          refine lv_bipush (v := 7) hx hb dX7_lamp_55 (by decide) ?_
          refine r_iald hx hb hK hW (N := 440) (xF_mo1) 7 (by decide) (by decide) (by decide) (xr_model 1 (by decide) (by decide) 7) (x := nI n) ((xat_s (sg := sg) (L := L) (O := O) (Y := Y) (k := 7) (by omega)).trans hn) dX7_lamp_57 ?_
          refine lv_iconst (v := 0) hx hb dX7_lamp_58 (by decide) ?_
          refine lv_iload_n hx hb dX7_lamp_59 rfl (lv_at hl 1 rfl) ?_
          have hW := XR.mfoc2 hW n
          refine x_callV hx hb hml hown hts hK hW hl.1 (c_X7_layL l X G (i := n) (w := 0) (v := x) (hi := hlt9) (hw := (by decide)) ) (xF_mo0).1 (xF_mo0).2.1 (by decide) rfl xw_202 xw_203 xw_204 xw_5 xw_205 hdV_yX7_layL ⟨Nat.le_of_ble_eq_true rfl, Nat.le_of_ble_eq_true rfl⟩ rfl (Nat.le_of_ble_eq_true rfl) ⟨Nat.le_refl _, Nat.le_refl _⟩ dX7_lamp_60 (fun H locs hW => ?_)
          have hW : XR X G 12 (xMa (MkF pf pm f) sg (va_up L n (va_up (L n) 0 x)) O Y (MkB pf pm (xat sg L O Y) pb) pc pd pe pg ph pp pq pt pu) H locs := hW
          refine lv_aload_n hx hb dX7_lamp_63 rfl (lv_at hl 0 rfl) ?_
          refine lv_aload_n hx hb dX7_lamp_64 rfl (lv_at hl 0 rfl) ?_
          refine r_getr (C := RX7) (T := TX7) hx hb hts hown hK hW (xF_mo0).1 (xF_mo0).2.1 inlX7 rfl (by decide) 0 (by decide) (show xro (xkey 12 0 0) 0 = some (xkey 12 1 0) from by decide +kernel) xw_79 rfl dX7_lamp_65 ?_
          refine lv_bipush (v := 7) hx hb dX7_lamp_68 (by decide) ?_
          refine r_iald hx hb hK hW (N := 440) (xF_mo1) 7 (by decide) (by decide) (by decide) (xr_model 1 (by decide) (by decide) 7) (x := nI n) ((xat_s (sg := sg) (L := (va_up L n (va_up (L n) 0 x))) (O := O) (Y := Y) (k := 7) (by omega)).trans hn) dX7_lamp_70 ?_
          refine lv_iconst (v := 1) hx hb dX7_lamp_71 (by decide) ?_
          refine lv_iload_n hx hb dX7_lamp_72 rfl (lv_at hl 2 rfl) ?_
          refine x_callV hx hb hml hown hts hK hW hl.1 (c_X7_layL l X G (i := n) (w := 1) (v := y) (hi := hlt9) (hw := (by decide)) ) (xF_mo0).1 (xF_mo0).2.1 (by decide) rfl xw_202 xw_203 xw_204 xw_5 xw_205 hdV_yX7_layL ⟨Nat.le_of_ble_eq_true rfl, Nat.le_of_ble_eq_true rfl⟩ rfl (Nat.le_of_ble_eq_true rfl) ⟨Nat.le_refl _, Nat.le_refl _⟩ dX7_lamp_73 (fun H locs hW => ?_)
          have hW : XR X G 12 (xMa (MkF pf pm f) sg (va_up L n (va_up (va_up (L n) 0 x) 1 y)) O Y (MkB pf pm (xat sg L O Y) pb) pc pd pe pg ph pp pq pt pu) H locs := hW
          refine lv_aload_n hx hb dX7_lamp_76 rfl (lv_at hl 0 rfl) ?_
          refine r_getr (C := RX7) (T := TX7) hx hb hts hown hK hW (xF_mo0).1 (xF_mo0).2.1 inlX7 rfl (by decide) 0 (by decide) (show xro (xkey 12 0 0) 0 = some (xkey 12 1 0) from by decide +kernel) xw_79 rfl dX7_lamp_77 ?_
          refine lv_bipush (v := 7) hx hb dX7_lamp_80 (by decide) ?_
          refine lv_dup2_11 hx hb dX7_lamp_82 rfl rfl ?_
          refine r_iald hx hb hK hW (N := 440) (xF_mo1) 7 (by decide) (by decide) (by decide) (xr_model 1 (by decide) (by decide) 7) (x := nI n) ((xat_s (sg := sg) (L := (va_up L n (va_up (va_up (L n) 0 x) 1 y))) (O := O) (Y := Y) (k := 7) (by omega)).trans hn) dX7_lamp_83 ?_
          refine lv_iconst (v := nI 1) hx hb dX7_lamp_84 (by decide) ?_
          refine lv_iadd hx hb dX7_lamp_85 ?_
          refine lv_eqi (y := nI (n + 1)) (nI_add n 1) ?_
          refine r_iast hx hb hK hW (N := 440) (xF_mo1) 7 (by decide) (by decide) (by decide) (xr_model 1 (by decide) (by decide) 7) (xMa1 (w := 7) (by omega)) dX7_lamp_86 (fun H locs hW => ?_)
          refine lv_aload_n hx hb dX7_lamp_87 rfl (lv_at hl 0 rfl) ?_
          refine r_getr (C := RX7) (T := TX7) hx hb hts hown hK hW (xF_mo0).1 (xF_mo0).2.1 inlX7 rfl (by decide) 0 (by decide) (show xro (xkey 12 0 0) 0 = some (xkey 12 1 0) from by decide +kernel) xw_79 rfl dX7_lamp_88 ?_
          refine lv_bipush (v := 7) hx hb dX7_lamp_91 (by decide) ?_
          refine r_iald hx hb hK hW (N := 440) (xF_mo1) 7 (by decide) (by decide) (by decide) (xr_model 1 (by decide) (by decide) 7) (x := nI (n + 1)) (xat_s (sg := (va_up sg 7 (nI (n + 1)))) (L := (va_up L n (va_up (va_up (L n) 0 x) 1 y))) (O := O) (Y := Y) (k := 7) (by omega)) dX7_lamp_93 ?_
          refine lv_iconst (v := 1) hx hb dX7_lamp_94 (by decide) ?_
          refine lv_isub hx hb dX7_lamp_95 ?_
          obtain rfl : (MkF pf pm f) = f' := by (rw [← ho0]) <;> (simp [Mlamp, c_1, c_2, c_3, c_4, Int32.not_le.mpr c_4])
          obtain rfl : (MkB pf pm (xat sg L O Y) pb) = pb' := by (rw [← ho1]) <;> (simp [Mlamp, c_1, c_2, c_3, c_4, Int32.not_le.mpr c_4])
          obtain rfl : (va_up sg 7 (nI (n + 1))) = sg' := by (rw [← ho2]) <;> (simp [Mlamp, c_1, c_2, c_3, c_4, Int32.not_le.mpr c_4])
          obtain rfl : (va_up L n (va_up (va_up (L n) 0 x) 1 y)) = L' := by (rw [← ho3]) <;> (simp [Mlamp, c_1, c_2, c_3, c_4, Int32.not_le.mpr c_4])
          obtain rfl : (nI (n + 1)) - 1 = res := by (rw [← hres]) <;> (simp [Mlamp, c_1, c_2, c_3, c_4, Int32.not_le.mpr c_4])
          rw [hQ0]
          exact x_iret hx hb hret hlocks rfl hW rfl dX7_lamp_96
        · skip
          refine lv_bipush (v := (-5)) hx hb dX7_lamp_43 (by decide) ?_
          obtain rfl : f = f' := by (rw [← ho0]) <;> (simp [Mlamp, c_1, c_2, c_3, c_4, Int32.not_lt.mp c_4])
          obtain rfl : pb = pb' := by (rw [← ho1]) <;> (simp [Mlamp, c_1, c_2, c_3, c_4, Int32.not_lt.mp c_4])
          obtain rfl : sg = sg' := by (rw [← ho2]) <;> (simp [Mlamp, c_1, c_2, c_3, c_4, Int32.not_lt.mp c_4])
          obtain rfl : L = L' := by (rw [← ho3]) <;> (simp [Mlamp, c_1, c_2, c_3, c_4, Int32.not_lt.mp c_4])
          obtain rfl : (-5) = res := by (rw [← hres]) <;> (simp [Mlamp, c_1, c_2, c_3, c_4, Int32.not_lt.mp c_4])
          rw [hQ0]
          exact x_iret hx hb hret hlocks rfl hW rfl dX7_lamp_45
      · skip
        refine lv_bipush (v := (-4)) hx hb dX7_lamp_32 (by decide) ?_
        obtain rfl : f = f' := by (rw [← ho0]) <;> (simp [Mlamp, c_1, c_2, c_3])
        obtain rfl : pb = pb' := by (rw [← ho1]) <;> (simp [Mlamp, c_1, c_2, c_3])
        obtain rfl : sg = sg' := by (rw [← ho2]) <;> (simp [Mlamp, c_1, c_2, c_3])
        obtain rfl : L = L' := by (rw [← ho3]) <;> (simp [Mlamp, c_1, c_2, c_3])
        obtain rfl : (-4) = res := by (rw [← hres]) <;> (simp [Mlamp, c_1, c_2, c_3])
        rw [hQ0]
        exact x_iret hx hb hret hlocks rfl hW rfl dX7_lamp_34
    · skip
      refine lv_bipush (v := (-2)) hx hb dX7_lamp_17 (by decide) ?_
      obtain rfl : f = f' := by (rw [← ho0]) <;> (simp [Mlamp, c_1, c_2])
      obtain rfl : pb = pb' := by (rw [← ho1]) <;> (simp [Mlamp, c_1, c_2])
      obtain rfl : sg = sg' := by (rw [← ho2]) <;> (simp [Mlamp, c_1, c_2])
      obtain rfl : L = L' := by (rw [← ho3]) <;> (simp [Mlamp, c_1, c_2])
      obtain rfl : (-2) = res := by (rw [← hres]) <;> (simp [Mlamp, c_1, c_2])
      rw [hQ0]
      exact x_iret hx hb hret hlocks rfl hW rfl dX7_lamp_19
set_option maxHeartbeats 4000000 in
set_option maxRecDepth 100000 in
theorem c_X7_house (l : Launch) (X : xX) (G : xG) {f sg pb pc pd pe pg ph pp pq pt pu : Nat → Int32} {L O Y : Nat → Nat → Int32} {nh pf pm : Nat} {x : Int32} (hh : sg 8 = nI nh) (hh8 : nh ≤ 8) (hpf : f 2 = nI pf) (hpf6 : pf < 6) (hpm : f 3 = nI pm) (hpm6 : pm ≤ 6) {f' : Nat → Int32} (ho0 : (Mhouse x nh f f (MkF pf pm f)) = f') {pb' : Nat → Int32} (ho1 : (Mhouse x nh pb pb (MkB pf pm (xat sg L O Y) pb)) = pb') {sg' : Nat → Int32} (ho2 : (Mhouse x nh sg sg (va_up sg 8 (nI (nh + 1)))) = sg') {O' : Nat → Nat → Int32} (ho3 : (Mhouse x nh O O (va_up O nh (va_up (O nh) 0 x))) = O') {res : Int32} (hres : (Mhouse x nh (-2) (-4) (nI (nh + 1) - 1)) = res) : XC l yX7_house cX7_house 2 (some .int) 2 42 0 0 X xsh [.ref (xB X + xkey 12 0 0), .int x] 603 603 (xval (xB X) (va_up G 12 (xMa f sg L O Y pb pc pd pe pg ph pp pq pt pu))) (xval (xB X) (va_up G 12 (xMa f' sg' L O' Y pb' pc pd pe pg ph pp pq pt pu))) (some (.int res)) := by
  refine XC.of RX7 "house" [(0, .ref (xB X + xkey 12 0 0)), (1, .int x)] (by decide) rfl rfl (Nat.le_of_ble_eq_true rfl) rfl ?_
  intro p e s m args below meth c ls hx hb hret hml hts hown hlocks hnm hK hW hl
  have hW : XR X G 12 (xMa f sg L O Y pb pc pd pe pg ph pp pq pt pu) s.heap [] := hW
  obtain ⟨Q0, hQ0⟩ : ∃ z, z = MQ below (xQ X xsh 603 (xval (xB X) (va_up G 12 (xMa f' sg' L O' Y pb' pc pd pe pg ph pp pq pt pu))) (some (.int res))) args s 0 0 (fun q => xB X ≤ q) := ⟨_, rfl⟩
  rw [← hQ0]
  refine lv_iload_n hx hb dX7_house_0 rfl (lv_at hl 1 rfl) ?_
  refine x_callS hx hb hml hown hts hK hW hl.1 (c_X7_isStep l X _ (a := x) (hres := rfl)) xw_191 xw_192 xw_5 xw_193 hdS_yX7_isStep ⟨Nat.le_of_ble_eq_true rfl, Nat.le_of_ble_eq_true rfl⟩ rfl (Nat.le_of_ble_eq_true rfl) ⟨Nat.le_refl _, Nat.le_refl _⟩ dX7_house_1 (fun H locs hW => ?_)
  refine lv_if_ne (tgt := 10) hx hb dX7_house_4 (by decide) (fun c_1 => ?_) (fun c_1 => ?_)
  · skip
    refine lv_aload_n hx hb dX7_house_10 rfl (lv_at hl 0 rfl) ?_
    refine r_getr (C := RX7) (T := TX7) hx hb hts hown hK hW (xF_mo0).1 (xF_mo0).2.1 inlX7 rfl (by decide) 0 (by decide) (show xro (xkey 12 0 0) 0 = some (xkey 12 1 0) from by decide +kernel) xw_79 rfl dX7_house_11 ?_
    refine lv_bipush (v := 8) hx hb dX7_house_14 (by decide) ?_
    refine r_iald hx hb hK hW (N := 440) (xF_mo1) 8 (by decide) (by decide) (by decide) (xr_model 1 (by decide) (by decide) 8) (x := nI nh) ((xat_s (sg := sg) (L := L) (O := O) (Y := Y) (k := 8) (by omega)).trans hh) dX7_house_16 ?_
    refine lv_bipush (v := 8) hx hb dX7_house_17 (by decide) ?_
    refine lv_icmp_ne (tgt := 25) hx hb dX7_house_19 (by decide) (fun c_2 => ?_) (fun c_2 => ?_)
    · skip
      have hlt9 : nh < 8 := Nat.lt_of_le_of_ne hh8 (xnIne 8 rfl c_2)
      refine lv_aload_n hx hb dX7_house_25 rfl (lv_at hl 0 rfl) ?_
      refine x_callV hx hb hml hown hts hK hW hl.1 (c_X7_keep l X G (pf := pf) (pm := pm) (hpf := (by assumption)) (hpf6 := (by omega)) (hpm := (by assumption)) (hpm6 := (by assumption)) (ho0 := rfl) (ho1 := rfl)) (xF_mo0).1 (xF_mo0).2.1 (by decide) rfl xw_165 xw_166 xw_167 xw_5 xw_168 hdV_yX7_keep ⟨Nat.le_of_ble_eq_true rfl, Nat.le_of_ble_eq_true rfl⟩ rfl (Nat.le_of_ble_eq_true rfl) ⟨Nat.le_refl _, Nat.le_refl _⟩ dX7_house_26 (fun H locs hW => ?_)
      have hW : XR X G 12 (xMa (MkF pf pm f) sg L O Y (MkB pf pm (xat sg L O Y) pb) pc pd pe pg ph pp pq pt pu) H locs := hW
      refine lv_aload_n hx hb dX7_house_29 rfl (lv_at hl 0 rfl) ?_
      refine r_getr (C := RX7) (T := TX7) hx hb hts hown hK hW (xF_mo0).1 (xF_mo0).2.1 inlX7 rfl (by decide) 0 (by decide) (show xro (xkey 12 0 0) 0 = some (xkey 12 1 0) from by decide +kernel) xw_79 rfl dX7_house_30 ?_
      refine lv_sipush (v := nI 218) hx hb dX7_house_33 (by decide) ?_
      refine lv_iconst (v := nI 3) hx hb dX7_house_36 (by decide) ?_
      refine lv_aload_n hx hb dX7_house_37 rfl (lv_at hl 0 rfl) ?_
      refine r_getr (C := RX7) (T := TX7) hx hb hts hown hK hW (xF_mo0).1 (xF_mo0).2.1 inlX7 rfl (by decide) 0 (by decide) (show xro (xkey 12 0 0) 0 = some (xkey 12 1 0) from by decide +kernel) xw_79 rfl dX7_house_38 ?_
      refine lv_bipush (v := 8) hx hb dX7_house_41 (by decide) ?_
      refine r_iald hx hb hK hW (N := 440) (xF_mo1) 8 (by decide) (by decide) (by decide) (xr_model 1 (by decide) (by decide) 8) (x := nI nh) ((xat_s (sg := sg) (L := L) (O := O) (Y := Y) (k := 8) (by omega)).trans hh) dX7_house_43 ?_
      refine lv_imul hx hb dX7_house_44 ?_
      refine lv_eqi (y := nI (3 * nh)) (xnI_mul 3 nh) ?_
      refine lv_iadd hx hb dX7_house_45 ?_
      refine lv_eqi (y := nI (218 + 3 * nh)) (nI_add 218 (3 * nh)) ?_
      refine lv_iload_n hx hb dX7_house_46 rfl (lv_at hl 1 rfl) ?_
      have hW := XR.mfoc3 hW nh
      refine r_iast hx hb hK hW (N := 440) (xF_mo1) (218 + 3 * nh) (by omega) (by decide) rfl (xr_model 1 (by decide) (by decide) (218 + 3 * nh)) (xMa3f (i := nh) (w := 0) (by omega) (by omega)) dX7_house_47 (fun H locs hW => ?_)
      refine lv_aload_n hx hb dX7_house_48 rfl (lv_at hl 0 rfl) ?_
      refine r_getr (C := RX7) (T := TX7) hx hb hts hown hK hW (xF_mo0).1 (xF_mo0).2.1 inlX7 rfl (by decide) 0 (by decide) (show xro (xkey 12 0 0) 0 = some (xkey 12 1 0) from by decide +kernel) xw_79 rfl dX7_house_49 ?_
      refine lv_bipush (v := 8) hx hb dX7_house_52 (by decide) ?_
      refine lv_dup2_11 hx hb dX7_house_54 rfl rfl ?_
      refine r_iald hx hb hK hW (N := 440) (xF_mo1) 8 (by decide) (by decide) (by decide) (xr_model 1 (by decide) (by decide) 8) (x := nI nh) ((xat_s (sg := sg) (L := L) (O := (va_up O nh (va_up (O nh) 0 x))) (Y := Y) (k := 8) (by omega)).trans hh) dX7_house_55 ?_
      refine lv_iconst (v := nI 1) hx hb dX7_house_56 (by decide) ?_
      refine lv_iadd hx hb dX7_house_57 ?_
      refine lv_eqi (y := nI (nh + 1)) (nI_add nh 1) ?_
      refine r_iast hx hb hK hW (N := 440) (xF_mo1) 8 (by decide) (by decide) (by decide) (xr_model 1 (by decide) (by decide) 8) (xMa1 (w := 8) (by omega)) dX7_house_58 (fun H locs hW => ?_)
      refine lv_aload_n hx hb dX7_house_59 rfl (lv_at hl 0 rfl) ?_
      refine r_getr (C := RX7) (T := TX7) hx hb hts hown hK hW (xF_mo0).1 (xF_mo0).2.1 inlX7 rfl (by decide) 0 (by decide) (show xro (xkey 12 0 0) 0 = some (xkey 12 1 0) from by decide +kernel) xw_79 rfl dX7_house_60 ?_
      refine lv_bipush (v := 8) hx hb dX7_house_63 (by decide) ?_
      refine r_iald hx hb hK hW (N := 440) (xF_mo1) 8 (by decide) (by decide) (by decide) (xr_model 1 (by decide) (by decide) 8) (x := nI (nh + 1)) (xat_s (sg := (va_up sg 8 (nI (nh + 1)))) (L := L) (O := (va_up O nh (va_up (O nh) 0 x))) (Y := Y) (k := 8) (by omega)) dX7_house_65 ?_
      refine lv_iconst (v := 1) hx hb dX7_house_66 (by decide) ?_
      refine lv_isub hx hb dX7_house_67 ?_
      obtain rfl : (MkF pf pm f) = f' := by (rw [← ho0]) <;> (simp [Mhouse, c_1, c_2])
      obtain rfl : (MkB pf pm (xat sg L O Y) pb) = pb' := by (rw [← ho1]) <;> (simp [Mhouse, c_1, c_2])
      obtain rfl : (va_up sg 8 (nI (nh + 1))) = sg' := by (rw [← ho2]) <;> (simp [Mhouse, c_1, c_2])
      obtain rfl : (va_up O nh (va_up (O nh) 0 x)) = O' := by (rw [← ho3]) <;> (simp [Mhouse, c_1, c_2])
      obtain rfl : (nI (nh + 1)) - 1 = res := by (rw [← hres]) <;> (simp [Mhouse, c_1, c_2])
      rw [hQ0]
      exact x_iret hx hb hret hlocks rfl hW rfl dX7_house_68
    · skip
      refine lv_bipush (v := (-4)) hx hb dX7_house_22 (by decide) ?_
      obtain rfl : f = f' := by (rw [← ho0]) <;> (simp [Mhouse, c_1, c_2])
      obtain rfl : pb = pb' := by (rw [← ho1]) <;> (simp [Mhouse, c_1, c_2])
      obtain rfl : sg = sg' := by (rw [← ho2]) <;> (simp [Mhouse, c_1, c_2])
      obtain rfl : O = O' := by (rw [← ho3]) <;> (simp [Mhouse, c_1, c_2])
      obtain rfl : (-4) = res := by (rw [← hres]) <;> (simp [Mhouse, c_1, c_2])
      rw [hQ0]
      exact x_iret hx hb hret hlocks rfl hW rfl dX7_house_24
  · skip
    refine lv_bipush (v := (-2)) hx hb dX7_house_7 (by decide) ?_
    obtain rfl : f = f' := by (rw [← ho0]) <;> (simp [Mhouse, c_1])
    obtain rfl : pb = pb' := by (rw [← ho1]) <;> (simp [Mhouse, c_1])
    obtain rfl : sg = sg' := by (rw [← ho2]) <;> (simp [Mhouse, c_1])
    obtain rfl : O = O' := by (rw [← ho3]) <;> (simp [Mhouse, c_1])
    obtain rfl : (-2) = res := by (rw [← hres]) <;> (simp [Mhouse, c_1])
    rw [hQ0]
    exact x_iret hx hb hret hlocks rfl hW rfl dX7_house_9
set_option maxHeartbeats 4000000 in
set_option maxRecDepth 100000 in
theorem c_X7_tryWalker (l : Launch) (X : xX) (G : xG) {f sg pb pc pd pe pg ph pp pq pt pu : Nat → Int32} {L O Y : Nat → Nat → Int32} {nw pf pm : Nat} {x y k : Int32} (hw : sg 9 = nI nw) (hw8 : nw ≤ 8) (hpf : f 2 = nI pf) (hpf6 : pf < 6) (hpm : f 3 = nI pm) (hpm6 : pm ≤ 6) {f' : Nat → Int32} (ho0 : (Mwk x y nw f f (if k = 0 then f else MkF pf pm f)) = f') {pb' : Nat → Int32} (ho1 : (Mwk x y nw pb pb (if k = 0 then pb else MkB pf pm (xat sg L O Y) pb)) = pb') {sg' : Nat → Int32} (ho2 : (Mwk x y nw sg sg (va_up sg 9 (nI (nw + 1)))) = sg') {Y' : Nat → Nat → Int32} (ho3 : (Mwk x y nw Y Y (va_up Y nw (va_up (va_up (va_up (Y nw) 0 x) 1 y) 4 (-6)))) = Y') {res : Int32} (hres : (Mwk x y nw (-2) (-4) (nI (nw + 1) - 1)) = res) : XC l yX7_tryWalker cX7_tryWalker 4 (some .int) 2 43 0 0 X xsh [.ref (xB X + xkey 12 0 0), .int x, .int y, .int k] 603 603 (xval (xB X) (va_up G 12 (xMa f sg L O Y pb pc pd pe pg ph pp pq pt pu))) (xval (xB X) (va_up G 12 (xMa f' sg' L O Y' pb' pc pd pe pg ph pp pq pt pu))) (some (.int res)) := by
  refine XC.of RX7 "tryWalker" [(0, .ref (xB X + xkey 12 0 0)), (1, .int x), (2, .int y), (3, .int k)] (by decide) rfl rfl (Nat.le_of_ble_eq_true rfl) rfl ?_
  intro p e s m args below meth c ls hx hb hret hml hts hown hlocks hnm hK hW hl
  have hW : XR X G 12 (xMa f sg L O Y pb pc pd pe pg ph pp pq pt pu) s.heap [] := hW
  obtain ⟨Q0, hQ0⟩ : ∃ z, z = MQ below (xQ X xsh 603 (xval (xB X) (va_up G 12 (xMa f' sg' L O Y' pb' pc pd pe pg ph pp pq pt pu))) (some (.int res))) args s 0 0 (fun q => xB X ≤ q) := ⟨_, rfl⟩
  rw [← hQ0]
  refine lv_iload_n hx hb dX7_tryWalker_0 rfl (lv_at hl 1 rfl) ?_
  refine x_callS hx hb hml hown hts hK hW hl.1 (c_X7_isStep l X _ (a := x) (hres := rfl)) xw_191 xw_192 xw_5 xw_193 hdS_yX7_isStep ⟨Nat.le_of_ble_eq_true rfl, Nat.le_of_ble_eq_true rfl⟩ rfl (Nat.le_of_ble_eq_true rfl) ⟨Nat.le_refl _, Nat.le_refl _⟩ dX7_tryWalker_1 (fun H locs hW => ?_)
  refine lv_if_eq (tgt := 16) hx hb dX7_tryWalker_4 (by decide) (fun c_1 => ?_) (fun c_1 => ?_)
  · skip
    refine lv_bipush (v := (-2)) hx hb dX7_tryWalker_16 (by decide) ?_
    obtain rfl : f = f' := by (rw [← ho0]) <;> (simp [Mwk, c_1])
    obtain rfl : pb = pb' := by (rw [← ho1]) <;> (simp [Mwk, c_1])
    obtain rfl : sg = sg' := by (rw [← ho2]) <;> (simp [Mwk, c_1])
    obtain rfl : Y = Y' := by (rw [← ho3]) <;> (simp [Mwk, c_1])
    obtain rfl : (-2) = res := by (rw [← hres]) <;> (simp [Mwk, c_1])
    rw [hQ0]
    exact x_iret hx hb hret hlocks rfl hW rfl dX7_tryWalker_18
  · skip
    refine lv_iload_n hx hb dX7_tryWalker_7 rfl (lv_at hl 2 rfl) ?_
    refine lv_iconst (v := 1) hx hb dX7_tryWalker_8 (by decide) ?_
    refine lv_iconst (v := 4) hx hb dX7_tryWalker_9 (by decide) ?_
    refine x_callS hx hb hml hown hts hK hW hl.1 (c_X7_in l X _ (v := y) (lo := 1) (hi := 4) (hres := rfl)) xw_159 xw_160 xw_5 xw_161 hdS_yX7_in ⟨Nat.le_of_ble_eq_true rfl, Nat.le_of_ble_eq_true rfl⟩ rfl (Nat.le_of_ble_eq_true rfl) ⟨Nat.le_refl _, Nat.le_refl _⟩ dX7_tryWalker_10 (fun H locs hW => ?_)
    refine lv_if_ne (tgt := 19) hx hb dX7_tryWalker_13 (by decide) (fun c_2 => ?_) (fun c_2 => ?_)
    · skip
      refine lv_aload_n hx hb dX7_tryWalker_19 rfl (lv_at hl 0 rfl) ?_
      refine r_getr (C := RX7) (T := TX7) hx hb hts hown hK hW (xF_mo0).1 (xF_mo0).2.1 inlX7 rfl (by decide) 0 (by decide) (show xro (xkey 12 0 0) 0 = some (xkey 12 1 0) from by decide +kernel) xw_79 rfl dX7_tryWalker_20 ?_
      refine lv_bipush (v := 9) hx hb dX7_tryWalker_23 (by decide) ?_
      refine r_iald hx hb hK hW (N := 440) (xF_mo1) 9 (by decide) (by decide) (by decide) (xr_model 1 (by decide) (by decide) 9) (x := nI nw) ((xat_s (sg := sg) (L := L) (O := O) (Y := Y) (k := 9) (by omega)).trans hw) dX7_tryWalker_25 ?_
      refine lv_bipush (v := 8) hx hb dX7_tryWalker_26 (by decide) ?_
      refine lv_icmp_ne (tgt := 34) hx hb dX7_tryWalker_28 (by decide) (fun c_3 => ?_) (fun c_3 => ?_)
      · skip
        have hlt9 : nw < 8 := Nat.lt_of_le_of_ne hw8 (xnIne 8 rfl c_3)
        refine lv_aload_n hx hb dX7_tryWalker_34 rfl (lv_at hl 0 rfl) ?_
        refine lv_iload_n hx hb dX7_tryWalker_35 rfl (lv_at hl 3 rfl) ?_
        refine x_callV hx hb hml hown hts hK hW hl.1 (c_X7_keepIf l X G (pf := pf) (pm := pm) (k := k) (hpf := (by assumption)) (hpf6 := (by omega)) (hpm := (by assumption)) (hpm6 := (by assumption)) (ho0 := rfl) (ho1 := rfl)) (xF_mo0).1 (xF_mo0).2.1 (by decide) rfl xw_242 xw_243 xw_244 xw_5 xw_245 hdV_yX7_keepIf ⟨Nat.le_of_ble_eq_true rfl, Nat.le_of_ble_eq_true rfl⟩ rfl (Nat.le_of_ble_eq_true rfl) ⟨Nat.le_refl _, Nat.le_refl _⟩ dX7_tryWalker_36 (fun H locs hW => ?_)
        have hW : XR X G 12 (xMa (if k = 0 then f else MkF pf pm f) sg L O Y (if k = 0 then pb else MkB pf pm (xat sg L O Y) pb) pc pd pe pg ph pp pq pt pu) H locs := hW
        refine lv_aload_n hx hb dX7_tryWalker_39 rfl (lv_at hl 0 rfl) ?_
        refine lv_aload_n hx hb dX7_tryWalker_40 rfl (lv_at hl 0 rfl) ?_
        refine r_getr (C := RX7) (T := TX7) hx hb hts hown hK hW (xF_mo0).1 (xF_mo0).2.1 inlX7 rfl (by decide) 0 (by decide) (show xro (xkey 12 0 0) 0 = some (xkey 12 1 0) from by decide +kernel) xw_79 rfl dX7_tryWalker_41 ?_
        refine lv_bipush (v := 9) hx hb dX7_tryWalker_44 (by decide) ?_
        refine r_iald hx hb hK hW (N := 440) (xF_mo1) 9 (by decide) (by decide) (by decide) (xr_model 1 (by decide) (by decide) 9) (x := nI nw) ((xat_s (sg := sg) (L := L) (O := O) (Y := Y) (k := 9) (by omega)).trans hw) dX7_tryWalker_46 ?_
        refine lv_iconst (v := 0) hx hb dX7_tryWalker_47 (by decide) ?_
        refine lv_iload_n hx hb dX7_tryWalker_48 rfl (lv_at hl 1 rfl) ?_
        have hW := XR.mfoc4 hW nw
        refine x_callV hx hb hml hown hts hK hW hl.1 (c_X7_layW l X G (i := nw) (w := 0) (v := x) (hi := hlt9) (hw := (by decide)) ) (xF_mo0).1 (xF_mo0).2.1 (by decide) rfl xw_246 xw_247 xw_248 xw_5 xw_249 hdV_yX7_layW ⟨Nat.le_of_ble_eq_true rfl, Nat.le_of_ble_eq_true rfl⟩ rfl (Nat.le_of_ble_eq_true rfl) ⟨Nat.le_refl _, Nat.le_refl _⟩ dX7_tryWalker_49 (fun H locs hW => ?_)
        have hW : XR X G 12 (xMa (if k = 0 then f else MkF pf pm f) sg L O (va_up Y nw (va_up (Y nw) 0 x)) (if k = 0 then pb else MkB pf pm (xat sg L O Y) pb) pc pd pe pg ph pp pq pt pu) H locs := hW
        refine lv_aload_n hx hb dX7_tryWalker_52 rfl (lv_at hl 0 rfl) ?_
        refine lv_aload_n hx hb dX7_tryWalker_53 rfl (lv_at hl 0 rfl) ?_
        refine r_getr (C := RX7) (T := TX7) hx hb hts hown hK hW (xF_mo0).1 (xF_mo0).2.1 inlX7 rfl (by decide) 0 (by decide) (show xro (xkey 12 0 0) 0 = some (xkey 12 1 0) from by decide +kernel) xw_79 rfl dX7_tryWalker_54 ?_
        refine lv_bipush (v := 9) hx hb dX7_tryWalker_57 (by decide) ?_
        refine r_iald hx hb hK hW (N := 440) (xF_mo1) 9 (by decide) (by decide) (by decide) (xr_model 1 (by decide) (by decide) 9) (x := nI nw) ((xat_s (sg := sg) (L := L) (O := O) (Y := (va_up Y nw (va_up (Y nw) 0 x))) (k := 9) (by omega)).trans hw) dX7_tryWalker_59 ?_
        refine lv_iconst (v := 1) hx hb dX7_tryWalker_60 (by decide) ?_
        refine lv_iload_n hx hb dX7_tryWalker_61 rfl (lv_at hl 2 rfl) ?_
        refine x_callV hx hb hml hown hts hK hW hl.1 (c_X7_layW l X G (i := nw) (w := 1) (v := y) (hi := hlt9) (hw := (by decide)) ) (xF_mo0).1 (xF_mo0).2.1 (by decide) rfl xw_246 xw_247 xw_248 xw_5 xw_249 hdV_yX7_layW ⟨Nat.le_of_ble_eq_true rfl, Nat.le_of_ble_eq_true rfl⟩ rfl (Nat.le_of_ble_eq_true rfl) ⟨Nat.le_refl _, Nat.le_refl _⟩ dX7_tryWalker_62 (fun H locs hW => ?_)
        have hW : XR X G 12 (xMa (if k = 0 then f else MkF pf pm f) sg L O (va_up Y nw (va_up (va_up (Y nw) 0 x) 1 y)) (if k = 0 then pb else MkB pf pm (xat sg L O Y) pb) pc pd pe pg ph pp pq pt pu) H locs := hW
        refine lv_aload_n hx hb dX7_tryWalker_65 rfl (lv_at hl 0 rfl) ?_
        refine lv_aload_n hx hb dX7_tryWalker_66 rfl (lv_at hl 0 rfl) ?_
        refine r_getr (C := RX7) (T := TX7) hx hb hts hown hK hW (xF_mo0).1 (xF_mo0).2.1 inlX7 rfl (by decide) 0 (by decide) (show xro (xkey 12 0 0) 0 = some (xkey 12 1 0) from by decide +kernel) xw_79 rfl dX7_tryWalker_67 ?_
        refine lv_bipush (v := 9) hx hb dX7_tryWalker_70 (by decide) ?_
        refine r_iald hx hb hK hW (N := 440) (xF_mo1) 9 (by decide) (by decide) (by decide) (xr_model 1 (by decide) (by decide) 9) (x := nI nw) ((xat_s (sg := sg) (L := L) (O := O) (Y := (va_up Y nw (va_up (va_up (Y nw) 0 x) 1 y))) (k := 9) (by omega)).trans hw) dX7_tryWalker_72 ?_
        refine lv_iconst (v := 4) hx hb dX7_tryWalker_73 (by decide) ?_
        refine lv_bipush (v := (-6)) hx hb dX7_tryWalker_74 (by decide) ?_
        refine x_callV hx hb hml hown hts hK hW hl.1 (c_X7_layW l X G (i := nw) (w := 4) (v := (-6)) (hi := hlt9) (hw := (by decide)) ) (xF_mo0).1 (xF_mo0).2.1 (by decide) rfl xw_246 xw_247 xw_248 xw_5 xw_249 hdV_yX7_layW ⟨Nat.le_of_ble_eq_true rfl, Nat.le_of_ble_eq_true rfl⟩ rfl (Nat.le_of_ble_eq_true rfl) ⟨Nat.le_refl _, Nat.le_refl _⟩ dX7_tryWalker_76 (fun H locs hW => ?_)
        have hW : XR X G 12 (xMa (if k = 0 then f else MkF pf pm f) sg L O (va_up Y nw (va_up (va_up (va_up (Y nw) 0 x) 1 y) 4 (-6))) (if k = 0 then pb else MkB pf pm (xat sg L O Y) pb) pc pd pe pg ph pp pq pt pu) H locs := hW
        refine lv_aload_n hx hb dX7_tryWalker_79 rfl (lv_at hl 0 rfl) ?_
        refine r_getr (C := RX7) (T := TX7) hx hb hts hown hK hW (xF_mo0).1 (xF_mo0).2.1 inlX7 rfl (by decide) 0 (by decide) (show xro (xkey 12 0 0) 0 = some (xkey 12 1 0) from by decide +kernel) xw_79 rfl dX7_tryWalker_80 ?_
        refine lv_bipush (v := 9) hx hb dX7_tryWalker_83 (by decide) ?_
        refine lv_dup2_11 hx hb dX7_tryWalker_85 rfl rfl ?_
        refine r_iald hx hb hK hW (N := 440) (xF_mo1) 9 (by decide) (by decide) (by decide) (xr_model 1 (by decide) (by decide) 9) (x := nI nw) ((xat_s (sg := sg) (L := L) (O := O) (Y := (va_up Y nw (va_up (va_up (va_up (Y nw) 0 x) 1 y) 4 (-6)))) (k := 9) (by omega)).trans hw) dX7_tryWalker_86 ?_
        refine lv_iconst (v := nI 1) hx hb dX7_tryWalker_87 (by decide) ?_
        refine lv_iadd hx hb dX7_tryWalker_88 ?_
        refine lv_eqi (y := nI (nw + 1)) (nI_add nw 1) ?_
        refine r_iast hx hb hK hW (N := 440) (xF_mo1) 9 (by decide) (by decide) (by decide) (xr_model 1 (by decide) (by decide) 9) (xMa1 (w := 9) (by omega)) dX7_tryWalker_89 (fun H locs hW => ?_)
        refine lv_aload_n hx hb dX7_tryWalker_90 rfl (lv_at hl 0 rfl) ?_
        refine r_getr (C := RX7) (T := TX7) hx hb hts hown hK hW (xF_mo0).1 (xF_mo0).2.1 inlX7 rfl (by decide) 0 (by decide) (show xro (xkey 12 0 0) 0 = some (xkey 12 1 0) from by decide +kernel) xw_79 rfl dX7_tryWalker_91 ?_
        refine lv_bipush (v := 9) hx hb dX7_tryWalker_94 (by decide) ?_
        refine r_iald hx hb hK hW (N := 440) (xF_mo1) 9 (by decide) (by decide) (by decide) (xr_model 1 (by decide) (by decide) 9) (x := nI (nw + 1)) (xat_s (sg := (va_up sg 9 (nI (nw + 1)))) (L := L) (O := O) (Y := (va_up Y nw (va_up (va_up (va_up (Y nw) 0 x) 1 y) 4 (-6)))) (k := 9) (by omega)) dX7_tryWalker_96 ?_
        refine lv_iconst (v := 1) hx hb dX7_tryWalker_97 (by decide) ?_
        refine lv_isub hx hb dX7_tryWalker_98 ?_
        obtain rfl : (if k = 0 then f else MkF pf pm f) = f' := by (rw [← ho0]) <;> (simp [Mwk, c_1, c_2, c_3])
        obtain rfl : (if k = 0 then pb else MkB pf pm (xat sg L O Y) pb) = pb' := by (rw [← ho1]) <;> (simp [Mwk, c_1, c_2, c_3])
        obtain rfl : (va_up sg 9 (nI (nw + 1))) = sg' := by (rw [← ho2]) <;> (simp [Mwk, c_1, c_2, c_3])
        obtain rfl : (va_up Y nw (va_up (va_up (va_up (Y nw) 0 x) 1 y) 4 (-6))) = Y' := by (rw [← ho3]) <;> (simp [Mwk, c_1, c_2, c_3])
        obtain rfl : (nI (nw + 1)) - 1 = res := by (rw [← hres]) <;> (simp [Mwk, c_1, c_2, c_3])
        rw [hQ0]
        exact x_iret hx hb hret hlocks rfl hW rfl dX7_tryWalker_99
      · skip
        refine lv_bipush (v := (-4)) hx hb dX7_tryWalker_31 (by decide) ?_
        obtain rfl : f = f' := by (rw [← ho0]) <;> (simp [Mwk, c_1, c_2, c_3])
        obtain rfl : pb = pb' := by (rw [← ho1]) <;> (simp [Mwk, c_1, c_2, c_3])
        obtain rfl : sg = sg' := by (rw [← ho2]) <;> (simp [Mwk, c_1, c_2, c_3])
        obtain rfl : Y = Y' := by (rw [← ho3]) <;> (simp [Mwk, c_1, c_2, c_3])
        obtain rfl : (-4) = res := by (rw [← hres]) <;> (simp [Mwk, c_1, c_2, c_3])
        rw [hQ0]
        exact x_iret hx hb hret hlocks rfl hW rfl dX7_tryWalker_33
    · skip
      refine lv_bipush (v := (-2)) hx hb dX7_tryWalker_16 (by decide) ?_
      obtain rfl : f = f' := by (rw [← ho0]) <;> (simp [Mwk, c_1, c_2])
      obtain rfl : pb = pb' := by (rw [← ho1]) <;> (simp [Mwk, c_1, c_2])
      obtain rfl : sg = sg' := by (rw [← ho2]) <;> (simp [Mwk, c_1, c_2])
      obtain rfl : Y = Y' := by (rw [← ho3]) <;> (simp [Mwk, c_1, c_2])
      obtain rfl : (-2) = res := by (rw [← hres]) <;> (simp [Mwk, c_1, c_2])
      rw [hQ0]
      exact x_iret hx hb hret hlocks rfl hW rfl dX7_tryWalker_18
set_option maxHeartbeats 4000000 in
set_option maxRecDepth 100000 in
theorem c_X7_walker (l : Launch) (X : xX) (G : xG) {f sg pb pc pd pe pg ph pp pq pt pu : Nat → Int32} {L O Y : Nat → Nat → Int32} {nw pf pm : Nat} {x y : Int32} (hw : sg 9 = nI nw) (hw8 : nw ≤ 8) (hpf : f 2 = nI pf) (hpf6 : pf < 6) (hpm : f 3 = nI pm) (hpm6 : pm ≤ 6) {f' : Nat → Int32} (ho0 : (Mwk x y nw f f (MkF pf pm f)) = f') {pb' : Nat → Int32} (ho1 : (Mwk x y nw pb pb (MkB pf pm (xat sg L O Y) pb)) = pb') {sg' : Nat → Int32} (ho2 : (Mwk x y nw sg sg (va_up sg 9 (nI (nw + 1)))) = sg') {Y' : Nat → Nat → Int32} (ho3 : (Mwk x y nw Y Y (va_up Y nw (va_up (va_up (va_up (Y nw) 0 x) 1 y) 4 (-6)))) = Y') {res : Int32} (hres : (Mwk x y nw (-2) (-4) (nI (nw + 1) - 1)) = res) : XC l yX7_walker cX7_walker 3 (some .int) 3 66 0 0 X xsh [.ref (xB X + xkey 12 0 0), .int x, .int y] 603 603 (xval (xB X) (va_up G 12 (xMa f sg L O Y pb pc pd pe pg ph pp pq pt pu))) (xval (xB X) (va_up G 12 (xMa f' sg' L O Y' pb' pc pd pe pg ph pp pq pt pu))) (some (.int res)) := by
  refine XC.of RX7 "walker" [(0, .ref (xB X + xkey 12 0 0)), (1, .int x), (2, .int y)] (by decide) rfl rfl (Nat.le_of_ble_eq_true rfl) rfl ?_
  intro p e s m args below meth c ls hx hb hret hml hts hown hlocks hnm hK hW hl
  have hW : XR X G 12 (xMa f sg L O Y pb pc pd pe pg ph pp pq pt pu) s.heap [] := hW
  obtain ⟨Q0, hQ0⟩ : ∃ z, z = MQ below (xQ X xsh 603 (xval (xB X) (va_up G 12 (xMa f' sg' L O Y' pb' pc pd pe pg ph pp pq pt pu))) (some (.int res))) args s 0 0 (fun q => xB X ≤ q) := ⟨_, rfl⟩
  rw [← hQ0]
  refine lv_aload_n hx hb dX7_walker_0 rfl (lv_at hl 0 rfl) ?_
  refine lv_iload_n hx hb dX7_walker_1 rfl (lv_at hl 1 rfl) ?_
  refine lv_iload_n hx hb dX7_walker_2 rfl (lv_at hl 2 rfl) ?_
  refine lv_iconst (v := 1) hx hb dX7_walker_3 (by decide) ?_
  refine x_callV hx hb hml hown hts hK hW hl.1 (c_X7_tryWalker l X G (nw := nw) (pf := pf) (pm := pm) (x := x) (y := y) (k := 1) (hw := (by assumption)) (hw8 := (by assumption)) (hpf := (by assumption)) (hpf6 := (by omega)) (hpm := (by assumption)) (hpm6 := (by assumption)) (ho0 := rfl) (ho1 := rfl) (ho2 := rfl) (ho3 := rfl) (hres := rfl)) (xF_mo0).1 (xF_mo0).2.1 (by decide) rfl xw_238 xw_239 xw_240 xw_5 xw_241 hdV_yX7_tryWalker ⟨Nat.le_of_ble_eq_true rfl, Nat.le_of_ble_eq_true rfl⟩ rfl (Nat.le_of_ble_eq_true rfl) ⟨Nat.le_refl _, Nat.le_refl _⟩ dX7_walker_4 (fun H locs hW => ?_)
  have hW : XR X G 12 (xMa (Mwk x y nw f f (if 1 = 0 then f else MkF pf pm f)) (Mwk x y nw sg sg (va_up sg 9 (nI (nw + 1)))) L O (Mwk x y nw Y Y (va_up Y nw (va_up (va_up (va_up (Y nw) 0 x) 1 y) 4 (-6)))) (Mwk x y nw pb pb (if 1 = 0 then pb else MkB pf pm (xat sg L O Y) pb)) pc pd pe pg ph pp pq pt pu) H locs := hW
  obtain rfl : (Mwk x y nw f f (if 1 = 0 then f else MkF pf pm f)) = f' := by (rw [← ho0]) <;> (rfl)
  obtain rfl : (Mwk x y nw pb pb (if 1 = 0 then pb else MkB pf pm (xat sg L O Y) pb)) = pb' := by (rw [← ho1]) <;> (rfl)
  obtain rfl : (Mwk x y nw sg sg (va_up sg 9 (nI (nw + 1)))) = sg' := by (rw [← ho2]) <;> (rfl)
  obtain rfl : (Mwk x y nw Y Y (va_up Y nw (va_up (va_up (va_up (Y nw) 0 x) 1 y) 4 (-6)))) = Y' := by (rw [← ho3]) <;> (rfl)
  obtain rfl : Mwk x y nw (-2) (-4) (nI (nw + 1) - 1) = res := by (rw [← hres]) <;> (rfl)
  rw [hQ0]
  exact x_iret hx hb hret hlocks rfl hW rfl dX7_walker_7
set_option maxHeartbeats 4000000 in
set_option maxRecDepth 100000 in
theorem c_X7_tryGoal (l : Launch) (X : xX) (G : xG) {f sg pb pc pd pe pg ph pp pq pt pu : Nat → Int32} {L O Y : Nat → Nat → Int32} {nw pf pm : Nat} {x a b k : Int32} (hw : sg 9 = nI nw) (hw8 : nw ≤ 8) (hY : ∀ j, j < 8 → MW (Y j)) (hpf : f 2 = nI pf) (hpf6 : pf < 6) (hpm : f 3 = nI pm) (hpm6 : pm ≤ 6) {f' : Nat → Int32} (ho0 : (Mgl (sg 9) x a b (Y x.toNatClampNeg 3).toNatClampNeg (Y x.toNatClampNeg) f f f f (if k = 0 then f else MkF pf pm f)) = f') {pb' : Nat → Int32} (ho1 : (Mgl (sg 9) x a b (Y x.toNatClampNeg 3).toNatClampNeg (Y x.toNatClampNeg) pb pb pb pb (if k = 0 then pb else MkB pf pm (xat sg L O Y) pb)) = pb') {Y' : Nat → Nat → Int32} (ho2 : (Mgl (sg 9) x a b (Y x.toNatClampNeg 3).toNatClampNeg (Y x.toNatClampNeg) Y Y Y Y (va_up Y x.toNatClampNeg (Maddg a b (Y x.toNatClampNeg 3).toNatClampNeg (Y x.toNatClampNeg)))) = Y') {res : Int32} (hres : (Mgl (sg 9) x a b (Y x.toNatClampNeg 3).toNatClampNeg (Y x.toNatClampNeg) (-1) (-2) (-4) (-5) (nI ((Y x.toNatClampNeg 3).toNatClampNeg + 1))) = res) : XC l yX7_tryGoal cX7_tryGoal 5 (some .int) 2 43 0 0 X xsh [.ref (xB X + xkey 12 0 0), .int x, .int a, .int b, .int k] 603 603 (xval (xB X) (va_up G 12 (xMa f sg L O Y pb pc pd pe pg ph pp pq pt pu))) (xval (xB X) (va_up G 12 (xMa f' sg L O Y' pb' pc pd pe pg ph pp pq pt pu))) (some (.int res)) := by
  refine XC.of RX7 "tryGoal" [(0, .ref (xB X + xkey 12 0 0)), (1, .int x), (2, .int a), (3, .int b), (4, .int k)] (by decide) rfl rfl (Nat.le_of_ble_eq_true rfl) rfl ?_
  intro p e s m args below meth c ls hx hb hret hml hts hown hlocks hnm hK hW hl
  have hW : XR X G 12 (xMa f sg L O Y pb pc pd pe pg ph pp pq pt pu) s.heap [] := hW
  obtain ⟨Q0, hQ0⟩ : ∃ z, z = MQ below (xQ X xsh 603 (xval (xB X) (va_up G 12 (xMa f' sg L O Y' pb' pc pd pe pg ph pp pq pt pu))) (some (.int res))) args s 0 0 (fun q => xB X ≤ q) := ⟨_, rfl⟩
  rw [← hQ0]
  refine lv_aload_n hx hb dX7_tryGoal_0 rfl (lv_at hl 0 rfl) ?_
  refine lv_iload_n hx hb dX7_tryGoal_1 rfl (lv_at hl 1 rfl) ?_
  refine x_callV hx hb hml hown hts hK hW hl.1 (c_X7_isWalker l X G (x := x)  (hres := rfl)) (xF_mo0).1 (xF_mo0).2.1 (by decide) rfl xw_274 xw_275 xw_276 xw_5 xw_277 hdV_yX7_isWalker ⟨Nat.le_of_ble_eq_true rfl, Nat.le_of_ble_eq_true rfl⟩ rfl (Nat.le_of_ble_eq_true rfl) ⟨Nat.le_refl _, Nat.le_refl _⟩ dX7_tryGoal_2 (fun H locs hW => ?_)
  refine lv_if_ne (tgt := 10) hx hb dX7_tryGoal_5 (by decide) (fun c_1 => ?_) (fun c_1 => ?_)
  · skip
    have hx9 := xin hw (by omega) c_1
    have hx8 : x.toNatClampNeg < nw := hx9.1
    refine lv_iload_n hx hb dX7_tryGoal_10 rfl (lv_at hl 2 rfl) ?_
    refine x_callS hx hb hml hown hts hK hW hl.1 (c_X7_isStep l X _ (a := a) (hres := rfl)) xw_191 xw_192 xw_5 xw_193 hdS_yX7_isStep ⟨Nat.le_of_ble_eq_true rfl, Nat.le_of_ble_eq_true rfl⟩ rfl (Nat.le_of_ble_eq_true rfl) ⟨Nat.le_refl _, Nat.le_refl _⟩ dX7_tryGoal_11 (fun H locs hW => ?_)
    refine lv_if_eq (tgt := 27) hx hb dX7_tryGoal_14 (by decide) (fun c_2 => ?_) (fun c_2 => ?_)
    · skip
      refine lv_bipush (v := (-2)) hx hb dX7_tryGoal_27 (by decide) ?_
      obtain rfl : f = f' := by (rw [← ho0]) <;> (simp [Mgl, Maddg, c_1, c_2])
      obtain rfl : pb = pb' := by (rw [← ho1]) <;> (simp [Mgl, Maddg, c_1, c_2])
      obtain rfl : Y = Y' := by (rw [← ho2]) <;> (simp [Mgl, Maddg, c_1, c_2])
      obtain rfl : (-2) = res := by (rw [← hres]) <;> (simp [Mgl, Maddg, c_1, c_2])
      rw [hQ0]
      exact x_iret hx hb hret hlocks rfl hW rfl dX7_tryGoal_29
    · skip
      refine lv_iload_n hx hb dX7_tryGoal_17 rfl (lv_at hl 3 rfl) ?_
      refine lv_iconst (v := 0) hx hb dX7_tryGoal_18 (by decide) ?_
      refine lv_bipush (v := 20) hx hb dX7_tryGoal_19 (by decide) ?_
      refine x_callS hx hb hml hown hts hK hW hl.1 (c_X7_in l X _ (v := b) (lo := 0) (hi := 20) (hres := rfl)) xw_159 xw_160 xw_5 xw_161 hdS_yX7_in ⟨Nat.le_of_ble_eq_true rfl, Nat.le_of_ble_eq_true rfl⟩ rfl (Nat.le_of_ble_eq_true rfl) ⟨Nat.le_refl _, Nat.le_refl _⟩ dX7_tryGoal_21 (fun H locs hW => ?_)
      refine lv_if_ne (tgt := 30) hx hb dX7_tryGoal_24 (by decide) (fun c_3 => ?_) (fun c_3 => ?_)
      · skip
        refine lv_aload_n hx hb dX7_tryGoal_30 rfl (lv_at hl 0 rfl) ?_
        refine lv_iload_n hx hb dX7_tryGoal_31 rfl (lv_at hl 1 rfl) ?_
        refine lv_eqi (y := nI x.toNatClampNeg) hx9.2 ?_
        refine lv_iconst (v := 3) hx hb dX7_tryGoal_32 (by decide) ?_
        refine x_callV hx hb hml hown hts hK hW hl.1 (c_X7_ofW l X G (i := x.toNatClampNeg) (w := 3) (hi := (by omega)) (hw := (by decide)) (hres := rfl)) (xF_mo0).1 (xF_mo0).2.1 (by decide) rfl xw_278 xw_279 xw_280 xw_5 xw_281 hdV_yX7_ofW ⟨Nat.le_of_ble_eq_true rfl, Nat.le_of_ble_eq_true rfl⟩ rfl (Nat.le_of_ble_eq_true rfl) ⟨Nat.le_refl _, Nat.le_refl _⟩ dX7_tryGoal_33 (fun H locs hW => ?_)
        refine lv_eqi (y := nI (Y x.toNatClampNeg 3).toNatClampNeg) (hY _ (by omega)).1 ?_
        refine lv_bipush (v := 6) hx hb dX7_tryGoal_36 (by decide) ?_
        refine lv_icmp_ne (tgt := 44) hx hb dX7_tryGoal_38 (by decide) (fun c_4 => ?_) (fun c_4 => ?_)
        · skip
          have hg5 : (Y x.toNatClampNeg 3).toNatClampNeg < 6 := Nat.lt_of_le_of_ne (hY _ (by omega)).2 (xnIne 6 rfl c_4)
          refine lv_aload_n hx hb dX7_tryGoal_44 rfl (lv_at hl 0 rfl) ?_
          refine lv_iload_n hx hb dX7_tryGoal_45 rfl (lv_at hl 1 rfl) ?_
          refine lv_eqi (y := nI x.toNatClampNeg) hx9.2 ?_
          refine x_callV hx hb hml hown hts hK hW hl.1 (c_X7_isInStreet l X G (i := x.toNatClampNeg) (hi := (by omega)) (hres := rfl)) (xF_mo0).1 (xF_mo0).2.1 (by decide) rfl xw_282 xw_283 xw_284 xw_5 xw_285 hdV_yX7_isInStreet ⟨Nat.le_of_ble_eq_true rfl, Nat.le_of_ble_eq_true rfl⟩ rfl (Nat.le_of_ble_eq_true rfl) ⟨Nat.le_refl _, Nat.le_refl _⟩ dX7_tryGoal_46 (fun H locs hW => ?_)
          refine lv_if_ne (tgt := 55) hx hb dX7_tryGoal_49 (by decide) (fun c_5 => ?_) (fun c_5 => ?_)
          · skip
            refine lv_aload_n hx hb dX7_tryGoal_55 rfl (lv_at hl 0 rfl) ?_
            refine lv_iload hx hb dX7_tryGoal_56 (lv_at hl 4 rfl) ?_
            refine x_callV hx hb hml hown hts hK hW hl.1 (c_X7_keepIf l X G (pf := pf) (pm := pm) (k := k) (hpf := (by assumption)) (hpf6 := (by omega)) (hpm := (by assumption)) (hpm6 := (by assumption)) (ho0 := rfl) (ho1 := rfl)) (xF_mo0).1 (xF_mo0).2.1 (by decide) rfl xw_242 xw_243 xw_244 xw_5 xw_245 hdV_yX7_keepIf ⟨Nat.le_of_ble_eq_true rfl, Nat.le_of_ble_eq_true rfl⟩ rfl (Nat.le_of_ble_eq_true rfl) ⟨Nat.le_refl _, Nat.le_refl _⟩ dX7_tryGoal_58 (fun H locs hW => ?_)
            have hW : XR X G 12 (xMa (if k = 0 then f else MkF pf pm f) sg L O Y (if k = 0 then pb else MkB pf pm (xat sg L O Y) pb) pc pd pe pg ph pp pq pt pu) H locs := hW
            refine lv_aload_n hx hb dX7_tryGoal_61 rfl (lv_at hl 0 rfl) ?_
            refine lv_iload_n hx hb dX7_tryGoal_62 rfl (lv_at hl 1 rfl) ?_
            refine lv_eqi (y := nI x.toNatClampNeg) hx9.2 ?_
            refine lv_bipush (v := nI 8) hx hb dX7_tryGoal_63 (by decide) ?_
            refine lv_iconst (v := nI 2) hx hb dX7_tryGoal_65 (by decide) ?_
            refine lv_aload_n hx hb dX7_tryGoal_66 rfl (lv_at hl 0 rfl) ?_
            refine lv_iload_n hx hb dX7_tryGoal_67 rfl (lv_at hl 1 rfl) ?_
            refine lv_eqi (y := nI x.toNatClampNeg) hx9.2 ?_
            refine lv_iconst (v := 3) hx hb dX7_tryGoal_68 (by decide) ?_
            refine x_callV hx hb hml hown hts hK hW hl.1 (c_X7_ofW l X G (i := x.toNatClampNeg) (w := 3) (hi := (by omega)) (hw := (by decide)) (hres := rfl)) (xF_mo0).1 (xF_mo0).2.1 (by decide) rfl xw_278 xw_279 xw_280 xw_5 xw_281 hdV_yX7_ofW ⟨Nat.le_of_ble_eq_true rfl, Nat.le_of_ble_eq_true rfl⟩ rfl (Nat.le_of_ble_eq_true rfl) ⟨Nat.le_refl _, Nat.le_refl _⟩ dX7_tryGoal_69 (fun H locs hW => ?_)
            refine lv_eqi (y := nI (Y x.toNatClampNeg 3).toNatClampNeg) (hY _ (by omega)).1 ?_
            refine lv_imul hx hb dX7_tryGoal_72 ?_
            refine lv_eqi (y := nI (2 * ((Y x.toNatClampNeg 3).toNatClampNeg))) (xnI_mul 2 ((Y x.toNatClampNeg 3).toNatClampNeg)) ?_
            refine lv_iadd hx hb dX7_tryGoal_73 ?_
            refine lv_eqi (y := nI (8 + 2 * ((Y x.toNatClampNeg 3).toNatClampNeg))) (nI_add 8 (2 * ((Y x.toNatClampNeg 3).toNatClampNeg))) ?_
            refine lv_iload_n hx hb dX7_tryGoal_74 rfl (lv_at hl 2 rfl) ?_
            have hW := XR.mfoc4 hW x.toNatClampNeg
            refine x_callV hx hb hml hown hts hK hW hl.1 (c_X7_layW l X G (i := x.toNatClampNeg) (w := 8 + 2 * ((Y x.toNatClampNeg 3).toNatClampNeg)) (v := a) (hi := (by omega)) (hw := (by omega)) ) (xF_mo0).1 (xF_mo0).2.1 (by decide) rfl xw_246 xw_247 xw_248 xw_5 xw_249 hdV_yX7_layW ⟨Nat.le_of_ble_eq_true rfl, Nat.le_of_ble_eq_true rfl⟩ rfl (Nat.le_of_ble_eq_true rfl) ⟨Nat.le_refl _, Nat.le_refl _⟩ dX7_tryGoal_75 (fun H locs hW => ?_)
            have hW : XR X G 12 (xMa (if k = 0 then f else MkF pf pm f) sg L O (va_up Y x.toNatClampNeg (va_up (Y x.toNatClampNeg) (8 + 2 * ((Y x.toNatClampNeg 3).toNatClampNeg)) a)) (if k = 0 then pb else MkB pf pm (xat sg L O Y) pb) pc pd pe pg ph pp pq pt pu) H locs := hW
            refine lv_aload_n hx hb dX7_tryGoal_78 rfl (lv_at hl 0 rfl) ?_
            refine lv_iload_n hx hb dX7_tryGoal_79 rfl (lv_at hl 1 rfl) ?_
            refine lv_eqi (y := nI x.toNatClampNeg) hx9.2 ?_
            refine lv_bipush (v := nI 8) hx hb dX7_tryGoal_80 (by decide) ?_
            refine lv_iconst (v := nI 2) hx hb dX7_tryGoal_82 (by decide) ?_
            refine lv_aload_n hx hb dX7_tryGoal_83 rfl (lv_at hl 0 rfl) ?_
            refine lv_iload_n hx hb dX7_tryGoal_84 rfl (lv_at hl 1 rfl) ?_
            refine lv_eqi (y := nI x.toNatClampNeg) hx9.2 ?_
            refine lv_iconst (v := 3) hx hb dX7_tryGoal_85 (by decide) ?_
            refine x_callV hx hb hml hown hts hK hW hl.1 (c_X7_ofW l X G (i := x.toNatClampNeg) (w := 3) (hi := (by omega)) (hw := (by decide)) (hres := rfl)) (xF_mo0).1 (xF_mo0).2.1 (by decide) rfl xw_278 xw_279 xw_280 xw_5 xw_281 hdV_yX7_ofW ⟨Nat.le_of_ble_eq_true rfl, Nat.le_of_ble_eq_true rfl⟩ rfl (Nat.le_of_ble_eq_true rfl) ⟨Nat.le_refl _, Nat.le_refl _⟩ dX7_tryGoal_86 (fun H locs hW => ?_)
            refine lv_eqi (y := (va_up (Y x.toNatClampNeg) (8 + 2 * ((Y x.toNatClampNeg 3).toNatClampNeg)) a) 3) (xrd rfl) ?_
            refine lv_eqi (y := nI (Y x.toNatClampNeg 3).toNatClampNeg) (by rw [va_up_ne _ _ (by omega)]; exact (hY _ (by omega)).1) ?_
            refine lv_imul hx hb dX7_tryGoal_89 ?_
            refine lv_eqi (y := nI (2 * ((Y x.toNatClampNeg 3).toNatClampNeg))) (xnI_mul 2 ((Y x.toNatClampNeg 3).toNatClampNeg)) ?_
            refine lv_iadd hx hb dX7_tryGoal_90 ?_
            refine lv_eqi (y := nI (8 + 2 * ((Y x.toNatClampNeg 3).toNatClampNeg))) (nI_add 8 (2 * ((Y x.toNatClampNeg 3).toNatClampNeg))) ?_
            refine lv_iconst (v := nI 1) hx hb dX7_tryGoal_91 (by decide) ?_
            refine lv_iadd hx hb dX7_tryGoal_92 ?_
            refine lv_eqi (y := nI (8 + 2 * ((Y x.toNatClampNeg 3).toNatClampNeg) + 1)) (nI_add (8 + 2 * ((Y x.toNatClampNeg 3).toNatClampNeg)) 1) ?_
            refine lv_iload_n hx hb dX7_tryGoal_93 rfl (lv_at hl 3 rfl) ?_
            refine x_callV hx hb hml hown hts hK hW hl.1 (c_X7_layW l X G (i := x.toNatClampNeg) (w := 8 + 2 * ((Y x.toNatClampNeg 3).toNatClampNeg) + 1) (v := b) (hi := (by omega)) (hw := (by omega)) ) (xF_mo0).1 (xF_mo0).2.1 (by decide) rfl xw_246 xw_247 xw_248 xw_5 xw_249 hdV_yX7_layW ⟨Nat.le_of_ble_eq_true rfl, Nat.le_of_ble_eq_true rfl⟩ rfl (Nat.le_of_ble_eq_true rfl) ⟨Nat.le_refl _, Nat.le_refl _⟩ dX7_tryGoal_94 (fun H locs hW => ?_)
            have hW : XR X G 12 (xMa (if k = 0 then f else MkF pf pm f) sg L O (va_up Y x.toNatClampNeg (va_up (va_up (Y x.toNatClampNeg) (8 + 2 * ((Y x.toNatClampNeg 3).toNatClampNeg)) a) (8 + 2 * ((Y x.toNatClampNeg 3).toNatClampNeg) + 1) b)) (if k = 0 then pb else MkB pf pm (xat sg L O Y) pb) pc pd pe pg ph pp pq pt pu) H locs := hW
            refine lv_aload_n hx hb dX7_tryGoal_97 rfl (lv_at hl 0 rfl) ?_
            refine lv_iload_n hx hb dX7_tryGoal_98 rfl (lv_at hl 1 rfl) ?_
            refine lv_eqi (y := nI x.toNatClampNeg) hx9.2 ?_
            refine lv_iconst (v := 3) hx hb dX7_tryGoal_99 (by decide) ?_
            refine lv_aload_n hx hb dX7_tryGoal_100 rfl (lv_at hl 0 rfl) ?_
            refine lv_iload_n hx hb dX7_tryGoal_101 rfl (lv_at hl 1 rfl) ?_
            refine lv_eqi (y := nI x.toNatClampNeg) hx9.2 ?_
            refine lv_iconst (v := 3) hx hb dX7_tryGoal_102 (by decide) ?_
            refine x_callV hx hb hml hown hts hK hW hl.1 (c_X7_ofW l X G (i := x.toNatClampNeg) (w := 3) (hi := (by omega)) (hw := (by decide)) (hres := rfl)) (xF_mo0).1 (xF_mo0).2.1 (by decide) rfl xw_278 xw_279 xw_280 xw_5 xw_281 hdV_yX7_ofW ⟨Nat.le_of_ble_eq_true rfl, Nat.le_of_ble_eq_true rfl⟩ rfl (Nat.le_of_ble_eq_true rfl) ⟨Nat.le_refl _, Nat.le_refl _⟩ dX7_tryGoal_103 (fun H locs hW => ?_)
            refine lv_eqi (y := (va_up (va_up (Y x.toNatClampNeg) (8 + 2 * ((Y x.toNatClampNeg 3).toNatClampNeg)) a) (8 + 2 * ((Y x.toNatClampNeg 3).toNatClampNeg) + 1) b) 3) (xrd rfl) ?_
            refine lv_eqi (y := nI (Y x.toNatClampNeg 3).toNatClampNeg) (by rw [va_up_ne _ _ (by omega), va_up_ne _ _ (by omega)]; exact (hY _ (by omega)).1) ?_
            refine lv_iconst (v := nI 1) hx hb dX7_tryGoal_106 (by decide) ?_
            refine lv_iadd hx hb dX7_tryGoal_107 ?_
            refine lv_eqi (y := nI ((Y x.toNatClampNeg 3).toNatClampNeg + 1)) (nI_add ((Y x.toNatClampNeg 3).toNatClampNeg) 1) ?_
            refine x_callV hx hb hml hown hts hK hW hl.1 (c_X7_layW l X G (i := x.toNatClampNeg) (w := 3) (v := nI ((Y x.toNatClampNeg 3).toNatClampNeg + 1)) (hi := (by omega)) (hw := (by decide)) ) (xF_mo0).1 (xF_mo0).2.1 (by decide) rfl xw_246 xw_247 xw_248 xw_5 xw_249 hdV_yX7_layW ⟨Nat.le_of_ble_eq_true rfl, Nat.le_of_ble_eq_true rfl⟩ rfl (Nat.le_of_ble_eq_true rfl) ⟨Nat.le_refl _, Nat.le_refl _⟩ dX7_tryGoal_108 (fun H locs hW => ?_)
            have hW : XR X G 12 (xMa (if k = 0 then f else MkF pf pm f) sg L O (va_up Y x.toNatClampNeg (va_up (va_up (va_up (Y x.toNatClampNeg) (8 + 2 * ((Y x.toNatClampNeg 3).toNatClampNeg)) a) (8 + 2 * ((Y x.toNatClampNeg 3).toNatClampNeg) + 1) b) 3 (nI ((Y x.toNatClampNeg 3).toNatClampNeg + 1)))) (if k = 0 then pb else MkB pf pm (xat sg L O Y) pb) pc pd pe pg ph pp pq pt pu) H locs := hW
            refine lv_aload_n hx hb dX7_tryGoal_111 rfl (lv_at hl 0 rfl) ?_
            refine lv_iload_n hx hb dX7_tryGoal_112 rfl (lv_at hl 1 rfl) ?_
            refine lv_eqi (y := nI x.toNatClampNeg) hx9.2 ?_
            refine lv_iconst (v := 3) hx hb dX7_tryGoal_113 (by decide) ?_
            refine x_callV hx hb hml hown hts hK hW hl.1 (c_X7_ofW l X G (i := x.toNatClampNeg) (w := 3) (hi := (by omega)) (hw := (by decide)) (hres := rfl)) (xF_mo0).1 (xF_mo0).2.1 (by decide) rfl xw_278 xw_279 xw_280 xw_5 xw_281 hdV_yX7_ofW ⟨Nat.le_of_ble_eq_true rfl, Nat.le_of_ble_eq_true rfl⟩ rfl (Nat.le_of_ble_eq_true rfl) ⟨Nat.le_refl _, Nat.le_refl _⟩ dX7_tryGoal_114 (fun H locs hW => ?_)
            refine lv_eqi (y := nI ((Y x.toNatClampNeg 3).toNatClampNeg + 1)) (xrd rfl) ?_
            obtain rfl : (if k = 0 then f else MkF pf pm f) = f' := by (rw [← ho0]) <;> (simp [Mgl, Maddg, c_1, c_2, c_3, c_4, c_5])
            obtain rfl : (if k = 0 then pb else MkB pf pm (xat sg L O Y) pb) = pb' := by (rw [← ho1]) <;> (simp [Mgl, Maddg, c_1, c_2, c_3, c_4, c_5])
            obtain rfl : (va_up Y x.toNatClampNeg (va_up (va_up (va_up (Y x.toNatClampNeg) (8 + 2 * ((Y x.toNatClampNeg 3).toNatClampNeg)) a) (8 + 2 * ((Y x.toNatClampNeg 3).toNatClampNeg) + 1) b) 3 (nI ((Y x.toNatClampNeg 3).toNatClampNeg + 1)))) = Y' := by (rw [← ho2]) <;> (simp [Mgl, Maddg, c_1, c_2, c_3, c_4, c_5])
            obtain rfl : nI ((Y x.toNatClampNeg 3).toNatClampNeg + 1) = res := by (rw [← hres]) <;> (simp [Mgl, Maddg, c_1, c_2, c_3, c_4, c_5])
            rw [hQ0]
            exact x_iret hx hb hret hlocks rfl hW rfl dX7_tryGoal_117
          · skip
            refine lv_bipush (v := (-5)) hx hb dX7_tryGoal_52 (by decide) ?_
            obtain rfl : f = f' := by (rw [← ho0]) <;> (simp [Mgl, Maddg, c_1, c_2, c_3, c_4, c_5])
            obtain rfl : pb = pb' := by (rw [← ho1]) <;> (simp [Mgl, Maddg, c_1, c_2, c_3, c_4, c_5])
            obtain rfl : Y = Y' := by (rw [← ho2]) <;> (simp [Mgl, Maddg, c_1, c_2, c_3, c_4, c_5])
            obtain rfl : (-5) = res := by (rw [← hres]) <;> (simp [Mgl, Maddg, c_1, c_2, c_3, c_4, c_5])
            rw [hQ0]
            exact x_iret hx hb hret hlocks rfl hW rfl dX7_tryGoal_54
        · skip
          refine lv_bipush (v := (-4)) hx hb dX7_tryGoal_41 (by decide) ?_
          obtain rfl : f = f' := by (rw [← ho0]) <;> (simp [Mgl, Maddg, c_1, c_2, c_3, c_4])
          obtain rfl : pb = pb' := by (rw [← ho1]) <;> (simp [Mgl, Maddg, c_1, c_2, c_3, c_4])
          obtain rfl : Y = Y' := by (rw [← ho2]) <;> (simp [Mgl, Maddg, c_1, c_2, c_3, c_4])
          obtain rfl : (-4) = res := by (rw [← hres]) <;> (simp [Mgl, Maddg, c_1, c_2, c_3, c_4])
          rw [hQ0]
          exact x_iret hx hb hret hlocks rfl hW rfl dX7_tryGoal_43
      · skip
        refine lv_bipush (v := (-2)) hx hb dX7_tryGoal_27 (by decide) ?_
        obtain rfl : f = f' := by (rw [← ho0]) <;> (simp [Mgl, Maddg, c_1, c_2, c_3])
        obtain rfl : pb = pb' := by (rw [← ho1]) <;> (simp [Mgl, Maddg, c_1, c_2, c_3])
        obtain rfl : Y = Y' := by (rw [← ho2]) <;> (simp [Mgl, Maddg, c_1, c_2, c_3])
        obtain rfl : (-2) = res := by (rw [← hres]) <;> (simp [Mgl, Maddg, c_1, c_2, c_3])
        rw [hQ0]
        exact x_iret hx hb hret hlocks rfl hW rfl dX7_tryGoal_29
  · skip
    refine lv_iconst (v := (-1)) hx hb dX7_tryGoal_8 (by decide) ?_
    obtain rfl : f = f' := by (rw [← ho0]) <;> (simp [Mgl, Maddg, c_1])
    obtain rfl : pb = pb' := by (rw [← ho1]) <;> (simp [Mgl, Maddg, c_1])
    obtain rfl : Y = Y' := by (rw [← ho2]) <;> (simp [Mgl, Maddg, c_1])
    obtain rfl : (-1) = res := by (rw [← hres]) <;> (simp [Mgl, Maddg, c_1])
    rw [hQ0]
    exact x_iret hx hb hret hlocks rfl hW rfl dX7_tryGoal_9
