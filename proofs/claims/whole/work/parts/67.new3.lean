/-! ===== the constructors of the history, the class, the model ===== -/
/-- all numbers at the start: the settings' first values, 0 -/
def Gi : xG := fun r c i w => if c = 1 ∧ i = 0 ∧ r ≠ 11 ∧ w < 6 then xf0 w else 0
theorem xso_sh : ∀ r, r < 11 → ∀ j, j < 53 → xsh (xso r + j) = xssh j := by decide +kernel
theorem xso_ro : ∀ r, r < 11 → ∀ j, j < 53 → ∀ w, w < 16 → xro (xso r + j) w = xsro (xso r + j) j w := by decide +kernel
theorem xso_dec : ∀ r, r < 11 → ∀ j, j < 53 → xdec (xso r + j) = xsdec r j := by decide +kernel
theorem xssh_le : ∀ j, j < 53 → (xssh j).2 ≤ 16 := by decide +kernel
theorem xsdec_1 : ∀ r, r < 11 → ∀ j, j < 53 → ((xsdec r j).2.1 = 1 ∧ (xsdec r j).2.2 = 0 ↔ j = 1) ∧ (xsdec r j).1 = r := by decide +kernel
theorem WL_ro {B b t w : Nat} (ht : t < 53) (hw : w < (xssh t).2) : WL B b 16 8 8 t w = match xsro (b + t) t w with
    | some z => .ref (B + z)
    | none => .int (if t = 1 then xf0 w else 0) := by
  rcases (show t = 0 ∨ t = 1 ∨ t = 2 ∨ t = 3 ∨ t = 4 ∨ (5 ≤ t ∧ t < 29) ∨ 29 ≤ t by omega) with rfl | rfl | rfl | rfl | rfl | h | h
  · rw [WL0]
    show _ = match (if w < 4 then some (b + 0 + 1 + w) else none) with | some z => Value.ref (B + z) | none => .int 0
    by_cases c : w < 4
    · rw [if_pos c, if_pos c]
    · rw [if_neg c, if_neg c]
  · rw [WL1]; rfl
  · rw [WL2, if_pos (show w < 16 from hw)]
    show _ = Value.ref (B + (b + 2 + 3 + w))
    rw [show b + 2 + 3 + w = b + 5 + w by omega]
  · rw [WL3, if_pos (show w < 8 from hw)]
    show _ = Value.ref (B + (b + 3 + 18 + w))
    rw [show b + 3 + 18 + w = b + 21 + w by omega]
  · rw [WL4, if_pos (show w < 8 from hw)]
    show _ = Value.ref (B + (b + 4 + 25 + 3 * w))
    rw [show b + 4 + 25 + 3 * w = b + 29 + 3 * w by omega]
  · rw [WL5 h.1 h.2]
    have e : xsro (b + t) t w = none := by unfold xsro; rw [if_neg (by omega), if_neg (by omega), if_neg (by omega), if_neg (by omega), if_neg (by omega), if_pos h.2]
    rw [e, if_neg (by omega)]
  · by_cases c : (t - 29) % 3 = 0
    · obtain ⟨i, rfl⟩ : ∃ i, t = 29 + 3 * i := ⟨(t - 29) / 3, by omega⟩
      have e : xsro (b + (29 + 3 * i)) (29 + 3 * i) w = if w < 2 then some (b + (29 + 3 * i) + 1 + w) else none := by unfold xsro; rw [if_neg (by omega), if_neg (by omega), if_neg (by omega), if_neg (by omega), if_neg (by omega), if_neg (by omega), if_pos c]
      rw [WLa, e]
      by_cases d : w < 2
      · rw [if_pos d, if_pos d]
      · rw [if_neg d, if_neg d, if_neg (by omega)]
    · have e : xsro (b + t) t w = none := by unfold xsro; rw [if_neg (by omega), if_neg (by omega), if_neg (by omega), if_neg (by omega), if_neg (by omega), if_neg (by omega), if_neg c]
      rw [WLg h c, e, if_neg (by omega)]
/-- a new street is the start's -/
theorem WL_x {B r t w : Nat} (hr : r < 11) (ht : t < 53) (hw : w < (xssh t).2) : WL B (xso r) 16 8 8 t w = xval B Gi (xso r + t) w := by
  have h16 := xssh_le t ht
  have hd := xsdec_1 r hr t ht
  rw [WL_ro ht hw]
  unfold xval
  rw [xso_ro r hr t ht w (by omega), xso_dec r hr t ht]
  cases h : xsro (xso r + t) t w with
  | some z => rfl
  | none =>
    have e : Gi (xsdec r t).1 (xsdec r t).2.1 (xsdec r t).2.2 w = if t = 1 then xf0 w else 0 := by
      unfold Gi
      by_cases c : t = 1
      · have h1 := hd.1.mpr c
        subst c
        rw [if_pos ⟨h1.1, h1.2, by rw [hd.2]; omega, hw⟩, if_pos rfl]
      · rw [if_neg (fun q => c (hd.1.mp ⟨q.1, q.2.1⟩)), if_neg c]
    rw [← e]
theorem VL_x {B r a k w : Nat} {V : xV} (hr : r < 11) (hb : xso r = a) (h1 : a ≤ k) (h2 : k < a + 53) (hw : w < (xsh k).2) : VL B a V 16 8 8 k w = xval B Gi k w := by
  subst hb
  obtain ⟨t, rfl⟩ : ∃ t, k = xso r + t := ⟨k - xso r, by omega⟩
  rw [xso_sh r hr t (by omega)] at hw
  rw [VL_ge, WL_x hr (by omega) hw]
def VH (B : Nat) (V : xV) (a : Nat) : xV := fun k => if k < 109 then V k else if k = 109 then (fun w => if w = 0 then .ref (B + 110) else .int 0) else if k = 110 then (fun w => if w < a then .ref (B + (111 + 53 * w)) else .null) else xval B Gi k
theorem VH_0 {B : Nat} {V : xV} (hV : ∀ w, 1 ≤ w → w < 3 → V 109 w = .int 0) : ∀ k j, k < 111 → (k = 109 → j < 3) → xup2 (va_up V 110 (fun _ => .null)) 109 0 (.ref (B + 110)) k j = VH B V 0 k j := by
  intro k j hk hj
  unfold VH
  rcases (show k < 109 ∨ k = 109 ∨ k = 110 by omega) with h | rfl | rfl
  · rw [if_pos h, xup2_key (by omega), va_up_ne _ _ (by omega)]
  · rw [if_neg (by decide), if_pos rfl]
    by_cases c : j = 0
    · subst c; rw [xup2_at, if_pos rfl]
    · rw [xup2_slot c, va_up_ne _ _ (by decide), if_neg c]; exact hV j (by omega) (hj rfl)
  · rw [if_neg (by decide), if_neg (by decide), if_pos rfl, xup2_key (by decide), va_up_at, if_neg (Nat.not_lt_zero j)]
theorem VH_s {B i : Nat} {V : xV} {w0 : Nat → Value} (hi : i < 7) : ∀ k j, k < 111 + 53 * i + 53 → j < (xsh k).2 → xup2 (VL B (111 + 53 * i) (va_up (VH B V i) (111 + 53 * i) w0) 16 8 8) 110 i (.ref (B + (111 + 53 * i))) k j = VH B V (i + 1) k j := by
  intro k j hk hj
  by_cases c : k = 110
  · subst c
    have eH : ∀ a, VH B V a 110 = (fun w => if w < a then .ref (B + (111 + 53 * w)) else .null) := fun a => by unfold VH; rw [if_neg (by decide), if_neg (by decide), if_pos rfl]
    rw [eH]
    by_cases d : j = i
    · subst d
      rw [xup2_at]
      exact (if_pos (by omega)).symm
    · rw [xup2_slot d, VL_lt (by omega), va_up_ne _ _ (by omega), eH]
      dsimp only
      by_cases q : j < i
      · rw [if_pos q, if_pos (by omega)]
      · rw [if_neg q, if_neg (by omega)]
  · rw [xup2_key c]
    by_cases d : k < 111 + 53 * i
    · rw [VL_lt d, va_up_ne _ _ (by omega)]
      unfold VH
      rcases (show k < 109 ∨ k = 109 ∨ 110 < k by omega) with h | rfl | h
      · rw [if_pos h, if_pos h]
      · rfl
      · rw [if_neg (by omega), if_neg (by omega), if_neg (by omega), if_neg (by omega), if_neg (by omega), if_neg (by omega)]
    · rw [VL_x (r := 2 + i) (by omega) (by unfold xso; rw [if_neg (by omega), if_pos (by omega)]; omega) (by omega) hk hj]
      unfold VH
      rw [if_neg (by omega), if_neg (by omega), if_neg (by omega)]
theorem dv4 : ∀ w, 4 ≤ w → w < 8 → defaultValue (tyX4 w) = .int 0 := by
  intro w h h2
  rcases (show w = 4 ∨ w = 5 ∨ w = 6 ∨ w = 7 by omega) with rfl | rfl | rfl | rfl <;> rfl
theorem dv0 : ∀ w, 1 ≤ w → w < 3 → defaultValue (tyX0 w) = .int 0 := by
  intro w h h2
  rcases (show w = 1 ∨ w = 2 by omega) with rfl | rfl <;> rfl
theorem dv3 : ∀ w, 2 ≤ w → w < 6 → defaultValue (tyX3 w) = .int 0 := by
  intro w h h2
  rcases (show w = 2 ∨ w = 3 ∨ w = 4 ∨ w = 5 by omega) with rfl | rfl | rfl | rfl <;> rfl
theorem dv6 : ∀ w, w < 6 → defaultValue (tyX6 w) = .null := by
  intro w h
  rcases (show w = 0 ∨ w = 1 ∨ w = 2 ∨ w = 3 ∨ w = 4 ∨ w = 5 by omega) with rfl | rfl | rfl | rfl | rfl | rfl <;> rfl
theorem hd4 : yX4_init.cls ≠ "java/lang/invoke/MethodHandle" ∧ yX4_init.cls ≠ "java/lang/invoke/VarHandle" ∧ (parseMethodDescriptor yX4_init.desc).map (fun d => d.parameters.length) = some 0 := by decide +kernel
theorem hd0 : yX0_init.cls ≠ "java/lang/invoke/MethodHandle" ∧ yX0_init.cls ≠ "java/lang/invoke/VarHandle" ∧ (parseMethodDescriptor yX0_init.desc).map (fun d => d.parameters.length) = some 0 := by decide +kernel
theorem hd3 : yX3_init.cls ≠ "java/lang/invoke/MethodHandle" ∧ yX3_init.cls ≠ "java/lang/invoke/VarHandle" ∧ (parseMethodDescriptor yX3_init.desc).map (fun d => d.parameters.length) = some 0 := by decide +kernel
theorem sh109 : xsh 109 = (0, 3) ∧ xsh 110 = (11, 7) ∧ xsh 0 = (6, 6) ∧ xsh 107 = (11, 2) ∧ xsh 108 = (10, 2) ∧ xsh 482 = (3, 6) ∧ xsh 483 = (9, 80) ∧ xsh 484 = (8, 80) := by decide +kernel
theorem shS : ∀ i, i < 7 → ∀ j, j < 53 → xsh (111 + 53 * i + j) = xssh j := by decide +kernel
theorem shT : ∀ i, i < 2 → ∀ j, j < 53 → xsh (485 + 53 * i + j) = xssh j := by decide +kernel
theorem shN : ∀ j, j < 53 → xsh (1 + j) = xssh j ∧ xsh (54 + j) = xssh j := by decide +kernel
set_option maxHeartbeats 4000000 in
theorem n_X0 (l : Launch) (X : xX) {V : xV} (hV : ∀ w, 1 ≤ w → w < 3 → V 109 w = .int 0) : YC l yX0_init cX0_init 2 none 3 61 372 3073 X xsh [.ref (xB X + 109)] 110 482 V (VH (xB X) V 7) none := by
  refine YC.of RX0 "<init>" [(0, .ref (xB X + 109))] (by decide) rfl rfl (Nat.le_of_ble_eq_true rfl) rfl ?_
  intro p e s m args below meth c ls hx hb hret hml hts hown hlocks hnm hK hW hl
  obtain ⟨Q0, hQ0⟩ : ∃ z, z = MQ below (xQ X xsh 482 (VH (xB X) V 7) none) args s 372 3073 (fun q => xB X ≤ q) := ⟨_, rfl⟩
  rw [← hQ0]
  obtain ⟨h0, h1, -⟩ := sh109
  refine lv_aload_n hx hb dX0_init_0 rfl (lv_at hl 0 rfl) ?_
  refine y_obj hx hb hown hts xw_65 (hl.1.trans hml.symm) dX0_init_1 (Nat.le_of_ble_eq_true rfl) (Nat.le_of_ble_eq_true rfl) ?_
  refine lv_aload_n hx hb dX0_init_4 rfl (lv_at hl 0 rfl) ?_
  refine lv_bipush (v := nI 7) hx hb dX0_init_5 (by decide) ?_
  obtain ⟨kA_1, comp_1, -, -, -, nm_1⟩ := (hK.1.1.2 3 _ rfl).2
  refine y_newq hx hb hown (hts _ xw_66) hK.2.1 nm_1 hW h1 (by decide) rfl (by omega) (by omega) (Nat.le_of_ble_eq_true rfl) (Nat.le_of_ble_eq_true rfl) dX0_init_7 (fun H hW => ?_)
  refine y_putF (C := RX0) (T := TX0) hx hb hts inlX0 tyX0 tyX0_ok nmX0 hown hK.1 hW (show 109 < 110 + 1 by omega) h0 (by decide) rfl 0 (by decide) xw_67 rfl rfl hnm rfl rfl rfl dX0_init_10 (fun H locs hW => ?_)
  have hW : XH X xsh (111 + 53 * 0) (VH (xB X) V 0) H locs := hW.to (fun k hk j hj => VH_0 hV k j hk (fun e => by subst e; rw [h0] at hj; exact hj))
  refine lv_iconst (v := nI 0) hx hb dX0_init_13 (by decide) ?_
  refine lv_istore_n (lv' := [(1, .int (nI 0)), (0, .ref (xB X + 109))]) hx hb dX0_init_14 rfl hl (by decide) rfl (fun ls hl => ?_)
  have loop1 : ∀ (k i : Nat), i + k = 7 → ∀ (H : Heap) (locs : List Loc) (ls : Array Slot), XH X xsh (111 + 53 * i) (VH (xB X) V i) H locs → lv_has ls 2 [(1, .int (nI i)), (0, .ref (xB X + 109))] → W p l e { frames := 3, cells := 372, slots := 3073, locals := 61 } s m args below meth c H locs (1 + 53 * i) (7 + 438 * i) Q0 (F0 m 15 ls []) := by
    intro k
    induction k with
    | zero =>
      intro i hik H locs ls hW hl
      refine lv_iload_n hx hb dX0_init_15 rfl (lv_at hl 0 rfl) ?_
      refine lv_bipush (v := nI 7) hx hb dX0_init_16 (by decide) ?_
      refine lv_icmp_ge (tgt := 40) hx hb dX0_init_18 (by decide) (fun _ => ?_) (fun c => absurd (xge_refl (by omega)) c)
      obtain rfl : i = 7 := by omega
      rw [hQ0]
      exact x_vret hx hb hret hlocks hW rfl dX0_init_40
    | succ k ih =>
      intro i hik H locs ls hW hl
      have hsz : xsh (111 + 53 * i) = (4, 8) := shS i (by omega) 0 (by omega)
      refine lv_iload_n hx hb dX0_init_15 rfl (lv_at hl 0 rfl) ?_
      refine lv_bipush (v := nI 7) hx hb dX0_init_16 (by decide) ?_
      refine lv_icmp_ge (tgt := 40) hx hb dX0_init_18 (by decide) (fun c => absurd c (nI_ge (by omega) (by omega))) (fun _ => ?_)
      refine lv_aload_n hx hb dX0_init_21 rfl (lv_at hl 1 rfl) ?_
      refine x_get (C := RX0) (T := TX0) hx hb hts inlX0 hown hK.1 hW (show 109 < _ by omega) h0 (by decide) rfl 0 (by decide) xw_67 rfl (v := .ref (xB X + 110)) (by unfold VH; rw [if_neg (by decide), if_pos rfl, if_pos rfl]) dX0_init_22 ?_
      refine lv_iload_n hx hb dX0_init_25 rfl (lv_at hl 0 rfl) ?_
      refine y_new (C := RX4) (T := TX4) hx hb hts inlX4 tyX4 tyX4_ok hown xw_66 xw_14 xw_15 hK.1 hW hsz (by decide) rfl (show 1 + 53 * i + 1 ≤ 372 by omega) (show 7 + 438 * i + 8 ≤ 3073 by omega) dX0_init_26 (fun H hW => ?_)
      refine lv_dup hx hb dX0_init_29 rfl ?_
      refine y_callI hx hb hml hown hts hK hW hl.1 (n_X4 l X (shS i (by omega)) (fun w h4 h8 => by rw [va_up_at]; exact dv4 w h4 h8)) xw_68 xw_30 xw_15 xw_31 rfl hd4 ⟨Nat.le_of_ble_eq_true rfl, Nat.le_of_ble_eq_true rfl⟩ rfl (Nat.le_of_ble_eq_true rfl) ⟨(show 1 + 53 * i + 1 + 52 ≤ 372 by omega), (show 7 + 438 * i + 8 + 430 ≤ 3073 by omega)⟩ dX0_init_30 (fun H locs hW => ?_)
      refine y_astq (t0 := 3) (T := TX4) hx hb hK.1 hW (show 110 < _ by omega) h1 (by decide) rfl (show 111 + 53 * i < _ by omega) hsz (by decide) rfl (vp_in_nI (show i < 7 by omega) (by omega)) dX0_init_33 (fun H locs hW => ?_)
      rw [nI_clamp (by omega)] at hW
      have hW : XH X xsh (111 + 53 * (i + 1)) (VH (xB X) V (i + 1)) H locs := by rw [show 111 + 53 * (i + 1) = 111 + 53 * i + 53 by omega]; exact hW.to (fun k hk j hj => VH_s (by omega) k j hk hj)
      refine lv_iinc (v := nI (i + 1)) (lv' := [(1, .int (nI (i + 1))), (0, .ref (xB X + 109))]) hx hb dX0_init_34 hl (k := 0) rfl (nI_1 i) (by decide) rfl (fun ls hl => ?_)
      refine lv_goto (tgt := 15) hx hb dX0_init_37 (by decide) ?_
      have := ih (i + 1) (by omega) H locs ls hW hl
      rw [show 1 + 53 * (i + 1) = 1 + 53 * i + 1 + 52 by omega, show 7 + 438 * (i + 1) = 7 + 438 * i + 8 + 430 by omega] at this
      exact this
  exact loop1 7 0 (by omega) H locs ls hW hl
