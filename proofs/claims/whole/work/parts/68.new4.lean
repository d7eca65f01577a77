/-! ===== the class's constructor ===== -/
def VC (B f a : Nat) : xV := fun k => if k = 0 then (fun w => if w < f then xval B Gi 0 w else .null) else if k = 107 then (fun w => if w < a then xval B Gi 107 w else .null) else xval B Gi k
theorem VC_0 {B f a w : Nat} : VC B f a 0 w = if w < f then xval B Gi 0 w else .null := rfl
theorem VC_107 {B f a w : Nat} : VC B f a 107 w = if w < a then xval B Gi 107 w else .null := rfl
theorem VC_k {B f a k w : Nat} (h0 : k ≠ 0) (h7 : k ≠ 107) : VC B f a k w = xval B Gi k w := by
  unfold VC
  rw [if_neg h0, if_neg h7]
theorem VC_str {B f a r b : Nat} {w0 : Nat → Value} (hr : r < 11) (hb : xso r = b) (h1 : 1 ≤ b) (h7 : b + 53 ≤ 107 ∨ 107 < b) : ∀ k j, k < b + 53 → j < (xsh k).2 → VL B b (va_up (VC B f a) b w0) 16 8 8 k j = VC B f a k j := by
  intro k j hk hj
  by_cases c : k < b
  · rw [VL_lt c, va_up_ne _ _ (by omega)]
  · rw [VL_x hr hb (by omega) hk hj, VC_k (by omega) (by omega)]
theorem VC_put {B f a t : Nat} (h : xro 0 f = some t) : ∀ k j, xup2 (VC B f a) 0 f (.ref (B + t)) k j = VC B (f + 1) a k j := by
  intro k j
  by_cases c : k = 0
  · subst c
    by_cases d : j = f
    · subst d; rw [xup2_at, VC_0, if_pos (by omega), xval_ref h]
    · rw [xup2_slot d, VC_0, VC_0]
      by_cases q : j < f
      · rw [if_pos q, if_pos (by omega)]
      · rw [if_neg q, if_neg (by omega)]
  · rw [xup2_key c]
    by_cases c7 : k = 107
    · subst c7; rfl
    · rw [VC_k c c7, VC_k c c7]
theorem VC_slot {B i : Nat} (hi : i < 2) : ∀ k j, xup2 (VC B 6 i) 107 i (.ref (B + (485 + 53 * i))) k j = VC B 6 (i + 1) k j := by
  intro k j
  by_cases c : k = 107
  · subst c
    by_cases d : j = i
    · subst d
      rw [xup2_at, VC_107, if_pos (by omega)]
      exact (xval_ref (k := 107) (w := j) (t := 485 + 53 * j) rfl).symm
    · rw [xup2_slot d, VC_107, VC_107]
      by_cases q : j < i
      · rw [if_pos q, if_pos (by omega)]
      · rw [if_neg q, if_neg (by omega)]
  · rw [xup2_key c]
    by_cases c0 : k = 0
    · subst c0; rfl
    · rw [VC_k c0 c, VC_k c0 c]
theorem VC_first {B : Nat} {V : xV} (hV : ∀ w, w < 6 → V 0 w = .null) : ∀ k j, k < 1 → j < (xsh k).2 → V k j = VC B 0 0 k j := by
  intro k j hk hj
  obtain rfl : k = 0 := by omega
  rw [VC_0, if_neg (Nat.not_lt_zero j)]
  exact hV j hj
theorem VC_end {B : Nat} : ∀ k j, k < 591 → j < (xsh k).2 → VC B 6 2 k j = xval B Gi k j := by
  intro k j hk hj
  by_cases c : k = 0
  · subst c; rw [VC_0, if_pos (show j < 6 from hj)]
  · by_cases c7 : k = 107
    · subst c7; rw [VC_107, if_pos (show j < 2 from hj)]
    · rw [VC_k c c7]
theorem x108 {B w : Nat} : xval B Gi 108 w = .int 0 := rfl
theorem x483 {B w : Nat} : xval B Gi 483 w = .int 0 := rfl
theorem x484 {B w : Nat} : xval B Gi 484 w = .int 0 := rfl
theorem x109 {B w : Nat} : xval B Gi 109 w = if w = 0 then .ref (B + 110) else .int 0 := by
  by_cases c : w = 0
  · subst c; rfl
  · rw [if_neg c]
    have e : xro 109 w = none := by show (if w = 0 then some 110 else none) = none; rw [if_neg c]
    unfold xval
    rw [e]
    rfl
theorem x110 {B w : Nat} : xval B Gi 110 w = .ref (B + (111 + 53 * w)) := rfl
theorem x482 {B w : Nat} : xval B Gi 482 w = if w < 2 then .ref (B + (482 + 1 + w)) else .int 0 := by
  rcases (show w = 0 ∨ w = 1 ∨ 2 ≤ w by omega) with rfl | rfl | h
  · rfl
  · rfl
  · rw [if_neg (by omega)]
    have e : xro 482 w = none := by show (if w = 0 then some 483 else if w = 1 then some 484 else none) = none; rw [if_neg (by omega), if_neg (by omega)]
    unfold xval
    rw [e]
    rfl
theorem VC_arr {B : Nat} : ∀ k j, k < 108 → va_up (VC B 2 0) 107 (fun _ => .null) k j = VC B 2 0 k j := by
  intro k j hk
  by_cases c : k = 107
  · subst c; rw [va_up_at, VC_107, if_neg (Nat.not_lt_zero j)]
  · rw [va_up_ne _ _ c]
theorem VC_sav {B : Nat} : ∀ k j, va_up (VC B 3 0) 108 (fun _ => .int 0) k j = VC B 3 0 k j := by
  intro k j
  by_cases c : k = 108
  · subst c; rw [va_up_at, VC_k (by decide) (by decide), x108]
  · rw [va_up_ne _ _ c]
theorem VC_his {B : Nat} {w0 : Nat → Value} : ∀ k j, j < (xsh k).2 → VH B (va_up (VC B 4 0) 109 w0) 7 k j = VC B 4 0 k j := by
  intro k j hj
  unfold VH
  by_cases c : k < 109
  · rw [if_pos c, va_up_ne _ _ (by omega)]
  · rw [if_neg c, VC_k (by omega) (by omega)]
    by_cases c9 : k = 109
    · subst c9; rw [if_pos rfl, x109]
    · rw [if_neg c9]
      by_cases c10 : k = 110
      · subst c10
        rw [if_pos rfl, x110]
        exact if_pos (show j < 7 from hj)
      · rw [if_neg c10]
theorem VC_pad {B : Nat} {w0 : Nat → Value} : ∀ k j, VW B 482 (va_up (VC B 5 0) 482 w0) k j = VC B 5 0 k j := by
  intro k j
  unfold VW
  by_cases c : k = 482
  · subst c; rw [if_pos rfl, VC_k (by decide) (by decide), x482]
  · rw [if_neg c]
    by_cases c3 : k = 482 + 1 ∨ k = 482 + 2
    · rw [if_pos c3]
      rcases c3 with rfl | rfl
      · exact ((VC_k (by decide) (by decide)).trans x483).symm
      · exact ((VC_k (by decide) (by decide)).trans x484).symm
    · rw [if_neg c3, va_up_ne _ _ c]
set_option maxHeartbeats 4000000 in
theorem n_X6 (l : Launch) (X : xX) {V : xV} (hV : ∀ w, w < 6 → V 0 w = .null) : YC l yX6_init cX6_init 2 none 4 82 590 4998 X xsh [.ref (xB X + 0)] 1 591 V (xval (xB X) Gi) none := by
  refine YC.of RX6 "<init>" [(0, .ref (xB X + 0))] (by decide) rfl rfl (Nat.le_of_ble_eq_true rfl) rfl ?_
  intro p e s m args below meth c ls hx hb hret hml hts hown hlocks hnm hK hW hl
  obtain ⟨Q0, hQ0⟩ : ∃ z, z = MQ below (xQ X xsh 591 (xval (xB X) Gi) none) args s 590 4998 (fun q => xB X ≤ q) := ⟨_, rfl⟩
  rw [← hQ0]
  obtain ⟨-, -, h0, h107, h108, h482, h483, h484⟩ := sh109
  have hW : XH X xsh 1 (VC (xB X) 0 0) s.heap [] := hW.to (fun k hk j hj => VC_first hV k j hk hj)
  refine lv_aload_n hx hb dX6_init_0 rfl (lv_at hl 0 rfl) ?_
  refine y_obj hx hb hown hts xw_10 (hl.1.trans hml.symm) dX6_init_1 (Nat.le_of_ble_eq_true rfl) (Nat.le_of_ble_eq_true rfl) ?_
  refine lv_aload_n hx hb dX6_init_4 rfl (lv_at hl 0 rfl) ?_
  refine y_new (C := RX4) (T := TX4) hx hb hts inlX4 tyX4 tyX4_ok hown xw_13 xw_14 xw_15 hK.1 hW (show xsh 1 = (4, 8) from by decide +kernel) (by decide) rfl (Nat.le_of_ble_eq_true rfl) (Nat.le_of_ble_eq_true rfl) dX6_init_5 (fun H hW => ?_)
  refine lv_dup hx hb dX6_init_8 rfl ?_
  refine y_callI hx hb hml hown hts hK hW hl.1 (n_X4 l X (b := 1) (fun j hj => (shN j hj).1) (fun w h4 h8 => by rw [va_up_at]; exact dv4 w h4 h8)) xw_29 xw_30 xw_15 xw_31 rfl hd4 ⟨(Nat.le_of_ble_eq_true rfl), (Nat.le_of_ble_eq_true rfl)⟩ rfl (Nat.le_of_ble_eq_true rfl) ⟨(Nat.le_of_ble_eq_true rfl), (Nat.le_of_ble_eq_true rfl)⟩ dX6_init_9 (fun H locs hW => ?_)
  have hW : XH X xsh 54 (VC (xB X) 0 0) H locs := hW.to (fun k hk j hj => VC_str (r := 0) (by decide) rfl (by decide) (by decide) k j hk hj)
  refine y_putF (C := RX6) (T := TX6) hx hb hts inlX6 tyX6 tyX6_ok nmX6 hown hK.1 hW (show 0 < 54 by omega) h0 (by decide) rfl 0 (by decide) xw_16 rfl rfl hnm rfl rfl rfl dX6_init_12 (fun H locs hW => ?_)
  have hW : XH X xsh 54 (VC (xB X) 1 0) H locs := hW.to (fun k hk j hj => VC_put (f := 0) (t := 1) rfl k j)
  refine lv_aload_n hx hb dX6_init_15 rfl (lv_at hl 0 rfl) ?_
  refine y_new (C := RX4) (T := TX4) hx hb hts inlX4 tyX4 tyX4_ok hown xw_13 xw_14 xw_15 hK.1 hW (show xsh 54 = (4, 8) from by decide +kernel) (by decide) rfl (Nat.le_of_ble_eq_true rfl) (Nat.le_of_ble_eq_true rfl) dX6_init_16 (fun H hW => ?_)
  refine lv_dup hx hb dX6_init_19 rfl ?_
  refine y_callI hx hb hml hown hts hK hW hl.1 (n_X4 l X (b := 54) (fun j hj => (shN j hj).2) (fun w h4 h8 => by rw [va_up_at]; exact dv4 w h4 h8)) xw_29 xw_30 xw_15 xw_31 rfl hd4 ⟨(Nat.le_of_ble_eq_true rfl), (Nat.le_of_ble_eq_true rfl)⟩ rfl (Nat.le_of_ble_eq_true rfl) ⟨(Nat.le_of_ble_eq_true rfl), (Nat.le_of_ble_eq_true rfl)⟩ dX6_init_20 (fun H locs hW => ?_)
  have hW : XH X xsh 107 (VC (xB X) 1 0) H locs := hW.to (fun k hk j hj => VC_str (r := 1) (by decide) rfl (by decide) (by decide) k j hk hj)
  refine y_putF (C := RX6) (T := TX6) hx hb hts inlX6 tyX6 tyX6_ok nmX6 hown hK.1 hW (show 0 < 107 by omega) h0 (by decide) rfl 1 (by decide) xw_17 rfl rfl hnm rfl rfl rfl dX6_init_23 (fun H locs hW => ?_)
  have hW : XH X xsh 107 (VC (xB X) 2 0) H locs := hW.to (fun k hk j hj => VC_put (f := 1) (t := 54) rfl k j)
  refine lv_aload_n hx hb dX6_init_26 rfl (lv_at hl 0 rfl) ?_
  refine lv_iconst (v := nI 2) hx hb dX6_init_27 (by decide) ?_
  obtain ⟨kA_1, comp_1, -, -, -, nm_1⟩ := (hK.1.1.2 3 _ rfl).2
  refine y_newq hx hb hown (hts _ xw_13) hK.2.1 nm_1 hW h107 (by decide) rfl (by omega) (by omega) (Nat.le_of_ble_eq_true rfl) (Nat.le_of_ble_eq_true rfl) dX6_init_28 (fun H hW => ?_)
  have hW : XH X xsh 108 (VC (xB X) 2 0) H locs := hW.to (fun k hk j hj => VC_arr k j hk)
  refine y_putF (C := RX6) (T := TX6) hx hb hts inlX6 tyX6 tyX6_ok nmX6 hown hK.1 hW (show 0 < 108 by omega) h0 (by decide) rfl 2 (by decide) xw_18 rfl rfl hnm rfl rfl rfl dX6_init_31 (fun H locs hW => ?_)
  have hW : XH X xsh 108 (VC (xB X) 3 0) H locs := hW.to (fun k hk j hj => VC_put (f := 2) (t := 107) rfl k j)
  refine lv_aload_n hx hb dX6_init_34 rfl (lv_at hl 0 rfl) ?_
  refine lv_iconst (v := nI 2) hx hb dX6_init_35 (by decide) ?_
  refine y_newa (ty := .boolean) hx hb rfl (hts _ xw_19) (hK.1.1.2 2 _ rfl).2 rfl hW h108 (by decide) rfl (by omega) (Nat.le_of_ble_eq_true rfl) (Nat.le_of_ble_eq_true rfl) (Nat.le_of_ble_eq_true rfl) dX6_init_36 (fun H hW => ?_)
  have hW : XH X xsh 109 (VC (xB X) 3 0) H locs := hW.to (fun k hk j hj => VC_sav k j)
  refine y_putF (C := RX6) (T := TX6) hx hb hts inlX6 tyX6 tyX6_ok nmX6 hown hK.1 hW (show 0 < 109 by omega) h0 (by decide) rfl 3 (by decide) xw_20 rfl rfl hnm rfl rfl rfl dX6_init_38 (fun H locs hW => ?_)
  have hW : XH X xsh 109 (VC (xB X) 4 0) H locs := hW.to (fun k hk j hj => VC_put (f := 3) (t := 108) rfl k j)
  refine lv_aload_n hx hb dX6_init_41 rfl (lv_at hl 0 rfl) ?_
  refine y_new (C := RX0) (T := TX0) hx hb hts inlX0 tyX0 tyX0_ok hown xw_21 xw_22 xw_23 hK.1 hW (show xsh 109 = (0, 3) from by decide +kernel) (by decide) rfl (Nat.le_of_ble_eq_true rfl) (Nat.le_of_ble_eq_true rfl) dX6_init_42 (fun H hW => ?_)
  refine lv_dup hx hb dX6_init_45 rfl ?_
  refine y_callI hx hb hml hown hts hK hW hl.1 (n_X0 l X (fun w h1 h3 => by rw [va_up_at]; exact dv0 w h1 h3)) xw_62 xw_63 xw_23 xw_64 rfl hd0 ⟨(Nat.le_of_ble_eq_true rfl), (Nat.le_of_ble_eq_true rfl)⟩ rfl (Nat.le_of_ble_eq_true rfl) ⟨(Nat.le_of_ble_eq_true rfl), (Nat.le_of_ble_eq_true rfl)⟩ dX6_init_46 (fun H locs hW => ?_)
  have hW : XH X xsh 482 (VC (xB X) 4 0) H locs := hW.to (fun k hk j hj => VC_his k j hj)
  refine y_putF (C := RX6) (T := TX6) hx hb hts inlX6 tyX6 tyX6_ok nmX6 hown hK.1 hW (show 0 < 482 by omega) h0 (by decide) rfl 4 (by decide) xw_24 rfl rfl hnm rfl rfl rfl dX6_init_49 (fun H locs hW => ?_)
  have hW : XH X xsh 482 (VC (xB X) 5 0) H locs := hW.to (fun k hk j hj => VC_put (f := 4) (t := 109) rfl k j)
  refine lv_aload_n hx hb dX6_init_52 rfl (lv_at hl 0 rfl) ?_
  refine y_new (C := RX3) (T := TX3) hx hb hts inlX3 tyX3 tyX3_ok hown xw_25 xw_26 xw_27 hK.1 hW h482 (by decide) rfl (Nat.le_of_ble_eq_true rfl) (Nat.le_of_ble_eq_true rfl) dX6_init_53 (fun H hW => ?_)
  refine lv_dup hx hb dX6_init_56 rfl ?_
  refine y_callIN hx hb hml hown hts hK hW hl.1 (n_X3 l X (b := 482) h482 h483 h484 (fun w h1 h3 => by rw [va_up_at]; exact dv3 w h1 h3)) (by simp [xNestM]) xw_69 xw_27 xw_70 rfl hd3 ⟨(Nat.le_of_ble_eq_true rfl), (Nat.le_of_ble_eq_true rfl)⟩ rfl (Nat.le_of_ble_eq_true rfl) ⟨(Nat.le_of_ble_eq_true rfl), (Nat.le_of_ble_eq_true rfl)⟩ dX6_init_57 (fun H locs hW => ?_)
  have hW : XH X xsh 485 (VC (xB X) 5 0) H locs := hW.to (fun k hk j hj => VC_pad k j)
  refine y_putF (C := RX6) (T := TX6) hx hb hts inlX6 tyX6 tyX6_ok nmX6 hown hK.1 hW (show 0 < 485 by omega) h0 (by decide) rfl 5 (by decide) xw_28 rfl rfl hnm rfl rfl rfl dX6_init_60 (fun H locs hW => ?_)
  have hW : XH X xsh 485 (VC (xB X) 6 0) H locs := hW.to (fun k hk j hj => VC_put (f := 5) (t := 482) rfl k j)
  refine lv_iconst (v := nI 0) hx hb dX6_init_63 (by decide) ?_
  refine lv_istore_n (lv' := [(1, .int (nI 0)), (0, .ref (xB X + 0))]) hx hb dX6_init_64 rfl hl (by decide) rfl (fun ls hl => ?_)
  have loop1 : ∀ (k i : Nat), i + k = 2 → ∀ (H : Heap) (locs : List Loc) (ls : Array Slot), XH X xsh (485 + 53 * i) (VC (xB X) 6 i) H locs → lv_has ls 2 [(1, .int (nI i)), (0, .ref (xB X + 0))] → W p l e { frames := 4, cells := 590, slots := 4998, locals := 82 } s m args below meth c H locs (484 + 53 * i) (4122 + 438 * i) Q0 (F0 m 65 ls []) := by
    intro k
    induction k with
    | zero =>
      intro i hik H locs ls hW hl
      refine lv_iload_n hx hb dX6_init_65 rfl (lv_at hl 0 rfl) ?_
      refine lv_iconst (v := nI 2) hx hb dX6_init_66 (by decide) ?_
      refine lv_icmp_ge (tgt := 89) hx hb dX6_init_67 (by decide) (fun _ => ?_) (fun c => absurd (xge_refl (by omega)) c)
      obtain rfl : i = 2 := by omega
      rw [hQ0]
      exact x_vret hx hb hret hlocks (hW.to (fun k hk j hj => VC_end k j hk hj)) rfl dX6_init_89
    | succ k ih =>
      intro i hik H locs ls hW hl
      have hsz : xsh (485 + 53 * i) = (4, 8) := shT i (by omega) 0 (by omega)
      refine lv_iload_n hx hb dX6_init_65 rfl (lv_at hl 0 rfl) ?_
      refine lv_iconst (v := nI 2) hx hb dX6_init_66 (by decide) ?_
      refine lv_icmp_ge (tgt := 89) hx hb dX6_init_67 (by decide) (fun c => absurd c (nI_ge (by omega) (by omega))) (fun _ => ?_)
      refine lv_aload_n hx hb dX6_init_70 rfl (lv_at hl 1 rfl) ?_
      refine x_get (C := RX6) (T := TX6) hx hb hts inlX6 hown hK.1 hW (show 0 < _ by omega) h0 (by decide) rfl 2 (by decide) xw_18 rfl (v := .ref (xB X + 107)) (by rw [VC_0]; rfl) dX6_init_71 ?_
      refine lv_iload_n hx hb dX6_init_74 rfl (lv_at hl 0 rfl) ?_
      refine y_new (C := RX4) (T := TX4) hx hb hts inlX4 tyX4 tyX4_ok hown xw_13 xw_14 xw_15 hK.1 hW hsz (by decide) rfl (show 484 + 53 * i + 1 ≤ 590 by omega) (show 4122 + 438 * i + 8 ≤ 4998 by omega) dX6_init_75 (fun H hW => ?_)
      refine lv_dup hx hb dX6_init_78 rfl ?_
      refine y_callI hx hb hml hown hts hK hW hl.1 (n_X4 l X (shT i (by omega)) (fun w h4 h8 => by rw [va_up_at]; exact dv4 w h4 h8)) xw_29 xw_30 xw_15 xw_31 rfl hd4 ⟨(Nat.le_of_ble_eq_true rfl), (Nat.le_of_ble_eq_true rfl)⟩ rfl (Nat.le_of_ble_eq_true rfl) ⟨(show 484 + 53 * i + 1 + 52 ≤ 590 by omega), (show 4122 + 438 * i + 8 + 430 ≤ 4998 by omega)⟩ dX6_init_79 (fun H locs hW => ?_)
      have hW : XH X xsh (485 + 53 * i + 53) (VC (xB X) 6 i) H locs := hW.to (fun k hk j hj => VC_str (r := 9 + i) (by omega) (by unfold xso; rw [if_neg (by omega), if_neg (by omega)]; omega) (by omega) (by omega) k j hk hj)
      refine y_astq (t0 := 3) (T := TX4) hx hb hK.1 hW (show 107 < _ by omega) h107 (by decide) rfl (show 485 + 53 * i < _ by omega) hsz (by decide) rfl (vp_in_nI (show i < 2 by omega) (by omega)) dX6_init_82 (fun H locs hW => ?_)
      rw [nI_clamp (by omega)] at hW
      have hW : XH X xsh (485 + 53 * (i + 1)) (VC (xB X) 6 (i + 1)) H locs := by rw [show 485 + 53 * (i + 1) = 485 + 53 * i + 53 by omega]; exact hW.to (fun k hk j hj => VC_slot (by omega) k j)
      refine lv_iinc (v := nI (i + 1)) (lv' := [(1, .int (nI (i + 1))), (0, .ref (xB X + 0))]) hx hb dX6_init_83 hl (k := 0) rfl (nI_1 i) (by decide) rfl (fun ls hl => ?_)
      refine lv_goto (tgt := 65) hx hb dX6_init_86 (by decide) ?_
      have := ih (i + 1) (by omega) H locs ls hW hl
      rw [show 484 + 53 * (i + 1) = 484 + 53 * i + 1 + 52 by omega, show 4122 + 438 * (i + 1) = 4122 + 438 * i + 8 + 430 by omega] at this
      exact this
  exact loop1 2 0 (by omega) H locs ls hW hl
