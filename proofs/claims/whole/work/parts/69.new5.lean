/-! ===== the model's constructor ===== -/
/-- m rows laid, q settings written -/
def VMo (B : Nat) (V : xV) (m q : Nat) : xV := fun k => if k < 591 then V k else if k = 591 then (fun w => match xro 591 w with
    | some t => if t < 592 + m then .ref (B + t) else .null
    | none => .int 0) else if k = 592 then (fun w => .int (if w < q then (if w < 6 then xf0 w else 0) else 0)) else (fun _ => .int 0)
theorem VMo_lt {B m q k : Nat} {V : xV} (h : k < 591) : VMo B V m q k = V k := if_pos h
theorem VMo_h {B m q w : Nat} {V : xV} : VMo B V m q 591 w = match xro 591 w with
    | some t => if t < 592 + m then .ref (B + t) else .null
    | none => .int 0 := rfl
theorem VMo_a {B m q w : Nat} {V : xV} : VMo B V m q 592 w = .int (if w < q then (if w < 6 then xf0 w else 0) else 0) := rfl
theorem VMo_r {B m q k w : Nat} {V : xV} (h : 592 < k) : VMo B V m q k w = .int 0 := by
  unfold VMo
  rw [if_neg (by omega), if_neg (by omega), if_neg (by omega)]
theorem xro591a : ∀ a, a < 18 → ∀ b, b < 18 → a = b ∨ xro 591 a = none ∨ xro 591 a ≠ xro 591 b := by decide +kernel
theorem xro591 {a b t : Nat} (ha : a < 18) (hb : b < 18) (h1 : xro 591 a = some t) (h2 : xro 591 b = some t) : a = b := by
  rcases xro591a a ha b hb with h | h | h
  · exact h
  · rw [h] at h1; cases h1
  · exact absurd (h1.trans h2.symm) h
theorem VMo_row {B m f : Nat} {V : xV} (hm : m < 11) (hf : f < 18) (h : xro 591 f = some (592 + m)) : ∀ k j, k < 592 + m + 1 → j < (xsh k).2 → xup2 (va_up (VMo B V m 0) (592 + m) (fun _ => .int 0)) 591 f (.ref (B + (592 + m))) k j = VMo B V (m + 1) 0 k j := by
  intro k j hk hj
  by_cases c : k = 591
  · subst c
    by_cases d : j = f
    · subst d
      rw [xup2_at, VMo_h, h]
      exact (if_pos (by omega)).symm
    · rw [xup2_slot d, va_up_ne _ _ (by omega), VMo_h, VMo_h]
      cases e : xro 591 j with
      | none => rfl
      | some t =>
        dsimp only
        by_cases q : t < 592 + m
        · rw [if_pos q, if_pos (by omega)]
        · by_cases r : t = 592 + m
          · exact absurd (xro591 hj hf (e.trans (by rw [r])) h) d
          · rw [if_neg q, if_neg (by omega)]
  · rw [xup2_key c]
    by_cases d : k = 592 + m
    · rw [va_up_of d]
      by_cases z : m = 0
      · subst z
        have e : k = 592 := d
        subst e
        rw [VMo_a, if_neg (Nat.not_lt_zero j)]
      · exact (VMo_r (by omega)).symm
    · rw [va_up_ne _ _ d]
      by_cases z : k < 591
      · rw [VMo_lt z, VMo_lt z]
      · by_cases y : k = 592
        · subst y; rfl
        · rw [VMo_r (by omega), VMo_r (by omega)]
theorem VMo_set {B q : Nat} {V : xV} (hq : q < 6) : ∀ k j, xup2 (VMo B V 11 q) 592 q (.int (xf0 q)) k j = VMo B V 11 (q + 1) k j := by
  intro k j
  by_cases c : k = 592
  · subst c
    by_cases d : j = q
    · subst d; rw [xup2_at, VMo_a, if_pos (by omega), if_pos hq]
    · rw [xup2_slot d, VMo_a, VMo_a]
      by_cases r : j < q
      · rw [if_pos r, if_pos (show j < q + 1 by omega)]
      · rw [if_neg r, if_neg (show ¬ j < q + 1 by omega)]
  · rw [xup2_key c]
    by_cases z : k < 591
    · rw [VMo_lt z, VMo_lt z]
    · by_cases y : k = 591
      · subst y; rfl
      · rw [VMo_r (by omega), VMo_r (by omega)]
theorem VMo_0 {B : Nat} {V : xV} (hV : ∀ w, w < 18 → V 591 w = match xro 591 w with
    | some _ => .null
    | none => .int 0) : ∀ k j, k < 592 → j < (xsh k).2 → V k j = VMo B V 0 0 k j := by
  intro k j hk hj
  by_cases c : k = 591
  · subst c
    rw [hV j hj, VMo_h]
    cases e : xro 591 j with
    | none => rfl
    | some t =>
      have : ¬ t < 592 + 0 := by
        have := (show ∀ w, w < 18 → ∀ t, t < 592 → ¬ xro 591 w = some t from fun w hw t ht e => by
          have h1 := (show ∀ w, w < 18 → (xro 591 w).all (fun t => decide (592 ≤ t)) = true from by decide +kernel) w hw
          rw [e] at h1
          simp at h1
          omega) j hj
        intro q
        exact this t (by omega) e
      exact (if_neg this).symm
  · rw [VMo_lt (by omega)]
theorem xro591b : ∀ w, w < 18 → (xro 591 w).all (fun t => decide (t < 603)) = true := by decide +kernel
theorem VMo_end {B : Nat} {V : xV} : ∀ k j, k < 603 → j < (xsh k).2 → VMo B V 11 6 k j = (if k < 591 then V k else xval B Gi k) j := by
  intro k j hk hj
  by_cases z : k < 591
  · rw [VMo_lt z, if_pos z]
  · rw [if_neg z]
    rcases (show k = 591 ∨ k = 592 ∨ 592 < k by omega) with rfl | rfl | h
    · rw [VMo_h]
      unfold xval
      have hb := xro591b j hj
      cases e : xro 591 j with
      | none => rfl
      | some t =>
        rw [e] at hb
        simp at hb
        exact if_pos (by omega)
    · rw [VMo_a]
      have e : xval B Gi 592 j = .int (Gi 12 1 0 j) := rfl
      rw [e]
      unfold Gi
      by_cases c : j < 6
      · rw [if_pos c, if_pos c, if_pos ⟨rfl, rfl, by decide, c⟩]
      · rw [if_neg c, if_neg (fun y => c y.2.2.2)]
    · rw [VMo_r h]
      unfold xval
      have hd := (show ∀ t, t < 11 → 1 ≤ t → xdec (591 + (t + 1)) = (12, t + 1, 0) from by decide +kernel) (k - 592) (by omega) (by omega)
      rw [show 591 + (k - 592 + 1) = k by omega] at hd
      have hr := xr_model (k - 591) (by omega) (by omega) j
      have hk2 := (show ∀ t, t < 12 → 1 ≤ t → xkey 12 t 0 = 591 + t from by decide +kernel) (k - 591) (by omega) (by omega)
      rw [hk2, show 591 + (k - 591) = k by omega] at hr
      rw [hr, hd]
      unfold Gi
      rw [if_neg (fun y => by have := y.1; dsimp only at this; omega)]
theorem dv7 : ∀ w, w < 18 → defaultValue (tyX7 w) = match xro 591 w with
    | some _ => .null
    | none => .int 0 := by
  intro w h
  rcases (show w = 0 ∨ w = 1 ∨ w = 2 ∨ w = 3 ∨ w = 4 ∨ w = 5 ∨ w = 6 ∨ w = 7 ∨ w = 8 ∨ w = 9 ∨ w = 10 ∨ w = 11 ∨ w = 12 ∨ w = 13 ∨ w = 14 ∨ w = 15 ∨ w = 16 ∨ w = 17 by omega) with rfl | rfl | rfl | rfl | rfl | rfl | rfl | rfl | rfl | rfl | rfl | rfl | rfl | rfl | rfl | rfl | rfl | rfl <;> rfl
theorem shM : xsh 591 = (7, 18) ∧ xsh 592 = (8, 440) ∧ xsh 593 = (8, 2640) ∧ xsh 594 = (8, 880) ∧ xsh 595 = (10, 2) ∧ xsh 596 = (8, 440) ∧ xsh 597 = (8, 16) ∧ xsh 598 = (8, 16) ∧ xsh 599 = (8, 80) ∧ xsh 600 = (8, 29) ∧ xsh 601 = (8, 30) ∧ xsh 602 = (8, 92) := by decide +kernel
set_option maxHeartbeats 4000000 in
theorem n_X7 (l : Launch) (X : xX) {V : xV} (hV : ∀ w, w < 18 → V 591 w = match xro 591 w with | some _ => .null | none => .int 0) : YC l yX7_init cX7_init 1 none 1 12 11 4665 X xsh [.ref (xB X + 591)] 592 603 V (fun k => if k < 591 then V k else xval (xB X) Gi k) none := by
  refine YC.of RX7 "<init>" [(0, .ref (xB X + 591))] (by decide) rfl rfl (Nat.le_of_ble_eq_true rfl) rfl ?_
  intro p e s m args below meth c ls hx hb hret hml hts hown hlocks hnm hK hW hl
  obtain ⟨Q0, hQ0⟩ : ∃ z, z = MQ below (xQ X xsh 603 (fun k => if k < 591 then V k else xval (xB X) Gi k) none) args s 11 4665 (fun q => xB X ≤ q) := ⟨_, rfl⟩
  rw [← hQ0]
  obtain ⟨h0, h1, h2, h3, h4, h5, h6, h7, h8, h9, h10, h11⟩ := shM
  have hW : XH X xsh 592 (VMo (xB X) V 0 0) s.heap [] := hW.to (fun k hk j hj => VMo_0 hV k j hk hj)
  refine lv_aload_n hx hb dX7_init_0 rfl (lv_at hl 0 rfl) ?_
  refine y_obj hx hb hown hts xw_78 (hl.1.trans hml.symm) dX7_init_1 (Nat.le_of_ble_eq_true rfl) (Nat.le_of_ble_eq_true rfl) ?_
  refine lv_aload_n hx hb dX7_init_4 rfl (lv_at hl 0 rfl) ?_
  refine lv_sipush (v := nI 440) hx hb dX7_init_5 (by decide) ?_
  refine y_newa (ty := .int) hx hb rfl (hts _ xw_33) (hK.1.1.2 0 _ rfl).2 rfl hW h1 (by decide) rfl (by omega) (Nat.le_of_ble_eq_true rfl) (Nat.le_of_ble_eq_true rfl) (Nat.le_of_ble_eq_true rfl) dX7_init_8 (fun H hW => ?_)
  refine y_putF (C := RX7) (T := TX7) hx hb hts inlX7 tyX7 tyX7_ok nmX7 hown hK.1 hW (show 591 < 593 by omega) h0 (by decide) rfl 0 (by decide) xw_79 rfl rfl hnm rfl rfl rfl dX7_init_10 (fun H locs hW => ?_)
  have hW : XH X xsh 593 (VMo (xB X) V 1 0) H locs := hW.to (fun k hk j hj => VMo_row (m := 0) (f := 0) (by omega) (by omega) rfl k j hk hj)
  refine lv_aload_n hx hb dX7_init_13 rfl (lv_at hl 0 rfl) ?_
  refine lv_sipush (v := nI 2640) hx hb dX7_init_14 (by decide) ?_
  refine y_newa (ty := .int) hx hb rfl (hts _ xw_33) (hK.1.1.2 0 _ rfl).2 rfl hW h2 (by decide) rfl (by omega) (Nat.le_of_ble_eq_true rfl) (Nat.le_of_ble_eq_true rfl) (Nat.le_of_ble_eq_true rfl) dX7_init_17 (fun H hW => ?_)
  refine y_putF (C := RX7) (T := TX7) hx hb hts inlX7 tyX7 tyX7_ok nmX7 hown hK.1 hW (show 591 < 594 by omega) h0 (by decide) rfl 1 (by decide) xw_80 rfl rfl hnm rfl rfl rfl dX7_init_19 (fun H locs hW => ?_)
  have hW : XH X xsh 594 (VMo (xB X) V 2 0) H locs := hW.to (fun k hk j hj => VMo_row (m := 1) (f := 1) (by omega) (by omega) rfl k j hk hj)
  refine lv_aload_n hx hb dX7_init_22 rfl (lv_at hl 0 rfl) ?_
  refine lv_sipush (v := nI 880) hx hb dX7_init_23 (by decide) ?_
  refine y_newa (ty := .int) hx hb rfl (hts _ xw_33) (hK.1.1.2 0 _ rfl).2 rfl hW h3 (by decide) rfl (by omega) (Nat.le_of_ble_eq_true rfl) (Nat.le_of_ble_eq_true rfl) (Nat.le_of_ble_eq_true rfl) dX7_init_26 (fun H hW => ?_)
  refine y_putF (C := RX7) (T := TX7) hx hb hts inlX7 tyX7 tyX7_ok nmX7 hown hK.1 hW (show 591 < 595 by omega) h0 (by decide) rfl 4 (by decide) xw_81 rfl rfl hnm rfl rfl rfl dX7_init_28 (fun H locs hW => ?_)
  have hW : XH X xsh 595 (VMo (xB X) V 3 0) H locs := hW.to (fun k hk j hj => VMo_row (m := 2) (f := 4) (by omega) (by omega) rfl k j hk hj)
  refine lv_aload_n hx hb dX7_init_31 rfl (lv_at hl 0 rfl) ?_
  refine lv_iconst (v := nI 2) hx hb dX7_init_32 (by decide) ?_
  refine y_newa (ty := .boolean) hx hb rfl (hts _ xw_19) (hK.1.1.2 2 _ rfl).2 rfl hW h4 (by decide) rfl (by omega) (Nat.le_of_ble_eq_true rfl) (Nat.le_of_ble_eq_true rfl) (Nat.le_of_ble_eq_true rfl) dX7_init_33 (fun H hW => ?_)
  refine y_putF (C := RX7) (T := TX7) hx hb hts inlX7 tyX7 tyX7_ok nmX7 hown hK.1 hW (show 591 < 596 by omega) h0 (by decide) rfl 5 (by decide) xw_82 rfl rfl hnm rfl rfl rfl dX7_init_35 (fun H locs hW => ?_)
  have hW : XH X xsh 596 (VMo (xB X) V 4 0) H locs := hW.to (fun k hk j hj => VMo_row (m := 3) (f := 5) (by omega) (by omega) rfl k j hk hj)
  refine lv_aload_n hx hb dX7_init_38 rfl (lv_at hl 0 rfl) ?_
  refine lv_sipush (v := nI 440) hx hb dX7_init_39 (by decide) ?_
  refine y_newa (ty := .int) hx hb rfl (hts _ xw_33) (hK.1.1.2 0 _ rfl).2 rfl hW h5 (by decide) rfl (by omega) (Nat.le_of_ble_eq_true rfl) (Nat.le_of_ble_eq_true rfl) (Nat.le_of_ble_eq_true rfl) dX7_init_42 (fun H hW => ?_)
  refine y_putF (C := RX7) (T := TX7) hx hb hts inlX7 tyX7 tyX7_ok nmX7 hown hK.1 hW (show 591 < 597 by omega) h0 (by decide) rfl 6 (by decide) xw_83 rfl rfl hnm rfl rfl rfl dX7_init_44 (fun H locs hW => ?_)
  have hW : XH X xsh 597 (VMo (xB X) V 5 0) H locs := hW.to (fun k hk j hj => VMo_row (m := 4) (f := 6) (by omega) (by omega) rfl k j hk hj)
  refine lv_aload_n hx hb dX7_init_47 rfl (lv_at hl 0 rfl) ?_
  refine lv_bipush (v := nI 16) hx hb dX7_init_48 (by decide) ?_
  refine y_newa (ty := .int) hx hb rfl (hts _ xw_33) (hK.1.1.2 0 _ rfl).2 rfl hW h6 (by decide) rfl (by omega) (Nat.le_of_ble_eq_true rfl) (Nat.le_of_ble_eq_true rfl) (Nat.le_of_ble_eq_true rfl) dX7_init_50 (fun H hW => ?_)
  refine y_putF (C := RX7) (T := TX7) hx hb hts inlX7 tyX7 tyX7_ok nmX7 hown hK.1 hW (show 591 < 598 by omega) h0 (by decide) rfl 7 (by decide) xw_84 rfl rfl hnm rfl rfl rfl dX7_init_52 (fun H locs hW => ?_)
  have hW : XH X xsh 598 (VMo (xB X) V 6 0) H locs := hW.to (fun k hk j hj => VMo_row (m := 5) (f := 7) (by omega) (by omega) rfl k j hk hj)
  refine lv_aload_n hx hb dX7_init_55 rfl (lv_at hl 0 rfl) ?_
  refine lv_bipush (v := nI 16) hx hb dX7_init_56 (by decide) ?_
  refine y_newa (ty := .int) hx hb rfl (hts _ xw_33) (hK.1.1.2 0 _ rfl).2 rfl hW h7 (by decide) rfl (by omega) (Nat.le_of_ble_eq_true rfl) (Nat.le_of_ble_eq_true rfl) (Nat.le_of_ble_eq_true rfl) dX7_init_58 (fun H hW => ?_)
  refine y_putF (C := RX7) (T := TX7) hx hb hts inlX7 tyX7 tyX7_ok nmX7 hown hK.1 hW (show 591 < 599 by omega) h0 (by decide) rfl 8 (by decide) xw_85 rfl rfl hnm rfl rfl rfl dX7_init_60 (fun H locs hW => ?_)
  have hW : XH X xsh 599 (VMo (xB X) V 7 0) H locs := hW.to (fun k hk j hj => VMo_row (m := 6) (f := 8) (by omega) (by omega) rfl k j hk hj)
  refine lv_aload_n hx hb dX7_init_63 rfl (lv_at hl 0 rfl) ?_
  refine lv_bipush (v := nI 80) hx hb dX7_init_64 (by decide) ?_
  refine y_newa (ty := .int) hx hb rfl (hts _ xw_33) (hK.1.1.2 0 _ rfl).2 rfl hW h8 (by decide) rfl (by omega) (Nat.le_of_ble_eq_true rfl) (Nat.le_of_ble_eq_true rfl) (Nat.le_of_ble_eq_true rfl) dX7_init_66 (fun H hW => ?_)
  refine y_putF (C := RX7) (T := TX7) hx hb hts inlX7 tyX7 tyX7_ok nmX7 hown hK.1 hW (show 591 < 600 by omega) h0 (by decide) rfl 9 (by decide) xw_86 rfl rfl hnm rfl rfl rfl dX7_init_68 (fun H locs hW => ?_)
  have hW : XH X xsh 600 (VMo (xB X) V 8 0) H locs := hW.to (fun k hk j hj => VMo_row (m := 7) (f := 9) (by omega) (by omega) rfl k j hk hj)
  refine lv_aload_n hx hb dX7_init_71 rfl (lv_at hl 0 rfl) ?_
  refine lv_bipush (v := nI 29) hx hb dX7_init_72 (by decide) ?_
  refine y_newa (ty := .int) hx hb rfl (hts _ xw_33) (hK.1.1.2 0 _ rfl).2 rfl hW h9 (by decide) rfl (by omega) (Nat.le_of_ble_eq_true rfl) (Nat.le_of_ble_eq_true rfl) (Nat.le_of_ble_eq_true rfl) dX7_init_74 (fun H hW => ?_)
  refine y_putF (C := RX7) (T := TX7) hx hb hts inlX7 tyX7 tyX7_ok nmX7 hown hK.1 hW (show 591 < 601 by omega) h0 (by decide) rfl 15 (by decide) xw_87 rfl rfl hnm rfl rfl rfl dX7_init_76 (fun H locs hW => ?_)
  have hW : XH X xsh 601 (VMo (xB X) V 9 0) H locs := hW.to (fun k hk j hj => VMo_row (m := 8) (f := 15) (by omega) (by omega) rfl k j hk hj)
  refine lv_aload_n hx hb dX7_init_79 rfl (lv_at hl 0 rfl) ?_
  refine lv_bipush (v := nI 30) hx hb dX7_init_80 (by decide) ?_
  refine y_newa (ty := .int) hx hb rfl (hts _ xw_33) (hK.1.1.2 0 _ rfl).2 rfl hW h10 (by decide) rfl (by omega) (Nat.le_of_ble_eq_true rfl) (Nat.le_of_ble_eq_true rfl) (Nat.le_of_ble_eq_true rfl) dX7_init_82 (fun H hW => ?_)
  refine y_putF (C := RX7) (T := TX7) hx hb hts inlX7 tyX7 tyX7_ok nmX7 hown hK.1 hW (show 591 < 602 by omega) h0 (by decide) rfl 16 (by decide) xw_88 rfl rfl hnm rfl rfl rfl dX7_init_84 (fun H locs hW => ?_)
  have hW : XH X xsh 602 (VMo (xB X) V 10 0) H locs := hW.to (fun k hk j hj => VMo_row (m := 9) (f := 16) (by omega) (by omega) rfl k j hk hj)
  refine lv_aload_n hx hb dX7_init_87 rfl (lv_at hl 0 rfl) ?_
  refine lv_bipush (v := nI 92) hx hb dX7_init_88 (by decide) ?_
  refine y_newa (ty := .int) hx hb rfl (hts _ xw_33) (hK.1.1.2 0 _ rfl).2 rfl hW h11 (by decide) rfl (by omega) (Nat.le_of_ble_eq_true rfl) (Nat.le_of_ble_eq_true rfl) (Nat.le_of_ble_eq_true rfl) dX7_init_90 (fun H hW => ?_)
  refine y_putF (C := RX7) (T := TX7) hx hb hts inlX7 tyX7 tyX7_ok nmX7 hown hK.1 hW (show 591 < 603 by omega) h0 (by decide) rfl 17 (by decide) xw_89 rfl rfl hnm rfl rfl rfl dX7_init_92 (fun H locs hW => ?_)
  have hW : XH X xsh 603 (VMo (xB X) V 11 0) H locs := hW.to (fun k hk j hj => VMo_row (m := 10) (f := 17) (by omega) (by omega) rfl k j hk hj)
  refine lv_aload_n hx hb dX7_init_95 rfl (lv_at hl 0 rfl) ?_
  refine x_get (C := RX7) (T := TX7) hx hb hts inlX7 hown hK.1 hW (show 591 < 603 by omega) h0 (by decide) rfl 0 (by decide) xw_79 rfl (v := .ref (xB X + 592)) rfl dX7_init_96 ?_
  refine lv_iconst (v := nI 0) hx hb dX7_init_99 (by decide) ?_
  refine lv_iconst (v := nI 3) hx hb dX7_init_100 (by decide) ?_
  refine x_iast hx hb hK.1 hW (show 592 < 603 by omega) h1 (vp_in_nI (show 0 < 440 by omega) (by omega)) dX7_init_101 (fun H locs hW => ?_)
  rw [nI_clamp (by omega)] at hW
  have hW : XH X xsh 603 (VMo (xB X) V 11 1) H locs := hW.to (fun k hk j hj => VMo_set (q := 0) (by omega) k j)
  refine lv_aload_n hx hb dX7_init_102 rfl (lv_at hl 0 rfl) ?_
  refine x_get (C := RX7) (T := TX7) hx hb hts inlX7 hown hK.1 hW (show 591 < 603 by omega) h0 (by decide) rfl 0 (by decide) xw_79 rfl (v := .ref (xB X + 592)) rfl dX7_init_103 ?_
  refine lv_iconst (v := nI 1) hx hb dX7_init_106 (by decide) ?_
  refine lv_bipush (v := nI 14) hx hb dX7_init_107 (by decide) ?_
  refine x_iast hx hb hK.1 hW (show 592 < 603 by omega) h1 (vp_in_nI (show 1 < 440 by omega) (by omega)) dX7_init_109 (fun H locs hW => ?_)
  rw [nI_clamp (by omega)] at hW
  have hW : XH X xsh 603 (VMo (xB X) V 11 2) H locs := hW.to (fun k hk j hj => VMo_set (q := 1) (by omega) k j)
  refine lv_aload_n hx hb dX7_init_110 rfl (lv_at hl 0 rfl) ?_
  refine x_get (C := RX7) (T := TX7) hx hb hts inlX7 hown hK.1 hW (show 591 < 603 by omega) h0 (by decide) rfl 0 (by decide) xw_79 rfl (v := .ref (xB X + 592)) rfl dX7_init_111 ?_
  refine lv_iconst (v := nI 2) hx hb dX7_init_114 (by decide) ?_
  refine lv_bipush (v := nI 8) hx hb dX7_init_115 (by decide) ?_
  refine x_iast hx hb hK.1 hW (show 592 < 603 by omega) h1 (vp_in_nI (show 2 < 440 by omega) (by omega)) dX7_init_117 (fun H locs hW => ?_)
  rw [nI_clamp (by omega)] at hW
  have hW : XH X xsh 603 (VMo (xB X) V 11 3) H locs := hW.to (fun k hk j hj => VMo_set (q := 2) (by omega) k j)
  refine lv_aload_n hx hb dX7_init_118 rfl (lv_at hl 0 rfl) ?_
  refine x_get (C := RX7) (T := TX7) hx hb hts inlX7 hown hK.1 hW (show 591 < 603 by omega) h0 (by decide) rfl 0 (by decide) xw_79 rfl (v := .ref (xB X + 592)) rfl dX7_init_119 ?_
  refine lv_iconst (v := nI 3) hx hb dX7_init_122 (by decide) ?_
  refine lv_bipush (v := nI 6) hx hb dX7_init_123 (by decide) ?_
  refine x_iast hx hb hK.1 hW (show 592 < 603 by omega) h1 (vp_in_nI (show 3 < 440 by omega) (by omega)) dX7_init_125 (fun H locs hW => ?_)
  rw [nI_clamp (by omega)] at hW
  have hW : XH X xsh 603 (VMo (xB X) V 11 4) H locs := hW.to (fun k hk j hj => VMo_set (q := 3) (by omega) k j)
  refine lv_aload_n hx hb dX7_init_126 rfl (lv_at hl 0 rfl) ?_
  refine x_get (C := RX7) (T := TX7) hx hb hts inlX7 hown hK.1 hW (show 591 < 603 by omega) h0 (by decide) rfl 0 (by decide) xw_79 rfl (v := .ref (xB X + 592)) rfl dX7_init_127 ?_
  refine lv_iconst (v := nI 4) hx hb dX7_init_130 (by decide) ?_
  refine lv_iconst (v := nI 2) hx hb dX7_init_131 (by decide) ?_
  refine x_iast hx hb hK.1 hW (show 592 < 603 by omega) h1 (vp_in_nI (show 4 < 440 by omega) (by omega)) dX7_init_132 (fun H locs hW => ?_)
  rw [nI_clamp (by omega)] at hW
  have hW : XH X xsh 603 (VMo (xB X) V 11 5) H locs := hW.to (fun k hk j hj => VMo_set (q := 4) (by omega) k j)
  refine lv_aload_n hx hb dX7_init_133 rfl (lv_at hl 0 rfl) ?_
  refine x_get (C := RX7) (T := TX7) hx hb hts inlX7 hown hK.1 hW (show 591 < 603 by omega) h0 (by decide) rfl 0 (by decide) xw_79 rfl (v := .ref (xB X + 592)) rfl dX7_init_134 ?_
  refine lv_iconst (v := nI 5) hx hb dX7_init_137 (by decide) ?_
  refine lv_iconst (v := nI 2) hx hb dX7_init_138 (by decide) ?_
  refine x_iast hx hb hK.1 hW (show 592 < 603 by omega) h1 (vp_in_nI (show 5 < 440 by omega) (by omega)) dX7_init_139 (fun H locs hW => ?_)
  rw [nI_clamp (by omega)] at hW
  have hW : XH X xsh 603 (VMo (xB X) V 11 6) H locs := hW.to (fun k hk j hj => VMo_set (q := 5) (by omega) k j)
  rw [hQ0]
  exact x_vret hx hb hret hlocks (hW.to (fun k hk j hj => VMo_end k j hk hj)) rfl dX7_init_140
