/-! ===== constructors of what is small ===== -/
def VW (B b : Nat) (V : xV) : xV := fun k => if k = b then (fun w => if w < 2 then .ref (B + (b + 1 + w)) else .int 0) else if k = b + 1 ∨ k = b + 2 then (fun _ => .int 0) else V k
theorem VW_of {B b N : Nat} {V : xV} (hV : ∀ w, 2 ≤ w → w < N → V b w = .int 0) : ∀ k j, (k = b → j < N) → xup2 (va_up (xup2 (va_up V (b + 1) (fun _ => .int 0)) b 0 (.ref (B + (b + 1)))) (b + 2) (fun _ => .int 0)) b 1 (.ref (B + (b + 2))) k j = VW B b V k j := by
  intro k j hj
  unfold VW
  by_cases h0 : k = b
  · subst h0
    rw [if_pos rfl]
    have e1 : ¬ k = k + 1 := by omega
    have e2 : ¬ k = k + 2 := by omega
    have hj := hj rfl
    rcases (show j = 0 ∨ j = 1 ∨ 2 ≤ j by omega) with rfl | rfl | h
    · simp [xup2, va_up]
    · simp [xup2, Nat.add_assoc]
    · have h0 : ¬ j = 0 := by omega
      have h1 : ¬ j = 1 := by omega
      simp [xup2, va_up, h0, h1, hV j h hj, show ¬ j < 2 by omega]
  · rw [if_neg h0]
    by_cases h1 : k = b + 1
    · subst h1
      rw [if_pos (Or.inl rfl)]
      simp [xup2, va_up]
    · by_cases h2 : k = b + 2
      · subst h2
        rw [if_pos (Or.inr rfl)]
        simp [xup2, va_up]
      · rw [if_neg (by omega)]
        simp [xup2, va_up, h0, h1, h2]
set_option maxHeartbeats 4000000 in
theorem n_X2 (l : Launch) (X : xX) {b : Nat} {V : xV}  : YC l yX2_init cX2_init 1 none 1 12 0 0 X xsh [.ref (xB X + b)] (b + 1) (b + 1) V V none := by
  refine YC.of RX2 "<init>" [(0, .ref (xB X + b))] (by decide) rfl rfl (Nat.le_of_ble_eq_true rfl) rfl ?_
  intro p e s m args below meth c ls hx hb hret hml hts hown hlocks hnm hK hW hl
  obtain ⟨Q0, hQ0⟩ : ∃ z, z = MQ below (xQ X xsh (b + 1) V none) args s 0 0 (fun q => xB X ≤ q) := ⟨_, rfl⟩
  rw [← hQ0]
  refine lv_aload_n hx hb dX2_init_0 rfl (lv_at hl 0 rfl) ?_
  refine y_obj hx hb hown hts xw_53 (hl.1.trans hml.symm) dX2_init_1 (Nat.le_of_ble_eq_true rfl) (Nat.le_of_ble_eq_true rfl) ?_
  rw [hQ0]
  exact x_vret hx hb hret hlocks hW rfl dX2_init_4
set_option maxHeartbeats 4000000 in
theorem n_X1 (l : Launch) (X : xX) {b : Nat} {V : xV}  : YC l yX1_init cX1_init 1 none 1 12 0 0 X xsh [.ref (xB X + b)] (b + 1) (b + 1) V V none := by
  refine YC.of RX1 "<init>" [(0, .ref (xB X + b))] (by decide) rfl rfl (Nat.le_of_ble_eq_true rfl) rfl ?_
  intro p e s m args below meth c ls hx hb hret hml hts hown hlocks hnm hK hW hl
  obtain ⟨Q0, hQ0⟩ : ∃ z, z = MQ below (xQ X xsh (b + 1) V none) args s 0 0 (fun q => xB X ≤ q) := ⟨_, rfl⟩
  rw [← hQ0]
  refine lv_aload_n hx hb dX1_init_0 rfl (lv_at hl 0 rfl) ?_
  refine y_obj hx hb hown hts xw_56 (hl.1.trans hml.symm) dX1_init_1 (Nat.le_of_ble_eq_true rfl) (Nat.le_of_ble_eq_true rfl) ?_
  rw [hQ0]
  exact x_vret hx hb hret hlocks hW rfl dX1_init_4
set_option maxHeartbeats 4000000 in
theorem n_X5 (l : Launch) (X : xX) {b : Nat} {V : xV} (h0 : xsh b = (5, 9)) (h1 : xsh (b + 1) = (8, 6)) (h2 : xsh (b + 2) = (8, 6)) (hV : ∀ w, 2 ≤ w → w < 9 → V b w = .int 0) : YC l yX5_init cX5_init 1 none 1 12 2 12 X xsh [.ref (xB X + b)] (b + 1) (b + 3) V (VW (xB X) b V) none := by
  refine YC.of RX5 "<init>" [(0, .ref (xB X + b))] (by decide) rfl rfl (Nat.le_of_ble_eq_true rfl) rfl ?_
  intro p e s m args below meth c ls hx hb hret hml hts hown hlocks hnm hK hW hl
  obtain ⟨Q0, hQ0⟩ : ∃ z, z = MQ below (xQ X xsh (b + 3) (VW (xB X) b V) none) args s 2 12 (fun q => xB X ≤ q) := ⟨_, rfl⟩
  rw [← hQ0]
  refine lv_aload_n hx hb dX5_init_0 rfl (lv_at hl 0 rfl) ?_
  refine y_obj hx hb hown hts xw_59 (hl.1.trans hml.symm) dX5_init_1 (Nat.le_of_ble_eq_true rfl) (Nat.le_of_ble_eq_true rfl) ?_
  refine lv_aload_n hx hb dX5_init_4 rfl (lv_at hl 0 rfl) ?_
  refine lv_bipush (v := nI 6) hx hb dX5_init_5 (by decide) ?_
  refine y_newa (ty := .int) hx hb rfl (hts _ xw_33) (hK.1.1.2 0 _ rfl).2 rfl hW h1 (by decide) rfl (by omega) (Nat.le_of_ble_eq_true rfl) (Nat.le_of_ble_eq_true rfl) (Nat.le_of_ble_eq_true rfl) dX5_init_7 (fun H hW => ?_)
  refine y_putF (C := RX5) (T := TX5) hx hb hts inlX5 tyX5 tyX5_ok nmX5 hown hK.1 hW (show b < _ by omega) h0 (by decide) rfl 0 (by decide) xw_60 rfl rfl hnm rfl rfl rfl dX5_init_9 (fun H locs hW => ?_)
  refine lv_aload_n hx hb dX5_init_12 rfl (lv_at hl 0 rfl) ?_
  refine lv_bipush (v := nI 6) hx hb dX5_init_13 (by decide) ?_
  refine y_newa (ty := .int) hx hb rfl (hts _ xw_33) (hK.1.1.2 0 _ rfl).2 rfl hW h2 (by decide) rfl (by omega) (Nat.le_of_ble_eq_true rfl) (Nat.le_of_ble_eq_true rfl) (Nat.le_of_ble_eq_true rfl) dX5_init_15 (fun H hW => ?_)
  refine y_putF (C := RX5) (T := TX5) hx hb hts inlX5 tyX5 tyX5_ok nmX5 hown hK.1 hW (show b < _ by omega) h0 (by decide) rfl 1 (by decide) xw_61 rfl rfl hnm rfl rfl rfl dX5_init_17 (fun H locs hW => ?_)
  rw [hQ0]
  refine x_vret hx hb hret hlocks (hW.to (fun k hk j hj => VW_of hV k j (fun e => by subst e; rw [h0] at hj; exact hj))) rfl dX5_init_20
set_option maxHeartbeats 4000000 in
theorem n_X3 (l : Launch) (X : xX) {b : Nat} {V : xV} (h0 : xsh b = (3, 6)) (h1 : xsh (b + 1) = (9, 80)) (h2 : xsh (b + 2) = (8, 80)) (hV : ∀ w, 2 ≤ w → w < 6 → V b w = .int 0) : YC l yX3_init cX3_init 1 none 1 12 2 160 X xsh [.ref (xB X + b)] (b + 1) (b + 3) V (VW (xB X) b V) none := by
  refine YC.of RX3 "<init>" [(0, .ref (xB X + b))] (by decide) rfl rfl (Nat.le_of_ble_eq_true rfl) rfl ?_
  intro p e s m args below meth c ls hx hb hret hml hts hown hlocks hnm hK hW hl
  obtain ⟨Q0, hQ0⟩ : ∃ z, z = MQ below (xQ X xsh (b + 3) (VW (xB X) b V) none) args s 2 160 (fun q => xB X ≤ q) := ⟨_, rfl⟩
  rw [← hQ0]
  refine lv_aload_n hx hb dX3_init_0 rfl (lv_at hl 0 rfl) ?_
  refine y_obj hx hb hown hts xw_71 (hl.1.trans hml.symm) dX3_init_1 (Nat.le_of_ble_eq_true rfl) (Nat.le_of_ble_eq_true rfl) ?_
  refine lv_aload_n hx hb dX3_init_4 rfl (lv_at hl 0 rfl) ?_
  refine lv_bipush (v := nI 80) hx hb dX3_init_5 (by decide) ?_
  refine y_newa (ty := .char) hx hb rfl (hts _ xw_72) (hK.1.1.2 1 _ rfl).2 rfl hW h1 (by decide) rfl (by omega) (Nat.le_of_ble_eq_true rfl) (Nat.le_of_ble_eq_true rfl) (Nat.le_of_ble_eq_true rfl) dX3_init_7 (fun H hW => ?_)
  refine y_putF (C := RX3) (T := TX3) hx hb hts inlX3 tyX3 tyX3_ok nmX3 hown hK.1 hW (show b < _ by omega) h0 (by decide) rfl 0 (by decide) xw_73 rfl rfl hnm rfl rfl rfl dX3_init_9 (fun H locs hW => ?_)
  refine lv_aload_n hx hb dX3_init_12 rfl (lv_at hl 0 rfl) ?_
  refine lv_bipush (v := nI 80) hx hb dX3_init_13 (by decide) ?_
  refine y_newa (ty := .int) hx hb rfl (hts _ xw_33) (hK.1.1.2 0 _ rfl).2 rfl hW h2 (by decide) rfl (by omega) (Nat.le_of_ble_eq_true rfl) (Nat.le_of_ble_eq_true rfl) (Nat.le_of_ble_eq_true rfl) dX3_init_15 (fun H hW => ?_)
  refine y_putF (C := RX3) (T := TX3) hx hb hts inlX3 tyX3 tyX3_ok nmX3 hown hK.1 hW (show b < _ by omega) h0 (by decide) rfl 1 (by decide) xw_74 rfl rfl hnm rfl rfl rfl dX3_init_17 (fun H locs hW => ?_)
  rw [hQ0]
  refine x_vret hx hb hret hlocks (hW.to (fun k hk j hj => VW_of hV k j (fun e => by subst e; rw [h0] at hj; exact hj))) rfl dX3_init_20
