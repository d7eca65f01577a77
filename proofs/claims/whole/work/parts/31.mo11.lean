/-! ===== the model: the orders of a text ===== -/
def MfL (p : Nat → Int32) : Nat → xM4 → xM4
  | 0, q => q
  | k + 1, q => if q.1 12 = 0 then (if q.1 11 < q.1 10 then (if MtS p 59 q.1 12 = 0 then MfL p k (Mord p (MtS p 59 q.1, q.2)) else MfL p k (MtS p 59 q.1, q.2)) else q) else q
def Mfa (p : Nat → Int32) (q : xM4) : xM4 := MfL p 80 (Mord p (va_up (va_up (va_up (va_up q.1 11 0) 12 0) 13 0) 14 0, q.2))
def MfR (q : xM4) : Int32 := if q.1 12 = 0 then -6 else q.1 11
/-- the orders so far are in their place -/
def Mor (q : xM4) : Prop := Mk 0 q.1 ∧ q.1 13 = nI (q.1 13).toNatClampNeg ∧ (q.1 12 = 0 → 3 * (q.1 13).toNatClampNeg ≤ (q.1 11).toNatClampNeg + 1 ∧ ∀ j, j ≤ (q.1 13).toNatClampNeg → q.2.2.1 j = nI (q.2.2.1 j).toNatClampNeg ∧ (q.2.2.1 j).toNatClampNeg ≤ 80)
theorem Mord_13 {p : Nat → Int32} {q : xM4} (h : Mk 0 q.1) (h0 : q.1 12 = 0) (hw : (Mord p q).1 12 = 0) : (Mord p q).1 13 = q.1 13 + 1 := by
  have hb := Mk_body (p := p) (u := q.2.2.2) h h0
  unfold Mord Mtail at hw ⊢
  split at hw
  · rename_i h1
    rw [if_pos h1]
    show _ + 1 = _
    rw [hb.2.2.1]
  · rename_i h1
    exact absurd hw h1
theorem Mord_b {p : Nat → Int32} {q : xM4} (h : Mk 0 q.1) (h0 : q.1 12 = 0) (hw : (Mord p q).1 12 = 0) : (Mord p q).2.2.1 = va_up (va_up q.2.2.1 (q.1 13).toNatClampNeg (q.1 14)) (q.1 13 + 1).toNatClampNeg ((Mord p q).1 14) := by
  unfold Mord Mtail at hw ⊢
  split at hw
  · rename_i h1
    rw [if_pos h1]
    rfl
  · rename_i h1
    exact absurd hw h1
theorem Mor_ord {p : Nat → Int32} {q : xM4} (h : Mk 0 q.1) (h0 : q.1 12 = 0) (h13 : q.1 13 = nI (q.1 13).toNatClampNeg) (h3 : 3 * (q.1 13).toNatClampNeg ≤ (q.1 11).toNatClampNeg)
    (hb : ∀ j, j < (q.1 13).toNatClampNeg → q.2.2.1 j = nI (q.2.2.1 j).toNatClampNeg ∧ (q.2.2.1 j).toNatClampNeg ≤ 80) : Mor (Mord p q) := by
  have ht := Mk_to (p := p) h h0
  have hi := xinc h13 (by have := h.2.1; have := h.2.2.2.1; omega)
  refine ⟨ht.1, ?_, fun hw => ⟨?_, fun j hj => ?_⟩⟩
  · rcases ht.2.2.2 with e | e
    · rw [e]; exact h13
    · rw [e]; exact hi.2
  · have h2 := ht.2.2.1 hw
    rw [Mord_13 h h0 hw, hi.1]
    omega
  · rw [Mord_13 h h0 hw, hi.1] at hj
    rw [Mord_b h h0 hw, hi.1]
    by_cases e1 : j = (q.1 13).toNatClampNeg + 1
    · rw [e1, va_up_at]
      exact ⟨ht.1.2.2.2.2.2.1, by have := ht.1.2.2.2.2.2.2; have := ht.1.2.2.2.1; have := ht.1.2.1; omega⟩
    · rw [va_up_ne _ _ e1]
      by_cases e2 : j = (q.1 13).toNatClampNeg
      · rw [e2, va_up_at]
        exact ⟨h.2.2.2.2.2.1, by have := h.2.2.2.2.2.2; have := h.2.2.2.1; have := h.2.1; omega⟩
      · rw [va_up_ne _ _ e2]
        exact hb j (by omega)
theorem Mor_sgn {p : Nat → Int32} {q : xM4} (h : Mor q) (h0 : q.1 12 = 0) : Mk 0 (MtS p 59 q.1) ∧ MtS p 59 q.1 13 = nI (MtS p 59 q.1 13).toNatClampNeg ∧ MtS p 59 q.1 10 = q.1 10 ∧ (MtS p 59 q.1 12 = 0 → 3 * (MtS p 59 q.1 13).toNatClampNeg ≤ (MtS p 59 q.1 11).toNatClampNeg ∧ (q.1 11).toNatClampNeg + 1 ≤ (MtS p 59 q.1 11).toNatClampNeg) ∧ MtS p 59 q.1 13 = q.1 13 := by
  have hs := Mk_S (p := p) (c := 59) h.1 (by decide)
  refine ⟨hs.1, by rw [hs.2.2.1]; exact h.2.1, hs.2.1, fun hw => ?_, hs.2.2.1⟩
  have h1 := (hs.2.2.2.2 hw).2
  have h3 := (h.2.2 h0).1
  rw [hs.2.2.1]
  exact ⟨by omega, h1⟩
theorem Mor_w {q : xM4} {f : Nat → Int32} (hk : Mk 0 f) (h13 : f 13 = nI (f 13).toNatClampNeg) (hw : ¬ f 12 = 0) : Mor (f, q.2) := ⟨hk, h13, fun e => absurd e hw⟩
theorem Mor_step {p : Nat → Int32} {q : xM4} (h : Mor q) (h0 : q.1 12 = 0) (h1 : MtS p 59 q.1 12 = 0) : Mor (Mord p (MtS p 59 q.1, q.2)) ∧ (Mord p (MtS p 59 q.1, q.2)).1 10 = q.1 10 ∧ ((Mord p (MtS p 59 q.1, q.2)).1 12 = 0 → (q.1 11).toNatClampNeg + 1 ≤ ((Mord p (MtS p 59 q.1, q.2)).1 11).toNatClampNeg) := by
  have hs := Mor_sgn (p := p) h h0
  have h3 := hs.2.2.2.1 h1
  have ht := Mk_to (p := p) (q := (MtS p 59 q.1, q.2)) hs.1 h1
  refine ⟨Mor_ord (q := (MtS p 59 q.1, q.2)) hs.1 h1 hs.2.1 h3.1 (fun j hj => (h.2.2 h0).2 j (by have e := hs.2.2.2.2; dsimp only at hj; rw [e] at hj; omega)), ht.2.1.trans hs.2.2.1, fun hw => ?_⟩
  have := ht.2.2.1 hw
  dsimp only at this
  omega
theorem Mor_0 {p : Nat → Int32} {q : xM4} (hn : q.1 10 = nI (q.1 10).toNatClampNeg) (hn8 : (q.1 10).toNatClampNeg ≤ 80) : Mor (Mord p (va_up (va_up (va_up (va_up q.1 11 0) 12 0) 13 0) 14 0, q.2)) :=
  Mor_ord (q := (va_up (va_up (va_up (va_up q.1 11 0) 12 0) 13 0) 14 0, q.2)) ⟨hn, hn8, rfl, Nat.zero_le _, Or.inl rfl, rfl, Nat.zero_le _⟩ rfl rfl (Nat.zero_le _) (fun j hj => absurd hj (Nat.not_lt_zero j))
theorem Mk_00 {f : Nat → Int32} (hn : f 10 = nI (f 10).toNatClampNeg) (hn8 : (f 10).toNatClampNeg ≤ 80) : Mk 0 (va_up (va_up (va_up (va_up f 11 0) 12 0) 13 0) 14 0) := ⟨hn, hn8, rfl, Nat.zero_le _, Or.inl rfl, rfl, Nat.zero_le _⟩
theorem Mor_L {p : Nat → Int32} : ∀ (k : Nat) (q : xM4), Mor q → Mor (MfL p k q)
  | 0, _, h => h
  | k + 1, q, h => by
    unfold MfL
    split
    · rename_i h0
      split
      · split
        · rename_i h2
          exact Mor_L k _ (Mor_step h h0 h2).1
        · rename_i h2
          exact Mor_L k _ (Mor_w (q := q) (Mor_sgn h h0).1 (Mor_sgn h h0).2.1 h2)
      · exact h
    · exact h
theorem Mor_f {p : Nat → Int32} {q : xM4} (hn : q.1 10 = nI (q.1 10).toNatClampNeg) (hn8 : (q.1 10).toNatClampNeg ≤ 80) : Mor (Mfa p q) := Mor_L 80 _ (Mor_0 hn hn8)
theorem Mor.lt {q : xM4} (h : Mor q) (hk : (q.1 10).toNatClampNeg ≤ (q.1 11).toNatClampNeg + 0) : ¬ q.1 11 < q.1 10 := by
  intro c
  have := (xltn h.1.2.2.1 h.1.1 h.1.n.2.2.2 h.1.2.1).mp c
  omega
theorem hdV_yX7_fault : yX7_fault.cls = RX7 ∧ yX7_fault.cls ≠ "java/lang/invoke/MethodHandle" ∧ yX7_fault.cls ≠ "java/lang/invoke/VarHandle" ∧ (parseMethodDescriptor yX7_fault.desc).map (fun d => d.parameters.length) = some 0 := by decide +kernel
set_option maxHeartbeats 4000000 in
set_option maxRecDepth 100000 in
theorem c_X7_fault (l : Launch) (X : xX) (G : xG) {f sg pb pc pd pe pg ph pp pq pt pu : Nat → Int32} {L O Y : Nat → Nat → Int32}  (hn10 : f 10 = nI (f 10).toNatClampNeg) (hn10b : (f 10).toNatClampNeg ≤ 80) {f' : Nat → Int32} (ho0 : ((Mfa pp (f, pq, pt, pu)).1) = f') {pq' : Nat → Int32} (ho1 : ((Mfa pp (f, pq, pt, pu)).2.1) = pq') {pt' : Nat → Int32} (ho2 : ((Mfa pp (f, pq, pt, pu)).2.2.1) = pt') {pu' : Nat → Int32} (ho3 : ((Mfa pp (f, pq, pt, pu)).2.2.2) = pu') {res : Int32} (hres : (MfR (Mfa pp (f, pq, pt, pu))) = res) : XC l yX7_fault cX7_fault 1 (some .int) 4 84 0 0 X xsh [.ref (xB X + xkey 12 0 0)] 603 603 (xval (xB X) (va_up G 12 (xMa f sg L O Y pb pc pd pe pg ph pp pq pt pu))) (xval (xB X) (va_up G 12 (xMa f' sg L O Y pb pc pd pe pg ph pp pq' pt' pu'))) (some (.int res)) := by
  refine XC.of RX7 "fault" [(0, .ref (xB X + xkey 12 0 0))] (by decide) rfl rfl (Nat.le_of_ble_eq_true rfl) rfl ?_
  intro p e s m args below meth c ls hx hb hret hml hts hown hlocks hnm hK hW hl
  have hW : XR X G 12 (xMa f sg L O Y pb pc pd pe pg ph pp pq pt pu) s.heap [] := hW
  obtain ⟨Q0, hQ0⟩ : ∃ z, z = MQ below (xQ X xsh 603 (xval (xB X) (va_up G 12 (xMa f' sg L O Y pb pc pd pe pg ph pp pq' pt' pu'))) (some (.int res))) args s 0 0 (fun q => xB X ≤ q) := ⟨_, rfl⟩
  rw [← hQ0]
  refine lv_aload_n hx hb dX7_fault_0 rfl (lv_at hl 0 rfl) ?_
  refine lv_iconst (v := 0) hx hb dX7_fault_1 (by decide) ?_
  refine r_put hx hb hts hown hK hW (C := RX7) (T := TX7) (xF_mo0) inlX7 tyX7 tyX7_ok nmX7 rfl (by decide) 11 (by decide) (by decide +kernel) xw_842 rfl rfl rfl rfl xMa0 dX7_fault_2 (fun H locs hW => ?_)
  refine lv_aload_n hx hb dX7_fault_5 rfl (lv_at hl 0 rfl) ?_
  refine lv_iconst (v := 0) hx hb dX7_fault_6 (by decide) ?_
  refine r_put hx hb hts hown hK hW (C := RX7) (T := TX7) (xF_mo0) inlX7 tyX7 tyX7_ok nmX7 rfl (by decide) 12 (by decide) (by decide +kernel) xw_843 rfl rfl rfl rfl xMa0 dX7_fault_7 (fun H locs hW => ?_)
  refine lv_aload_n hx hb dX7_fault_10 rfl (lv_at hl 0 rfl) ?_
  refine lv_iconst (v := 0) hx hb dX7_fault_11 (by decide) ?_
  refine r_put hx hb hts hown hK hW (C := RX7) (T := TX7) (xF_mo0) inlX7 tyX7 tyX7_ok nmX7 rfl (by decide) 13 (by decide) (by decide +kernel) xw_844 rfl rfl rfl rfl xMa0 dX7_fault_12 (fun H locs hW => ?_)
  refine lv_aload_n hx hb dX7_fault_15 rfl (lv_at hl 0 rfl) ?_
  refine lv_iconst (v := 0) hx hb dX7_fault_16 (by decide) ?_
  refine r_put hx hb hts hown hK hW (C := RX7) (T := TX7) (xF_mo0) inlX7 tyX7 tyX7_ok nmX7 rfl (by decide) 14 (by decide) (by decide +kernel) xw_845 rfl rfl rfl rfl xMa0 dX7_fault_17 (fun H locs hW => ?_)
  refine lv_aload_n hx hb dX7_fault_20 rfl (lv_at hl 0 rfl) ?_
  refine x_callV hx hb hml hown hts hK hW hl.1 (c_X7_takeOrder l X G  (h := (Mk_00 hn10 hn10b)) (h0 := rfl) (h13 := rfl) (h13b := (Nat.zero_le 27)) (ho0 := rfl) (ho1 := rfl) (ho2 := rfl) (ho3 := rfl)) (xF_mo0).1 (xF_mo0).2.1 (by decide) rfl xw_846 xw_847 xw_848 xw_5 xw_849 hdV_yX7_takeOrder ⟨Nat.le_of_ble_eq_true rfl, Nat.le_of_ble_eq_true rfl⟩ rfl (Nat.le_of_ble_eq_true rfl) ⟨Nat.le_refl _, Nat.le_refl _⟩ dX7_fault_21 (fun H locs hW => ?_)
  have hW : XR X G 12 (xMa ((Mord pp ((va_up (va_up (va_up (va_up f 11 0) 12 0) 13 0) 14 0), pq, pt, pu)).1) sg L O Y pb pc pd pe pg ph pp ((Mord pp ((va_up (va_up (va_up (va_up f 11 0) 12 0) 13 0) 14 0), pq, pt, pu)).2.1) ((Mord pp ((va_up (va_up (va_up (va_up f 11 0) 12 0) 13 0) 14 0), pq, pt, pu)).2.2.1) ((Mord pp ((va_up (va_up (va_up (va_up f 11 0) 12 0) 13 0) 14 0), pq, pt, pu)).2.2.2)) H locs := hW
  have loop_24 : ∀ (k_24 i : Nat) (fa : Nat → Int32) (qa : Nat → Int32) (ta : Nat → Int32) (ua : Nat → Int32), (¬ fa 12 = 0 ∨ (fa 10).toNatClampNeg ≤ (fa 11).toNatClampNeg + k_24) → Mor (fa, qa, ta, ua) → MfL pp k_24 (fa, qa, ta, ua) = MfL pp 80 (((Mord pp ((va_up (va_up (va_up (va_up f 11 0) 12 0) 13 0) 14 0), pq, pt, pu)).1), ((Mord pp ((va_up (va_up (va_up (va_up f 11 0) 12 0) 13 0) 14 0), pq, pt, pu)).2.1), ((Mord pp ((va_up (va_up (va_up (va_up f 11 0) 12 0) 13 0) 14 0), pq, pt, pu)).2.2.1), ((Mord pp ((va_up (va_up (va_up (va_up f 11 0) 12 0) 13 0) 14 0), pq, pt, pu)).2.2.2)) → ∀ (H : Heap) (locs : List Loc) (ls : Array Slot), XR X G 12 (xMa fa sg L O Y pb pc pd pe pg ph pp qa ta ua) H locs → lv_has ls 1 [(0, .ref (xB X + xkey 12 0 0))] → W p l e { frames := 4, cells := 0, slots := 0, locals := 84 } s m args below meth c H locs 0 0 Q0 (F0 m 24 ls []) := by
    intro k_24
    induction k_24 with
    | zero =>
      intro i fa qa ta ua hik_24 hv0_24 hsp_24 H locs ls hW hl
      refine lv_aload_n hx hb dX7_fault_24 rfl (lv_at hl 0 rfl) ?_
      refine r_get hx hb hts hown hK hW (C := RX7) (T := TX7) (xF_mo0) inlX7 rfl (by decide) 12 (by decide) (by decide +kernel) xw_843 rfl (x := fa 12) rfl dX7_fault_25 ?_
      refine lv_if_ne (tgt := 62) hx hb dX7_fault_28 (by decide) (fun c_1 => ?_) (fun c_1 => ?_)
      · skip
        refine lv_aload_n hx hb dX7_fault_62 rfl (lv_at hl 0 rfl) ?_
        refine r_get hx hb hts hown hK hW (C := RX7) (T := TX7) (xF_mo0) inlX7 rfl (by decide) 12 (by decide) (by decide +kernel) xw_843 rfl (x := fa 12) rfl dX7_fault_63 ?_
        refine lv_if_eq (tgt := 76) hx hb dX7_fault_66 (by decide) (fun c_2 => absurd c_2 c_1) (fun c_2 => ?_)
        refine lv_aload_n hx hb dX7_fault_69 rfl (lv_at hl 0 rfl) ?_
        refine r_get hx hb hts hown hK hW (C := RX7) (T := TX7) (xF_mo0) inlX7 rfl (by decide) 11 (by decide) (by decide +kernel) xw_842 rfl (x := fa 11) rfl dX7_fault_70 ?_
        refine lv_goto (tgt := 78) hx hb dX7_fault_73 (by decide) ?_
        obtain rfl : fa = f' := by (rw [← ho0]) <;> (have e9 : (fa, qa, ta, ua) = Mfa pp (f, pq, pt, pu) := (by unfold Mfa; rw [← hsp_24]; first | rfl | simp [MfL, c_1, c_2]); rw [← e9]; try (simp [MfR, c_1, c_2]))
        obtain rfl : qa = pq' := by (rw [← ho1]) <;> (have e9 : (fa, qa, ta, ua) = Mfa pp (f, pq, pt, pu) := (by unfold Mfa; rw [← hsp_24]; first | rfl | simp [MfL, c_1, c_2]); rw [← e9]; try (simp [MfR, c_1, c_2]))
        obtain rfl : ta = pt' := by (rw [← ho2]) <;> (have e9 : (fa, qa, ta, ua) = Mfa pp (f, pq, pt, pu) := (by unfold Mfa; rw [← hsp_24]; first | rfl | simp [MfL, c_1, c_2]); rw [← e9]; try (simp [MfR, c_1, c_2]))
        obtain rfl : ua = pu' := by (rw [← ho3]) <;> (have e9 : (fa, qa, ta, ua) = Mfa pp (f, pq, pt, pu) := (by unfold Mfa; rw [← hsp_24]; first | rfl | simp [MfL, c_1, c_2]); rw [← e9]; try (simp [MfR, c_1, c_2]))
        obtain rfl : fa 11 = res := by (rw [← hres]) <;> (have e9 : (fa, qa, ta, ua) = Mfa pp (f, pq, pt, pu) := (by unfold Mfa; rw [← hsp_24]; first | rfl | simp [MfL, c_1, c_2]); rw [← e9]; try (simp [MfR, c_1, c_2]))
        rw [hQ0]
        exact x_iret hx hb hret hlocks rfl hW rfl dX7_fault_78
      · skip
        refine lv_aload_n hx hb dX7_fault_31 rfl (lv_at hl 0 rfl) ?_
        refine r_get hx hb hts hown hK hW (C := RX7) (T := TX7) (xF_mo0) inlX7 rfl (by decide) 11 (by decide) (by decide +kernel) xw_842 rfl (x := fa 11) rfl dX7_fault_32 ?_
        refine lv_aload_n hx hb dX7_fault_35 rfl (lv_at hl 0 rfl) ?_
        refine r_get hx hb hts hown hK hW (C := RX7) (T := TX7) (xF_mo0) inlX7 rfl (by decide) 10 (by decide) (by decide +kernel) xw_674 rfl (x := fa 10) rfl dX7_fault_36 ?_
        refine lv_icmp_ge (tgt := 62) hx hb dX7_fault_39 (by decide) (fun c_3 => ?_) (fun c_3 => absurd (Int32.not_lt.mp (hv0_24.lt (hik_24.resolve_left (fun z => z c_1)))) c_3)
        refine lv_aload_n hx hb dX7_fault_62 rfl (lv_at hl 0 rfl) ?_
        refine r_get hx hb hts hown hK hW (C := RX7) (T := TX7) (xF_mo0) inlX7 rfl (by decide) 12 (by decide) (by decide +kernel) xw_843 rfl (x := fa 12) rfl dX7_fault_63 ?_
        refine lv_if_eq (tgt := 76) hx hb dX7_fault_66 (by decide) (fun c_4 => ?_) (fun c_4 => absurd c_1 c_4)
        refine lv_bipush (v := (-6)) hx hb dX7_fault_76 (by decide) ?_
        obtain rfl : fa = f' := by (rw [← ho0]) <;> (have e9 : (fa, qa, ta, ua) = Mfa pp (f, pq, pt, pu) := (by unfold Mfa; rw [← hsp_24]; first | rfl | simp [MfL, c_1, c_3, c_4]); rw [← e9]; try (simp [MfR, c_1, c_3, c_4]))
        obtain rfl : qa = pq' := by (rw [← ho1]) <;> (have e9 : (fa, qa, ta, ua) = Mfa pp (f, pq, pt, pu) := (by unfold Mfa; rw [← hsp_24]; first | rfl | simp [MfL, c_1, c_3, c_4]); rw [← e9]; try (simp [MfR, c_1, c_3, c_4]))
        obtain rfl : ta = pt' := by (rw [← ho2]) <;> (have e9 : (fa, qa, ta, ua) = Mfa pp (f, pq, pt, pu) := (by unfold Mfa; rw [← hsp_24]; first | rfl | simp [MfL, c_1, c_3, c_4]); rw [← e9]; try (simp [MfR, c_1, c_3, c_4]))
        obtain rfl : ua = pu' := by (rw [← ho3]) <;> (have e9 : (fa, qa, ta, ua) = Mfa pp (f, pq, pt, pu) := (by unfold Mfa; rw [← hsp_24]; first | rfl | simp [MfL, c_1, c_3, c_4]); rw [← e9]; try (simp [MfR, c_1, c_3, c_4]))
        obtain rfl : (-6) = res := by (rw [← hres]) <;> (have e9 : (fa, qa, ta, ua) = Mfa pp (f, pq, pt, pu) := (by unfold Mfa; rw [← hsp_24]; first | rfl | simp [MfL, c_1, c_3, c_4]); rw [← e9]; try (simp [MfR, c_1, c_3, c_4]))
        rw [hQ0]
        exact x_iret hx hb hret hlocks rfl hW rfl dX7_fault_78
    | succ k_24 ih_24 =>
      intro i fa qa ta ua hik_24 hv0_24 hsp_24 H locs ls hW hl
      refine lv_aload_n hx hb dX7_fault_24 rfl (lv_at hl 0 rfl) ?_
      refine r_get hx hb hts hown hK hW (C := RX7) (T := TX7) (xF_mo0) inlX7 rfl (by decide) 12 (by decide) (by decide +kernel) xw_843 rfl (x := fa 12) rfl dX7_fault_25 ?_
      refine lv_if_ne (tgt := 62) hx hb dX7_fault_28 (by decide) (fun c_5 => ?_) (fun c_5 => ?_)
      · skip
        refine lv_aload_n hx hb dX7_fault_62 rfl (lv_at hl 0 rfl) ?_
        refine r_get hx hb hts hown hK hW (C := RX7) (T := TX7) (xF_mo0) inlX7 rfl (by decide) 12 (by decide) (by decide +kernel) xw_843 rfl (x := fa 12) rfl dX7_fault_63 ?_
        refine lv_if_eq (tgt := 76) hx hb dX7_fault_66 (by decide) (fun c_6 => absurd c_6 c_5) (fun c_6 => ?_)
        refine lv_aload_n hx hb dX7_fault_69 rfl (lv_at hl 0 rfl) ?_
        refine r_get hx hb hts hown hK hW (C := RX7) (T := TX7) (xF_mo0) inlX7 rfl (by decide) 11 (by decide) (by decide +kernel) xw_842 rfl (x := fa 11) rfl dX7_fault_70 ?_
        refine lv_goto (tgt := 78) hx hb dX7_fault_73 (by decide) ?_
        obtain rfl : fa = f' := by (rw [← ho0]) <;> (have e9 : (fa, qa, ta, ua) = Mfa pp (f, pq, pt, pu) := (by unfold Mfa; rw [← hsp_24]; first | rfl | simp [MfL, c_5, c_6]); rw [← e9]; try (simp [MfR, c_5, c_6]))
        obtain rfl : qa = pq' := by (rw [← ho1]) <;> (have e9 : (fa, qa, ta, ua) = Mfa pp (f, pq, pt, pu) := (by unfold Mfa; rw [← hsp_24]; first | rfl | simp [MfL, c_5, c_6]); rw [← e9]; try (simp [MfR, c_5, c_6]))
        obtain rfl : ta = pt' := by (rw [← ho2]) <;> (have e9 : (fa, qa, ta, ua) = Mfa pp (f, pq, pt, pu) := (by unfold Mfa; rw [← hsp_24]; first | rfl | simp [MfL, c_5, c_6]); rw [← e9]; try (simp [MfR, c_5, c_6]))
        obtain rfl : ua = pu' := by (rw [← ho3]) <;> (have e9 : (fa, qa, ta, ua) = Mfa pp (f, pq, pt, pu) := (by unfold Mfa; rw [← hsp_24]; first | rfl | simp [MfL, c_5, c_6]); rw [← e9]; try (simp [MfR, c_5, c_6]))
        obtain rfl : fa 11 = res := by (rw [← hres]) <;> (have e9 : (fa, qa, ta, ua) = Mfa pp (f, pq, pt, pu) := (by unfold Mfa; rw [← hsp_24]; first | rfl | simp [MfL, c_5, c_6]); rw [← e9]; try (simp [MfR, c_5, c_6]))
        rw [hQ0]
        exact x_iret hx hb hret hlocks rfl hW rfl dX7_fault_78
      · skip
        refine lv_aload_n hx hb dX7_fault_31 rfl (lv_at hl 0 rfl) ?_
        refine r_get hx hb hts hown hK hW (C := RX7) (T := TX7) (xF_mo0) inlX7 rfl (by decide) 11 (by decide) (by decide +kernel) xw_842 rfl (x := fa 11) rfl dX7_fault_32 ?_
        refine lv_aload_n hx hb dX7_fault_35 rfl (lv_at hl 0 rfl) ?_
        refine r_get hx hb hts hown hK hW (C := RX7) (T := TX7) (xF_mo0) inlX7 rfl (by decide) 10 (by decide) (by decide +kernel) xw_674 rfl (x := fa 10) rfl dX7_fault_36 ?_
        refine lv_icmp_ge (tgt := 62) hx hb dX7_fault_39 (by decide) (fun c_7 => ?_) (fun c_7 => ?_)
        · skip
          refine lv_aload_n hx hb dX7_fault_62 rfl (lv_at hl 0 rfl) ?_
          refine r_get hx hb hts hown hK hW (C := RX7) (T := TX7) (xF_mo0) inlX7 rfl (by decide) 12 (by decide) (by decide +kernel) xw_843 rfl (x := fa 12) rfl dX7_fault_63 ?_
          refine lv_if_eq (tgt := 76) hx hb dX7_fault_66 (by decide) (fun c_8 => ?_) (fun c_8 => absurd c_5 c_8)
          refine lv_bipush (v := (-6)) hx hb dX7_fault_76 (by decide) ?_
          obtain rfl : fa = f' := by (rw [← ho0]) <;> (have e9 : (fa, qa, ta, ua) = Mfa pp (f, pq, pt, pu) := (by unfold Mfa; rw [← hsp_24]; first | rfl | simp [MfL, c_5, c_7, Int32.not_lt.mpr c_7, c_8]); rw [← e9]; try (simp [MfR, c_5, c_7, c_8]))
          obtain rfl : qa = pq' := by (rw [← ho1]) <;> (have e9 : (fa, qa, ta, ua) = Mfa pp (f, pq, pt, pu) := (by unfold Mfa; rw [← hsp_24]; first | rfl | simp [MfL, c_5, c_7, Int32.not_lt.mpr c_7, c_8]); rw [← e9]; try (simp [MfR, c_5, c_7, c_8]))
          obtain rfl : ta = pt' := by (rw [← ho2]) <;> (have e9 : (fa, qa, ta, ua) = Mfa pp (f, pq, pt, pu) := (by unfold Mfa; rw [← hsp_24]; first | rfl | simp [MfL, c_5, c_7, Int32.not_lt.mpr c_7, c_8]); rw [← e9]; try (simp [MfR, c_5, c_7, c_8]))
          obtain rfl : ua = pu' := by (rw [← ho3]) <;> (have e9 : (fa, qa, ta, ua) = Mfa pp (f, pq, pt, pu) := (by unfold Mfa; rw [← hsp_24]; first | rfl | simp [MfL, c_5, c_7, Int32.not_lt.mpr c_7, c_8]); rw [← e9]; try (simp [MfR, c_5, c_7, c_8]))
          obtain rfl : (-6) = res := by (rw [← hres]) <;> (have e9 : (fa, qa, ta, ua) = Mfa pp (f, pq, pt, pu) := (by unfold Mfa; rw [← hsp_24]; first | rfl | simp [MfL, c_5, c_7, Int32.not_lt.mpr c_7, c_8]); rw [← e9]; try (simp [MfR, c_5, c_7, c_8]))
          rw [hQ0]
          exact x_iret hx hb hret hlocks rfl hW rfl dX7_fault_78
        · skip
          refine lv_aload_n hx hb dX7_fault_42 rfl (lv_at hl 0 rfl) ?_
          refine lv_bipush (v := 59) hx hb dX7_fault_43 (by decide) ?_
          refine x_callV hx hb hml hown hts hK hW hl.1 (c_X7_takeSign l X G (c9 := 59) (hk := hv0_24.1.n) (ho0 := rfl)) (xF_mo0).1 (xF_mo0).2.1 (by decide) rfl xw_866 xw_867 xw_868 xw_5 xw_869 hdV_yX7_takeSign ⟨Nat.le_of_ble_eq_true rfl, Nat.le_of_ble_eq_true rfl⟩ rfl (Nat.le_of_ble_eq_true rfl) ⟨Nat.le_refl _, Nat.le_refl _⟩ dX7_fault_45 (fun H locs hW => ?_)
          have hW : XR X G 12 (xMa (MtS pp 59 fa) sg L O Y pb pc pd pe pg ph pp qa ta ua) H locs := hW
          have hs9 := Mor_sgn (p := pp) (q := (fa, qa, ta, ua)) hv0_24 c_5
          refine lv_aload_n hx hb dX7_fault_48 rfl (lv_at hl 0 rfl) ?_
          refine r_get hx hb hts hown hK hW (C := RX7) (T := TX7) (xF_mo0) inlX7 rfl (by decide) 12 (by decide) (by decide +kernel) xw_843 rfl (x := (MtS pp 59 fa) 12) rfl dX7_fault_49 ?_
          refine lv_if_ne (tgt := 24) hx hb dX7_fault_52 (by decide) (fun c_9 => ?_) (fun c_9 => ?_)
          · skip
            refine ih_24 (0) (MtS pp 59 fa) qa ta ua (Or.inl c_9) (Mor_w (q := (fa, qa, ta, ua)) hs9.1 hs9.2.1 c_9) ?_ H locs ls hW (lv_sub hl [0] rfl)
            rw [← hsp_24]; simp [MfL, c_5, c_7, Int32.not_le.mp c_7, c_9]
          · skip
            have hm9 := Mor_step (p := pp) (q := (fa, qa, ta, ua)) hv0_24 c_5 c_9
            refine lv_aload_n hx hb dX7_fault_55 rfl (lv_at hl 0 rfl) ?_
            refine x_callV hx hb hml hown hts hK hW hl.1 (c_X7_takeOrder l X G  (h := hs9.1) (h0 := c_9) (h13 := hs9.2.1) (h13b := (by have h1 := (hs9.2.2.2.1 c_9).1; have h2 := hs9.1.2.2.2.1; have h3 := hs9.1.2.1; omega)) (ho0 := rfl) (ho1 := rfl) (ho2 := rfl) (ho3 := rfl)) (xF_mo0).1 (xF_mo0).2.1 (by decide) rfl xw_846 xw_847 xw_848 xw_5 xw_849 hdV_yX7_takeOrder ⟨Nat.le_of_ble_eq_true rfl, Nat.le_of_ble_eq_true rfl⟩ rfl (Nat.le_of_ble_eq_true rfl) ⟨Nat.le_refl _, Nat.le_refl _⟩ dX7_fault_56 (fun H locs hW => ?_)
            have hW : XR X G 12 (xMa ((Mord pp ((MtS pp 59 fa), qa, ta, ua)).1) sg L O Y pb pc pd pe pg ph pp ((Mord pp ((MtS pp 59 fa), qa, ta, ua)).2.1) ((Mord pp ((MtS pp 59 fa), qa, ta, ua)).2.2.1) ((Mord pp ((MtS pp 59 fa), qa, ta, ua)).2.2.2)) H locs := hW
            refine lv_goto (tgt := 24) hx hb dX7_fault_59 (by decide) ?_
            refine ih_24 (0) ((Mord pp ((MtS pp 59 fa), qa, ta, ua)).1) ((Mord pp ((MtS pp 59 fa), qa, ta, ua)).2.1) ((Mord pp ((MtS pp 59 fa), qa, ta, ua)).2.2.1) ((Mord pp ((MtS pp 59 fa), qa, ta, ua)).2.2.2) (by have e := hm9.2.2; have e2 := hm9.2.1; have e3 := hik_24.resolve_left (fun z => z c_5); dsimp only at e e2; by_cases h9 : (Mord pp (MtS pp 59 fa, qa, ta, ua)).1 12 = 0; (exact Or.inr (by rw [e2]; have := e h9; omega)); exact Or.inl h9) hm9.1 ?_ H locs ls hW (lv_sub hl [0] rfl)
            rw [← hsp_24]; simp [MfL, c_5, c_7, Int32.not_le.mp c_7, c_9]
  exact loop_24 80 0 ((Mord pp ((va_up (va_up (va_up (va_up f 11 0) 12 0) 13 0) 14 0), pq, pt, pu)).1) ((Mord pp ((va_up (va_up (va_up (va_up f 11 0) 12 0) 13 0) 14 0), pq, pt, pu)).2.1) ((Mord pp ((va_up (va_up (va_up (va_up f 11 0) 12 0) 13 0) 14 0), pq, pt, pu)).2.2.1) ((Mord pp ((va_up (va_up (va_up (va_up f 11 0) 12 0) 13 0) 14 0), pq, pt, pu)).2.2.2) (Or.inr (by have e := (Mor_0 (p := pp) (q := (f, pq, pt, pu)) hn10 hn10b).1.2.1; exact Nat.le_trans e (Nat.le_add_left 80 _))) (Mor_0 (q := (f, pq, pt, pu)) hn10 hn10b) rfl _ _ _ hW (lv_sub hl [0] rfl)
