/-! ===== a street's constructor ===== -/
section YCOPY
variable {p : Program} {l : Launch} {e : Env} {R : Room} {s : State} {m : MethodId} {args : Array Value} {below : List Frame} {meth : Method} {c : Code} {H : Heap} {locs : List Loc} {cells slots : Nat} {Q : State → Prop}
variable {pc : Nat} {ls : Array Slot} {rest : List Value} {X : xX} {sh : Nat → Nat × Nat} {n : Nat} {V : xV}
theorem x_copy1 {cc : ByteArray} (hexec : p.tables.exec = Jvm.exec) (hb : c.code = cc) (hml : c.maxLocals = ls.size) {own : String} {index : Nat} (hown : s.vm.findClass own = some m.cls) (hlink : (Cond.methodLink own index arraycopyName).before args s = true) (hnat : (Cond.native arraycopyName).before args s = true) (hstat : (Cond.static arraycopyName).before args s = true) (hini : (Cond.initialized "java/lang/System").before args s = true)
    (hK : XK X s) (hW : XH X sh n V H locs) {a0 : Addr} {c0 : Cell} {k1 n1 : Nat} {f g : Nat → Int32} (h0 : H[a0]? = some c0) (h0i : s.isArrayOf c0 .int) (h0k : c0.vm ≠ .unknown) {n0 : Nat} (h0s : n0 ≤ c0.slots.size) (h0v : ∀ j, j < n0 → c0.slots[j]? = some (.int (f j))) (hk1 : k1 < n) (hs1 : sh k1 = (8, n1)) (hg : ∀ j, j < n1 → V k1 j = .int (g j))
    {sp dp nn : Int32} {a b d : Nat} (ha : sp = nI a) (hbb : dp = nI b) (hd : nn = nI d) (hbig : n0 < 2 ^ 31 ∧ n1 < 2 ^ 31) (h4 : a + d ≤ n0) (h5 : b + d ≤ n1)
    (hframes : 1 ≤ R.frames) (hlocals : (rest.map fun v => v.category).sum + (nativeFrameWords "java/lang/System" "arraycopy" 5 + 11) ≤ R.locals) (hdg : decode cc pc = .ok (.invokestatic index, 3))
    (kk : ∀ (H1 : Heap) (locs1 : List Loc), XH X sh n (fun k j => if k = k1 then .int (va_cpy f g a b d j) else V k j) H1 locs1 → W p l e R s m args below meth c H1 locs1 cells slots Q (F0 m (pc + 3) ls rest)) : W p l e R s m args below meth c H locs cells slots Q (F0 m pc ls (.int nn :: .int dp :: .ref (xB X + k1) :: .int sp :: .ref a0 :: rest)) := by
  subst ha; subst hbb; subst hd
  have nn : ∀ z : Nat, z < 2 ^ 31 → (nI z).toInt = (z : Int) := fun z hz => nI_toInt hz
  intro T hT X0
  have e1 := hW.2.1 k1 hk1
  unfold x_at at e1
  rw [hs1, if_neg (by show ¬ (8 : Nat) < 8; omega)] at e1
  have hc1 : H[xB X + k1]? = some (arrV (X.1.1 8) n1 (fun j => .int (g j))) := by
    rw [e1]
    unfold arrV
    congr 2
    apply Array.ext
    · simp
    · intro i h1 h2
      simp at h1
      simp [hg i h1]
  obtain ⟨h0o, k0, hk0, cm0, hkk0⟩ := h0i
  obtain ⟨-, kk1, hkk1, cm1, hkk11⟩ := (hK.1.2 0 _ rfl).1 n1 (fun j => .int (g j))
  have hprim : refKind .int = false := rfl
  obtain ⟨vm', X', step⟩ := X0.arraycopy hexec hown hlink hnat hstat hini (src := a0) (dst := xB X + k1) (cs := c0) (cd := arrV (X.1.1 8) n1 (fun j => .int (g j))) (srcPos := nI a) (destPos := nI b) (n := nI d) (by rw [hT]; exact h0) (by rw [hT]; exact hc1)
    h0o (fun _ h => by cases h) h0k (fun h => by cases h) hk0 hkk1 hkk0 hkk11 (by simp [hprim]) (nI_pos (by omega)) (nI_pos (by omega)) (nI_pos (by omega))
    (by rw [nn a (by omega), nn d (by omega)]; show ¬ _ > (c0.slots.size : Int); omega)
    (by rw [nn b (by omega), nn d (by omega)]; show ¬ _ > ((arrV (X.1.1 8) n1 (fun j => .int (g j))).slots.size : Int); rw [arrV_size]; omega)
    (fun vm₁ _ i hi => by
      rw [nI_clamp (by omega)] at hi ⊢
      have e : c0.slots.getD (a + i) .null = .int (f (a + i)) := by
        rw [Array.getD_eq_getD_getElem?, h0v _ (by omega)]
        rfl
      refine ⟨?_, ?_⟩
      · rw [e]
        rfl
      · rw [e]
        exact trivial)
    (g := F0 m pc ls (.int (nI d) :: .int (nI b) :: .ref (xB X + k1) :: .int (nI a) :: .ref a0 :: rest)) rfl (by rw [hml]) (rest := rest) rfl (by rw [hb]; exact hdg) hframes (by show 2 * 0 + _ + _ ≤ _; omega)
  have hst : c0.stretch a d = (arrV (X.1.1 8) n0 (fun j => .int (f j))).stretch a d := by
    unfold Cell.stretch
    apply List.map_congr_left
    intro i hi
    have hi' := List.mem_range.mp hi
    rw [Array.getD_eq_getD_getElem?, Array.getD_eq_getD_getElem?, h0v _ (by omega), arrV_read _ _ (by omega)]
  have e2 : copied c0 (arrV (X.1.1 8) n1 (fun j => .int (g j))) (nI a) (nI b) (nI d) = arrV (X.1.1 8) n1 (fun j => .int (va_cpy f g a b d j)) := by
    have := va_copied (fun z => Value.int z) (X.1.1 8) (X.1.1 8) (n0 := n0) (n1 := n1) (sp := a) (dp := b) (n := d) f g h4
    rw [← this, ← hst]
    unfold copied
    rw [nI_clamp (by omega), nI_clamp (by omega), nI_clamp (by omega)]
  rw [e2] at X' step
  have hl : xB X + k1 < H.size := (Array.getElem?_eq_some_iff.mp hc1).1
  have hheap : ((T.setVm vm').setCell (xB X + k1) (arrV (X.1.1 8) n1 (fun j => .int (va_cpy f g a b d j)))).heap = H.setIfInBounds (xB X + k1) (arrV (X.1.1 8) n1 (fun j => .int (va_cpy f g a b d j))) := by rw [← hT]; rfl
  have oq : ∀ q : Nat, q ≠ xB X + k1 → (H.setIfInBounds (xB X + k1) (arrV (X.1.1 8) n1 (fun j => .int (va_cpy f g a b d j))))[q]? = H[q]? := fun q hq => by simp [Array.getElem?_setIfInBounds, Ne.symm hq]
  obtain ⟨t, a1, b1⟩ := kk (H.setIfInBounds (xB X + k1) (arrV (X.1.1 8) n1 (fun j => .int (va_cpy f g a b d j)))) _ ⟨by simp; exact hW.1, fun k hk => by
      by_cases ek : k = k1
      · subst ek
        unfold x_at
        rw [hs1, if_neg (by show ¬ (8 : Nat) < 8; omega)]
        simp [Array.getElem?_setIfInBounds, hl]
      · have := (hW.2.1 k hk).kept (oq (xB X + k) (fun q => ek (by omega)))
        simpa [ek] using this, fun q hq => by rw [oq q (by omega)]; exact hW.2.2.1 q hq, fun q hq => by
      rcases List.mem_append.mp hq with h | h
      · exact hW.2.2.2 q h
      · obtain ⟨z, -, hz⟩ := List.mem_map.mp h
        rw [← hz]
        exact Nat.le_add_right _ _⟩ _ hheap X'
  exact ⟨t, step t a1, b1⟩
end YCOPY
/-- what a street's cell j holds, when a lamps, c houses and d walkers are in their rows -/
def WL (B b a c d j w : Nat) : Value :=
  if j = 0 then (if w < 4 then .ref (B + (b + 1 + w)) else .int 0) else if j = 1 then .int (xf0 w) else if j = 2 then (if w < a then .ref (B + (b + 5 + w)) else .null) else if j = 3 then (if w < c then .ref (B + (b + 21 + w)) else .null)
  else if j = 4 then (if w < d then .ref (B + (b + 29 + 3 * w)) else .null) else if j < 29 then .int 0 else if (j - 29) % 3 = 0 then (if w < 2 then .ref (B + (b + j + 1 + w)) else .int 0) else .int 0
theorem WL0 {B b a c d w : Nat} : WL B b a c d 0 w = if w < 4 then .ref (B + (b + 1 + w)) else .int 0 := rfl
theorem WL1 {B b a c d w : Nat} : WL B b a c d 1 w = .int (xf0 w) := rfl
theorem WL2 {B b a c d w : Nat} : WL B b a c d 2 w = if w < a then .ref (B + (b + 5 + w)) else .null := rfl
theorem WL3 {B b a c d w : Nat} : WL B b a c d 3 w = if w < c then .ref (B + (b + 21 + w)) else .null := rfl
theorem WL4 {B b a c d w : Nat} : WL B b a c d 4 w = if w < d then .ref (B + (b + 29 + 3 * w)) else .null := rfl
theorem WL5 {B b a c d j w : Nat} (h5 : 5 ≤ j) (h : j < 29) : WL B b a c d j w = .int 0 := by
  unfold WL
  rw [if_neg (by omega), if_neg (by omega), if_neg (by omega), if_neg (by omega), if_neg (by omega), if_pos h]
theorem WLa {B b a c d i w : Nat} : WL B b a c d (29 + 3 * i) w = if w < 2 then .ref (B + (b + (29 + 3 * i) + 1 + w)) else .int 0 := by
  unfold WL
  rw [if_neg (by omega), if_neg (by omega), if_neg (by omega), if_neg (by omega), if_neg (by omega), if_neg (by omega), if_pos (by omega)]
theorem WLg {B b a c d j w : Nat} (h : 29 ≤ j) (h3 : ¬ (j - 29) % 3 = 0) : WL B b a c d j w = .int 0 := by
  unfold WL
  rw [if_neg (by omega), if_neg (by omega), if_neg (by omega), if_neg (by omega), if_neg (by omega), if_neg (by omega), if_neg h3]
def VL (B b : Nat) (V : xV) (a c d : Nat) : xV := fun k => if k < b then V k else WL B b a c d (k - b)
theorem VL_lt {B b a c d k : Nat} {V : xV} (h : k < b) : VL B b V a c d k = V k := if_pos h
theorem VL_ge {B b a c d j : Nat} {V : xV} : VL B b V a c d (b + j) = WL B b a c d j := by
  unfold VL
  rw [if_neg (by omega), show b + j - b = j by omega]
theorem VL_hd {B b a c d : Nat} {V : xV} : VL B b V a c d b = WL B b a c d 0 := VL_ge (j := 0)
theorem dv1 : ∀ w, w < 2 → defaultValue (tyX1 w) = .int 0 := by
  intro w h
  rcases (show w = 0 ∨ w = 1 by omega) with rfl | rfl <;> rfl
theorem dv2 : ∀ w, w < 13 → defaultValue (tyX2 w) = .int 0 := by
  intro w h
  rcases (show w = 0 ∨ w = 1 ∨ w = 2 ∨ w = 3 ∨ w = 4 ∨ w = 5 ∨ w = 6 ∨ w = 7 ∨ w = 8 ∨ w = 9 ∨ w = 10 ∨ w = 11 ∨ w = 12 by omega) with rfl | rfl | rfl | rfl | rfl | rfl | rfl | rfl | rfl | rfl | rfl | rfl | rfl <;> rfl
theorem dv5 : ∀ w, 2 ≤ w → w < 9 → defaultValue (tyX5 w) = .int 0 := by
  intro w h h2
  rcases (show w = 2 ∨ w = 3 ∨ w = 4 ∨ w = 5 ∨ w = 6 ∨ w = 7 ∨ w = 8 by omega) with rfl | rfl | rfl | rfl | rfl | rfl | rfl <;> rfl
theorem va_up_of {α : Type} {F : Nat → α} {i k : Nat} {v : α} (h : k = i) : va_up F i v k = v := by subst h; exact va_up_at
theorem xup2_key {V : xV} {k j key w : Nat} {v : Value} (h : k ≠ key) : xup2 V key w v k j = V k j := by unfold xup2; rw [if_neg h]
theorem xup2_at {V : xV} {key w : Nat} {v : Value} : xup2 V key w v key w = v := by simp [xup2]
theorem xup2_slot {V : xV} {key j w : Nat} {v : Value} (h : j ≠ w) : xup2 V key w v key j = V key j := by simp [xup2, h]
theorem k5 {b k : Nat} (h : b ≤ k) (h5 : k < b + 5) : k = b ∨ k = b + 1 ∨ k = b + 2 ∨ k = b + 3 ∨ k = b + 4 := by omega
/-- the rows are laid, none is filled -/
theorem VL_rows {B b : Nat} {V : xV} (hV : ∀ w, 4 ≤ w → w < 8 → V b w = .int 0) : ∀ k j, k < b + 5 → (k = b → j < 8) → (k = b + 1 → j < 6) →
    (fun k' j' => if k' = b + 1 then Value.int (va_cpy xf0 (fun _ => 0) 0 0 6 j') else xup2 (va_up (xup2 (va_up (xup2 (va_up (xup2 (va_up V (b + 1) (fun _ => .int 0)) b 0 (.ref (B + (b + 1)))) (b + 2) (fun _ => .null)) b 1 (.ref (B + (b + 2)))) (b + 3) (fun _ => .null)) b 2 (.ref (B + (b + 3)))) (b + 4) (fun _ => .null)) b 3 (.ref (B + (b + 4))) k' j') k j = VL B b V 0 0 0 k j := by
  intro k j hk hj hj6
  dsimp only
  by_cases hb : k < b
  · rw [VL_lt hb, if_neg (by omega), xup2_key (by omega), va_up_ne _ _ (by omega), xup2_key (by omega), va_up_ne _ _ (by omega), xup2_key (by omega), va_up_ne _ _ (by omega), xup2_key (by omega), va_up_ne _ _ (by omega)]
  · rcases k5 (Nat.not_lt.mp hb) hk with rfl | rfl | rfl | rfl | rfl
    · have e : VL B k V 0 0 0 k = WL B k 0 0 0 0 := VL_ge (j := 0)
      rw [e, if_neg (by omega)]
      have hj := hj rfl
      rw [WL0]
      by_cases h3 : j = 3
      · subst h3; rw [xup2_at]; rfl
      · rw [xup2_slot h3, va_up_ne _ _ (by omega)]
        by_cases h2 : j = 2
        · subst h2; rw [xup2_at]; rfl
        · rw [xup2_slot h2, va_up_ne _ _ (by omega)]
          by_cases h1 : j = 1
          · subst h1; rw [xup2_at]; rfl
          · rw [xup2_slot h1, va_up_ne _ _ (by omega)]
            by_cases h0 : j = 0
            · subst h0; rw [xup2_at]; rfl
            · rw [xup2_slot h0, va_up_ne _ _ (by omega), if_neg (by omega)]
              exact hV j (by omega) hj
    · have hj6 := hj6 rfl
      rw [if_pos rfl, VL_ge, WL1]
      unfold va_cpy
      rw [if_pos (by omega), show 0 + (j - 0) = j by omega]
    · rw [if_neg (by omega), VL_ge, xup2_key (by omega), va_up_ne _ _ (by omega), xup2_key (by omega), va_up_ne _ _ (by omega), xup2_key (by omega), va_up_at]
      rfl
    · rw [if_neg (by omega), VL_ge, xup2_key (by omega), va_up_ne _ _ (by omega), xup2_key (by omega), va_up_at]
      rfl
    · rw [if_neg (by omega), VL_ge, xup2_key (by omega), va_up_at]
      rfl
/-- a lamp, a house more -/
theorem VL_lamp {B b i : Nat} {V : xV} {w0 : Nat → Value} (hi : i < 16) (hw : ∀ j, j < 13 → w0 j = .int 0) : ∀ k j, k < b + 5 + i + 1 → (k = b + 5 + i → j < 13) → xup2 (va_up (VL B b V i 0 0) (b + 5 + i) w0) (b + 2) i (.ref (B + (b + 5 + i))) k j = VL B b V (i + 1) 0 0 k j := by
  intro k j hk hj
  by_cases hb : k < b
  · rw [VL_lt hb, xup2_key (by omega), va_up_ne _ _ (by omega), VL_lt hb]
  · obtain ⟨t, rfl⟩ : ∃ t, k = b + t := ⟨k - b, by omega⟩
    rw [VL_ge]
    by_cases h2 : t = 2
    · subst h2
      by_cases c : j = i
      · subst c
        rw [xup2_at, WL2, if_pos (by omega)]
      · rw [xup2_slot c, va_up_ne _ _ (by omega), VL_ge]
        rw [WL2, WL2]
        by_cases d : j < i
        · rw [if_pos d, if_pos (by omega)]
        · rw [if_neg d, if_neg (by omega)]
    · rw [xup2_key (by omega)]
      by_cases h5 : t = 5 + i
      · rw [va_up_of (by omega), hw j (hj (by omega)), WL5 (by omega) (by omega)]
      · rw [va_up_ne _ _ (by omega), VL_ge]
        unfold WL
        rw [if_neg h2, if_neg h2]
theorem VL_house {B b i : Nat} {V : xV} {w0 : Nat → Value} (hi : i < 8) (hw : ∀ j, j < 2 → w0 j = .int 0) : ∀ k j, k < b + 21 + i + 1 → (k = b + 21 + i → j < 2) → xup2 (va_up (VL B b V 16 i 0) (b + 21 + i) w0) (b + 3) i (.ref (B + (b + 21 + i))) k j = VL B b V 16 (i + 1) 0 k j := by
  intro k j hk hj
  by_cases hb : k < b
  · rw [VL_lt hb, xup2_key (by omega), va_up_ne _ _ (by omega), VL_lt hb]
  · obtain ⟨t, rfl⟩ : ∃ t, k = b + t := ⟨k - b, by omega⟩
    rw [VL_ge]
    by_cases h2 : t = 3
    · subst h2
      by_cases c : j = i
      · subst c
        rw [xup2_at, WL3, if_pos (by omega)]
      · rw [xup2_slot c, va_up_ne _ _ (by omega), VL_ge]
        rw [WL3, WL3]
        by_cases d : j < i
        · rw [if_pos d, if_pos (by omega)]
        · rw [if_neg d, if_neg (by omega)]
    · rw [xup2_key (by omega)]
      by_cases h5 : t = 21 + i
      · rw [va_up_of (by omega), hw j (hj (by omega)), WL5 (by omega) (by omega)]
      · rw [va_up_ne _ _ (by omega), VL_ge]
        unfold WL
        rw [if_neg h2, if_neg h2]
theorem VL_walker {B b i : Nat} {V : xV} {w0 : Nat → Value} (hi : i < 8) : ∀ k j, k < b + 29 + 3 * i + 3 → xup2 (VW B (b + 29 + 3 * i) (va_up (VL B b V 16 8 i) (b + 29 + 3 * i) w0)) (b + 4) i (.ref (B + (b + 29 + 3 * i))) k j = VL B b V 16 8 (i + 1) k j := by
  intro k j hk
  by_cases hb : k < b
  · rw [VL_lt hb, xup2_key (by omega)]
    unfold VW
    rw [if_neg (by omega), if_neg (by omega), va_up_ne _ _ (by omega), VL_lt hb]
  · obtain ⟨t, rfl⟩ : ∃ t, k = b + t := ⟨k - b, by omega⟩
    rw [VL_ge]
    by_cases h2 : t = 4
    · subst h2
      by_cases c : j = i
      · subst c
        rw [xup2_at, WL4, if_pos (by omega)]
      · rw [xup2_slot c]
        unfold VW
        rw [if_neg (by omega), if_neg (by omega), va_up_ne _ _ (by omega), VL_ge]
        rw [WL4, WL4]
        by_cases d : j < i
        · rw [if_pos d, if_pos (by omega)]
        · rw [if_neg d, if_neg (by omega)]
    · rw [xup2_key (by omega)]
      unfold VW
      by_cases h5 : t = 29 + 3 * i
      · subst h5
        rw [if_pos (by omega), WLa]
        by_cases q : j < 2
        · have e : b + 29 + 3 * i + 1 + j = b + (29 + 3 * i) + 1 + j := by omega
          simp only [if_pos q, e]
        · rw [if_neg q, if_neg q]
      · rw [if_neg (by omega)]
        by_cases h6 : t = 29 + 3 * i + 1 ∨ t = 29 + 3 * i + 2
        · rw [if_pos (by omega), WLg (by omega) (by omega)]
        · rw [if_neg (by omega), va_up_ne _ _ (by omega), VL_ge]
          unfold WL
          rw [if_neg h2, if_neg h2]
set_option maxHeartbeats 4000000 in
theorem n_X4 (l : Launch) (X : xX) {b : Nat} {V : xV} (hsh : ∀ j, j < 53 → xsh (b + j) = xssh j) (hV : ∀ w, 4 ≤ w → w < 8 → V b w = .int 0) : YC l yX4_init cX4_init 2 none 2 40 52 430 X xsh [.ref (xB X + b)] (b + 1) (b + 53) V (VL (xB X) b V 16 8 8) none := by
  refine YC.of RX4 "<init>" [(0, .ref (xB X + b))] (by decide) rfl rfl (Nat.le_of_ble_eq_true rfl) rfl ?_
  intro p e s m args below meth c ls hx hb hret hml hts hown hlocks hnm hK hW hl
  obtain ⟨Q0, hQ0⟩ : ∃ z, z = MQ below (xQ X xsh (b + 53) (VL (xB X) b V 16 8 8) none) args s 52 430 (fun q => xB X ≤ q) := ⟨_, rfl⟩
  rw [← hQ0]
  have h0 : xsh b = (4, 8) := hsh 0 (by omega)
  have h1 : xsh (b + 1) = (8, 6) := hsh 1 (by omega)
  have h2 : xsh (b + 2) = (12, 16) := hsh 2 (by omega)
  have h3 : xsh (b + 3) = (13, 8) := hsh 3 (by omega)
  have h4 : xsh (b + 4) = (14, 8) := hsh 4 (by omega)
  refine lv_aload_n hx hb dX4_init_0 rfl (lv_at hl 0 rfl) ?_
  refine y_obj hx hb hown hts xw_32 (hl.1.trans hml.symm) dX4_init_1 (Nat.le_of_ble_eq_true rfl) (Nat.le_of_ble_eq_true rfl) ?_
  refine lv_aload_n hx hb dX4_init_4 rfl (lv_at hl 0 rfl) ?_
  refine lv_bipush (v := nI 6) hx hb dX4_init_5 (by decide) ?_
  refine y_newa (ty := .int) hx hb rfl (hts _ xw_33) (hK.1.1.2 0 _ rfl).2 rfl hW h1 (by decide) rfl (by omega) (Nat.le_of_ble_eq_true rfl) (Nat.le_of_ble_eq_true rfl) (Nat.le_of_ble_eq_true rfl) dX4_init_7 (fun H hW => ?_)
  refine y_putF (C := RX4) (T := TX4) hx hb hts inlX4 tyX4 tyX4_ok nmX4 hown hK.1 hW (show b < _ by omega) h0 (by decide) rfl 0 (by decide) xw_34 rfl rfl hnm rfl rfl rfl dX4_init_9 (fun H locs hW => ?_)
  refine lv_aload_n hx hb dX4_init_12 rfl (lv_at hl 0 rfl) ?_
  refine lv_bipush (v := nI 16) hx hb dX4_init_13 (by decide) ?_
  obtain ⟨kA_12, comp_12, -, -, -, nm_12⟩ := (hK.1.1.2 4 _ rfl).2
  refine y_newq hx hb hown (hts _ xw_35) hK.2.2.1 nm_12 hW h2 (by decide) rfl (by omega) (by omega) (Nat.le_of_ble_eq_true rfl) (Nat.le_of_ble_eq_true rfl) dX4_init_15 (fun H hW => ?_)
  refine y_putF (C := RX4) (T := TX4) hx hb hts inlX4 tyX4 tyX4_ok nmX4 hown hK.1 hW (show b < _ by omega) h0 (by decide) rfl 1 (by decide) xw_36 rfl rfl hnm rfl rfl rfl dX4_init_18 (fun H locs hW => ?_)
  refine lv_aload_n hx hb dX4_init_21 rfl (lv_at hl 0 rfl) ?_
  refine lv_bipush (v := nI 8) hx hb dX4_init_22 (by decide) ?_
  obtain ⟨kA_21, comp_21, -, -, -, nm_21⟩ := (hK.1.1.2 5 _ rfl).2
  refine y_newq hx hb hown (hts _ xw_37) hK.2.2.2.1 nm_21 hW h3 (by decide) rfl (by omega) (by omega) (Nat.le_of_ble_eq_true rfl) (Nat.le_of_ble_eq_true rfl) dX4_init_24 (fun H hW => ?_)
  refine y_putF (C := RX4) (T := TX4) hx hb hts inlX4 tyX4 tyX4_ok nmX4 hown hK.1 hW (show b < _ by omega) h0 (by decide) rfl 2 (by decide) xw_38 rfl rfl hnm rfl rfl rfl dX4_init_27 (fun H locs hW => ?_)
  refine lv_aload_n hx hb dX4_init_30 rfl (lv_at hl 0 rfl) ?_
  refine lv_bipush (v := nI 8) hx hb dX4_init_31 (by decide) ?_
  obtain ⟨kA_30, comp_30, -, -, -, nm_30⟩ := (hK.1.1.2 6 _ rfl).2
  refine y_newq hx hb hown (hts _ xw_39) hK.2.2.2.2 nm_30 hW h4 (by decide) rfl (by omega) (by omega) (Nat.le_of_ble_eq_true rfl) (Nat.le_of_ble_eq_true rfl) dX4_init_33 (fun H hW => ?_)
  refine y_putF (C := RX4) (T := TX4) hx hb hts inlX4 tyX4 tyX4_ok nmX4 hown hK.1 hW (show b < _ by omega) h0 (by decide) rfl 3 (by decide) xw_40 rfl rfl hnm rfl rfl rfl dX4_init_36 (fun H locs hW => ?_)
  refine x_getsN hx hb hown hK.1 hK.1.2.1 hW (by simp [xNestF]) dX4_init_39 ?_
  refine lv_iconst (v := nI 0) hx hb dX4_init_42 (by decide) ?_
  refine lv_aload_n hx hb dX4_init_43 rfl (lv_at hl 0 rfl) ?_
  refine x_get (C := RX4) (T := TX4) hx hb hts inlX4 hown hK.1 hW (show b < _ by omega) h0 (by decide) rfl 0 (by decide) xw_34 rfl (v := .ref (xB X + (b + 1))) ?_ dX4_init_44 ?_
  · have e : ∀ k, k = b → ¬ k = b + 4 ∧ ¬ k = b + 3 ∧ ¬ k = b + 2 := fun k hk => ⟨by omega, by omega, by omega⟩
    rw [xup2_slot (by decide), va_up_ne _ _ (by omega), xup2_slot (by decide), va_up_ne _ _ (by omega), xup2_slot (by decide), va_up_ne _ _ (by omega), xup2_at]
  refine lv_iconst (v := nI 0) hx hb dX4_init_47 (by decide) ?_
  refine lv_bipush (v := nI 6) hx hb dX4_init_48 (by decide) ?_
  obtain ⟨cell0, z1, z2, z3, z4, z5, z6, z7⟩ := hK.1.2.1.2
  refine x_copy1 hx hb (hml.trans hl.1.symm) hown (hts _ xw_41) (hts _ xw_42) (hts _ xw_43) (hts _ xw_44) hK.1 hW (c0 := cell0) (k1 := b + 1) (n1 := 6) (f := xf0) (g := fun _ => 0) (n0 := 6) (by rw [hW.2.2.1 _ (by omega)]; exact z1) z2 z3 z4 z6 (by omega) h1 ?_ (a := 0) (b := 0) (d := 6) rfl rfl rfl ⟨by omega, by omega⟩ (by omega) (by omega) (Nat.le_of_ble_eq_true rfl) (Nat.le_of_ble_eq_true rfl) dX4_init_50 (fun H locs hW => ?_)
  · intro j hj
    rw [xup2_key (by omega), va_up_ne _ _ (by omega), xup2_key (by omega), va_up_ne _ _ (by omega), xup2_key (by omega), va_up_ne _ _ (by omega), xup2_key (by omega), va_up_at]
  have hW : XH X xsh (b + 5 + 0) (VL (xB X) b V 0 0 0) H locs := hW.to (fun k hk j hj => VL_rows hV k j hk (fun e => by subst e; rw [h0] at hj; exact hj) (fun e => by subst e; rw [h1] at hj; exact hj))
  refine lv_iconst (v := nI 0) hx hb dX4_init_53 (by decide) ?_
  refine lv_istore_n (lv' := [(1, .int (nI 0)), (0, .ref (xB X + b))]) hx hb dX4_init_54 rfl hl (by decide) rfl (fun ls hl => ?_)
  have loop3 : ∀ (k i : Nat), i + k = 8 → ∀ (H : Heap) (locs : List Loc) (ls : Array Slot), XH X xsh (b + 29 + 3 * i) (VL (xB X) b V 16 8 i) H locs → lv_has ls 2 [(1, .int (nI i)), (0, .ref (xB X + b))] → W p l e { frames := 2, cells := 52, slots := 430, locals := 40 } s m args below meth c H locs (28 + 3 * i) (262 + 21 * i) Q0 (F0 m 109 ls []) := by
    intro k
    induction k with
    | zero =>
      intro i hik H locs ls hW hl
      refine lv_iload_n hx hb dX4_init_109 rfl (lv_at hl 0 rfl) ?_
      refine lv_bipush (v := nI 8) hx hb dX4_init_110 (by decide) ?_
      refine lv_icmp_ge (tgt := 134) hx hb dX4_init_112 (by decide) (fun _ => ?_) (fun c => absurd (xge_refl (by omega)) c)
      obtain rfl : i = 8 := by omega
      rw [hQ0]
      exact x_vret hx hb hret hlocks hW rfl dX4_init_134
    | succ k ih =>
      intro i hik H locs ls hW hl
      have hsz : xsh (b + 29 + 3 * i) = (5, 9) := by rw [show b + 29 + 3 * i = b + (29 + 3 * i) by omega, hsh _ (by omega)]; exact (show ∀ i, i < 8 → xssh (29 + 3 * i) = (5, 9) from by decide +kernel) i (by omega)
      have hs1 : xsh (b + 29 + 3 * i + 1) = (8, 6) := by rw [show b + 29 + 3 * i + 1 = b + (29 + 3 * i + 1) by omega, hsh _ (by omega)]; exact (show ∀ i, i < 8 → xssh (29 + 3 * i + 1) = (8, 6) from by decide +kernel) i (by omega)
      have hs2 : xsh (b + 29 + 3 * i + 2) = (8, 6) := by rw [show b + 29 + 3 * i + 2 = b + (29 + 3 * i + 2) by omega, hsh _ (by omega)]; exact (show ∀ i, i < 8 → xssh (29 + 3 * i + 2) = (8, 6) from by decide +kernel) i (by omega)
      refine lv_iload_n hx hb dX4_init_109 rfl (lv_at hl 0 rfl) ?_
      refine lv_bipush (v := nI 8) hx hb dX4_init_110 (by decide) ?_
      refine lv_icmp_ge (tgt := 134) hx hb dX4_init_112 (by decide) (fun c => absurd c (nI_ge (by omega) (by omega))) (fun _ => ?_)
      refine lv_aload_n hx hb dX4_init_115 rfl (lv_at hl 1 rfl) ?_
      refine x_get (C := RX4) (T := TX4) hx hb hts inlX4 hown hK.1 hW (show b < _ by omega) h0 (by decide) rfl 3 (by decide) xw_40 rfl (v := .ref (xB X + (b + 4))) (by rw [VL_hd]; rfl) dX4_init_116 ?_
      refine lv_iload_n hx hb dX4_init_119 rfl (lv_at hl 0 rfl) ?_
      refine y_new (C := RX5) (T := TX5) hx hb hts inlX5 tyX5 tyX5_ok hown xw_39 xw_49 xw_50 hK.1 hW hsz (by decide) rfl (show 28 + 3 * i + 1 ≤ 52 by omega) (show 262 + 21 * i + 9 ≤ 430 by omega) dX4_init_120 (fun H hW => ?_)
      refine lv_dup hx hb dX4_init_123 rfl ?_
      refine y_callIN hx hb hml hown hts hK hW hl.1 (n_X5 l X hsz hs1 hs2 (fun w h2 h9 => by rw [va_up_at]; exact dv5 w h2 h9)) (by simp [xNestM]) xw_57 xw_50 xw_58 rfl (by decide +kernel) ⟨Nat.le_of_ble_eq_true rfl, Nat.le_of_ble_eq_true rfl⟩ rfl (Nat.le_of_ble_eq_true rfl) ⟨(show 28 + 3 * i + 1 + 2 ≤ 52 by omega), (show 262 + 21 * i + 9 + 12 ≤ 430 by omega)⟩ dX4_init_124 (fun H locs hW => ?_)
      refine y_astq (t0 := 6) (T := TX5) hx hb hK.1 hW (show b + 4 < _ by omega) h4 (by decide) rfl (show b + 29 + 3 * i < _ by omega) hsz (by decide) rfl (vp_in_nI (show i < 8 by omega) (by omega)) dX4_init_127 (fun H locs hW => ?_)
      rw [nI_clamp (by omega)] at hW
      have hW : XH X xsh (b + 29 + 3 * (i + 1)) (VL (xB X) b V 16 8 (i + 1)) H locs := by rw [show b + 29 + 3 * (i + 1) = b + 29 + 3 * i + 3 by omega]; exact hW.to (fun k hk j _ => VL_walker (by omega) k j hk)
      refine lv_iinc (v := nI (i + 1)) (lv' := [(1, .int (nI (i + 1))), (0, .ref (xB X + b))]) hx hb dX4_init_128 hl (k := 0) rfl (nI_1 i) (by decide) rfl (fun ls hl => ?_)
      refine lv_goto (tgt := 109) hx hb dX4_init_131 (by decide) ?_
      have := ih (i + 1) (by omega) H locs ls hW hl
      rw [show 28 + 3 * (i + 1) = 28 + 3 * i + 1 + 2 by omega, show 262 + 21 * (i + 1) = 262 + 21 * i + 9 + 12 by omega] at this
      exact this
  have loop2 : ∀ (k i : Nat), i + k = 8 → ∀ (H : Heap) (locs : List Loc) (ls : Array Slot), XH X xsh (b + 21 + i) (VL (xB X) b V 16 i 0) H locs → lv_has ls 2 [(1, .int (nI i)), (0, .ref (xB X + b))] → W p l e { frames := 2, cells := 52, slots := 430, locals := 40 } s m args below meth c H locs (20 + i) (246 + 2 * i) Q0 (F0 m 82 ls []) := by
    intro k
    induction k with
    | zero =>
      intro i hik H locs ls hW hl
      refine lv_iload_n hx hb dX4_init_82 rfl (lv_at hl 0 rfl) ?_
      refine lv_bipush (v := nI 8) hx hb dX4_init_83 (by decide) ?_
      refine lv_icmp_ge (tgt := 107) hx hb dX4_init_85 (by decide) (fun _ => ?_) (fun c => absurd (xge_refl (by omega)) c)
      obtain rfl : i = 8 := by omega
      refine lv_iconst (v := nI 0) hx hb dX4_init_107 (by decide) ?_
      refine lv_istore_n (lv' := [(1, .int (nI 0)), (0, .ref (xB X + b))]) hx hb dX4_init_108 rfl hl (by decide) rfl (fun ls hl => ?_)
      exact loop3 8 0 (by omega) H locs ls hW hl
    | succ k ih =>
      intro i hik H locs ls hW hl
      have hsz : xsh (b + 21 + i) = (1, 2) := by rw [show b + 21 + i = b + (21 + i) by omega, hsh _ (by omega)]; exact (show ∀ i, i < 8 → xssh (21 + i) = (1, 2) from by decide +kernel) i (by omega)
      refine lv_iload_n hx hb dX4_init_82 rfl (lv_at hl 0 rfl) ?_
      refine lv_bipush (v := nI 8) hx hb dX4_init_83 (by decide) ?_
      refine lv_icmp_ge (tgt := 107) hx hb dX4_init_85 (by decide) (fun c => absurd c (nI_ge (by omega) (by omega))) (fun _ => ?_)
      refine lv_aload_n hx hb dX4_init_88 rfl (lv_at hl 1 rfl) ?_
      refine x_get (C := RX4) (T := TX4) hx hb hts inlX4 hown hK.1 hW (show b < _ by omega) h0 (by decide) rfl 2 (by decide) xw_38 rfl (v := .ref (xB X + (b + 3))) (by rw [VL_hd]; rfl) dX4_init_89 ?_
      refine lv_iload_n hx hb dX4_init_92 rfl (lv_at hl 0 rfl) ?_
      refine y_new (C := RX1) (T := TX1) hx hb hts inlX1 tyX1 tyX1_ok hown xw_37 xw_47 xw_48 hK.1 hW hsz (by decide) rfl (show 20 + i + 1 ≤ 52 by omega) (show 246 + 2 * i + 2 ≤ 430 by omega) dX4_init_93 (fun H hW => ?_)
      refine lv_dup hx hb dX4_init_96 rfl ?_
      refine y_callIN hx hb hml hown hts hK hW hl.1 (n_X1 l X) (by simp [xNestM]) xw_54 xw_48 xw_55 rfl (by decide +kernel) ⟨Nat.le_of_ble_eq_true rfl, Nat.le_of_ble_eq_true rfl⟩ rfl (Nat.le_of_ble_eq_true rfl) ⟨(show 20 + i + 1 + 0 ≤ 52 by omega), (show 246 + 2 * i + 2 + 0 ≤ 430 by omega)⟩ dX4_init_97 (fun H locs hW => ?_)
      refine y_astq (t0 := 5) (T := TX1) hx hb hK.1 hW (show b + 3 < _ by omega) h3 (by decide) rfl (show b + 21 + i < _ by omega) hsz (by decide) rfl (vp_in_nI (show i < 8 by omega) (by omega)) dX4_init_100 (fun H locs hW => ?_)
      rw [nI_clamp (by omega)] at hW
      have hW : XH X xsh (b + 21 + (i + 1)) (VL (xB X) b V 16 (i + 1) 0) H locs := hW.to (fun k hk j hj => VL_house (by omega) dv1 k j hk (fun e => by subst e; rw [hsz] at hj; exact hj))
      refine lv_iinc (v := nI (i + 1)) (lv' := [(1, .int (nI (i + 1))), (0, .ref (xB X + b))]) hx hb dX4_init_101 hl (k := 0) rfl (nI_1 i) (by decide) rfl (fun ls hl => ?_)
      refine lv_goto (tgt := 82) hx hb dX4_init_104 (by decide) ?_
      have := ih (i + 1) (by omega) H locs ls hW hl
      rw [show 20 + (i + 1) = 20 + i + 1 by omega, show 246 + 2 * (i + 1) = 246 + 2 * i + 2 by omega] at this
      exact this
  have loop1 : ∀ (k i : Nat), i + k = 16 → ∀ (H : Heap) (locs : List Loc) (ls : Array Slot), XH X xsh (b + 5 + i) (VL (xB X) b V i 0 0) H locs → lv_has ls 2 [(1, .int (nI i)), (0, .ref (xB X + b))] → W p l e { frames := 2, cells := 52, slots := 430, locals := 40 } s m args below meth c H locs (4 + i) (38 + 13 * i) Q0 (F0 m 55 ls []) := by
    intro k
    induction k with
    | zero =>
      intro i hik H locs ls hW hl
      refine lv_iload_n hx hb dX4_init_55 rfl (lv_at hl 0 rfl) ?_
      refine lv_bipush (v := nI 16) hx hb dX4_init_56 (by decide) ?_
      refine lv_icmp_ge (tgt := 80) hx hb dX4_init_58 (by decide) (fun _ => ?_) (fun c => absurd (xge_refl (by omega)) c)
      obtain rfl : i = 16 := by omega
      refine lv_iconst (v := nI 0) hx hb dX4_init_80 (by decide) ?_
      refine lv_istore_n (lv' := [(1, .int (nI 0)), (0, .ref (xB X + b))]) hx hb dX4_init_81 rfl hl (by decide) rfl (fun ls hl => ?_)
      exact loop2 8 0 (by omega) H locs ls hW hl
    | succ k ih =>
      intro i hik H locs ls hW hl
      have hsz : xsh (b + 5 + i) = (2, 13) := by rw [show b + 5 + i = b + (5 + i) by omega, hsh _ (by omega)]; exact (show ∀ i, i < 16 → xssh (5 + i) = (2, 13) from by decide +kernel) i (by omega)
      refine lv_iload_n hx hb dX4_init_55 rfl (lv_at hl 0 rfl) ?_
      refine lv_bipush (v := nI 16) hx hb dX4_init_56 (by decide) ?_
      refine lv_icmp_ge (tgt := 80) hx hb dX4_init_58 (by decide) (fun c => absurd c (nI_ge (by omega) (by omega))) (fun _ => ?_)
      refine lv_aload_n hx hb dX4_init_61 rfl (lv_at hl 1 rfl) ?_
      refine x_get (C := RX4) (T := TX4) hx hb hts inlX4 hown hK.1 hW (show b < _ by omega) h0 (by decide) rfl 1 (by decide) xw_36 rfl (v := .ref (xB X + (b + 2))) (by rw [VL_hd]; rfl) dX4_init_62 ?_
      refine lv_iload_n hx hb dX4_init_65 rfl (lv_at hl 0 rfl) ?_
      refine y_new (C := RX2) (T := TX2) hx hb hts inlX2 tyX2 tyX2_ok hown xw_35 xw_45 xw_46 hK.1 hW hsz (by decide) rfl (show 4 + i + 1 ≤ 52 by omega) (show 38 + 13 * i + 13 ≤ 430 by omega) dX4_init_66 (fun H hW => ?_)
      refine lv_dup hx hb dX4_init_69 rfl ?_
      refine y_callIN hx hb hml hown hts hK hW hl.1 (n_X2 l X) (by simp [xNestM]) xw_51 xw_46 xw_52 rfl (by decide +kernel) ⟨Nat.le_of_ble_eq_true rfl, Nat.le_of_ble_eq_true rfl⟩ rfl (Nat.le_of_ble_eq_true rfl) ⟨(show 4 + i + 1 + 0 ≤ 52 by omega), (show 38 + 13 * i + 13 + 0 ≤ 430 by omega)⟩ dX4_init_70 (fun H locs hW => ?_)
      refine y_astq (t0 := 4) (T := TX2) hx hb hK.1 hW (show b + 2 < _ by omega) h2 (by decide) rfl (show b + 5 + i < _ by omega) hsz (by decide) rfl (vp_in_nI (show i < 16 by omega) (by omega)) dX4_init_73 (fun H locs hW => ?_)
      rw [nI_clamp (by omega)] at hW
      have hW : XH X xsh (b + 5 + (i + 1)) (VL (xB X) b V (i + 1) 0 0) H locs := hW.to (fun k hk j hj => VL_lamp (by omega) dv2 k j hk (fun e => by subst e; rw [hsz] at hj; exact hj))
      refine lv_iinc (v := nI (i + 1)) (lv' := [(1, .int (nI (i + 1))), (0, .ref (xB X + b))]) hx hb dX4_init_74 hl (k := 0) rfl (nI_1 i) (by decide) rfl (fun ls hl => ?_)
      refine lv_goto (tgt := 55) hx hb dX4_init_77 (by decide) ?_
      have := ih (i + 1) (by omega) H locs ls hW hl
      rw [show 4 + (i + 1) = 4 + i + 1 by omega, show 38 + 13 * (i + 1) = 38 + 13 * i + 13 by omega] at this
      exact this
  exact loop1 16 0 (by omega) H locs ls hW hl
