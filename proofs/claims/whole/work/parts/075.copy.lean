/-! ===== System.arraycopy between int arrays of the world; switches ===== -/
theorem x_nt {x k : Int32} {z : Int} (h : ¬ x = k) (hz : k.toInt = z) : ¬ x.toInt = z := fun q => h (Int32.toInt_inj.mp (q.trans hz.symm))
theorem x_nt2 {x k : Int32} {z : Int} (h : ¬ x = k) (hz : k.toInt = z) : ¬ z = x.toInt := fun q => x_nt h hz q.symm
theorem x_tabout {x : Int32} {lo hi : Int} (h : ∀ z : Int, lo ≤ z → z ≤ hi → ¬ x.toInt = z) : x.toInt < lo ∨ hi < x.toInt := by
  by_cases h1 : x.toInt < lo
  · exact Or.inl h1
  · by_cases h2 : hi < x.toInt
    · exact Or.inr h2
    · exact absurd rfl (h x.toInt (by omega) (by omega))
section XCOPY
variable {p : Program} {l : Launch} {e : Env} {R : Room} {s : State} {m : MethodId} {args : Array Value} {below : List Frame} {meth : Method} {c : Code} {H : Heap} {locs : List Loc} {cells slots : Nat} {Q : State → Prop}
variable {pc : Nat} {ls : Array Slot} {rest : List Value} {X : xX} {sh : Nat → Nat × Nat} {n : Nat} {V : xV}
theorem x_copy0 {cc : ByteArray} (hexec : p.tables.exec = Jvm.exec) (hb : c.code = cc) (hml : c.maxLocals = ls.size) {own : String} {index : Nat} (hown : s.vm.findClass own = some m.cls) (hlink : (Cond.methodLink own index arraycopyName).before args s = true) (hnat : (Cond.native arraycopyName).before args s = true) (hstat : (Cond.static arraycopyName).before args s = true) (hini : (Cond.initialized "java/lang/System").before args s = true)
    (hK : XK X s) (hW : XH X sh n V H locs) {a0 : Addr} {c0 : Cell} {k1 n1 : Nat} {f g : Nat → Int32} (h0 : H[a0]? = some c0) (h0i : s.isArrayOf c0 .int) (h0k : c0.vm ≠ .unknown) {n0 : Nat} (h0s : c0.slots.size = n0) (h0v : ∀ j, j < n0 → c0.slots[j]? = some (.int (f j))) (hk1 : k1 < n) (hs1 : sh k1 = (8, n1)) (hg : ∀ j, j < n1 → V k1 j = .int (g j))
    {sp dp nn : Int32} {a b d : Nat} (ha : sp = nI a) (hbb : dp = nI b) (hd : nn = nI d) (hbig : n0 < 2 ^ 31 ∧ n1 < 2 ^ 31) (h4 : a + d ≤ n0) (h5 : b + d ≤ n1)
    (hframes : 1 ≤ R.frames) (hlocals : (rest.map fun v => v.category).sum + (nativeFrameWords "java/lang/System" "arraycopy" 5 + 11) ≤ R.locals) (hdg : decode cc pc = .ok (.invokestatic index, 3))
    (kk : ∀ (H1 : Heap) (locs1 : List Loc), XH X sh n (fun k j => if k = k1 then .int (va_cpy f g a b d j) else V k j) H1 locs1 → W p l e R s m args below meth c H1 locs1 cells slots Q (F0 m (pc + 3) ls rest)) : W p l e R s m args below meth c H locs cells slots Q (F0 m pc ls (.int nn :: .int dp :: .ref (xB X + k1) :: .int sp :: .ref a0 :: rest)) := by
  subst ha; subst hbb; subst hd
  have nn : ∀ z : Nat, z < 2 ^ 31 → (nI z).toInt = (z : Int) := fun z hz => nI_toInt hz
  intro T hT X0
  have e1 := hW.2.1 k1 hk1
  unfold x_at at e1
  rw [hs1, if_neg (by show ¬ (8 : Nat) < 8; omega)] at e1
  have hc1 : H[xB X + k1]? = some (arrV (X.1.1 8) n1 (fun j => .int (g j))) := by
    rw [e1]
    unfold arrV
    congr 2
    apply Array.ext
    · simp
    · intro i h1 h2
      simp at h1
      simp [hg i h1]
  obtain ⟨h0o, k0, hk0, cm0, hkk0⟩ := h0i
  obtain ⟨-, kk1, hkk1, cm1, hkk11⟩ := (hK.1.2 0 _ rfl).1 n1 (fun j => .int (g j))
  have hprim : refKind .int = false := rfl
  obtain ⟨vm', X', step⟩ := X0.arraycopy hexec hown hlink hnat hstat hini (src := a0) (dst := xB X + k1) (cs := c0) (cd := arrV (X.1.1 8) n1 (fun j => .int (g j))) (srcPos := nI a) (destPos := nI b) (n := nI d) (by rw [hT]; exact h0) (by rw [hT]; exact hc1)
    h0o (fun _ h => by cases h) h0k (fun h => by cases h) hk0 hkk1 hkk0 hkk11 (by simp [hprim]) (nI_pos (by omega)) (nI_pos (by omega)) (nI_pos (by omega))
    (by rw [nn a (by omega), nn d (by omega)]; show ¬ _ > (c0.slots.size : Int); rw [h0s]; omega)
    (by rw [nn b (by omega), nn d (by omega)]; show ¬ _ > ((arrV (X.1.1 8) n1 (fun j => .int (g j))).slots.size : Int); rw [arrV_size]; omega)
    (fun vm₁ _ i hi => by
      rw [nI_clamp (by omega)] at hi ⊢
      have e : c0.slots.getD (a + i) .null = .int (f (a + i)) := by
        rw [Array.getD_eq_getD_getElem?, h0v _ (by omega)]
        rfl
      refine ⟨?_, ?_⟩
      · rw [e]
        rfl
      · rw [e]
        exact trivial)
    (g := F0 m pc ls (.int (nI d) :: .int (nI b) :: .ref (xB X + k1) :: .int (nI a) :: .ref a0 :: rest)) rfl (by rw [hml]) (rest := rest) rfl (by rw [hb]; exact hdg) hframes (by show 2 * 0 + _ + _ ≤ _; omega)
  have hst : c0.stretch a d = (arrV (X.1.1 8) n0 (fun j => .int (f j))).stretch a d := by
    unfold Cell.stretch
    apply List.map_congr_left
    intro i hi
    have hi' := List.mem_range.mp hi
    rw [Array.getD_eq_getD_getElem?, Array.getD_eq_getD_getElem?, h0v _ (by omega), arrV_read _ _ (by omega)]
  have e2 : copied c0 (arrV (X.1.1 8) n1 (fun j => .int (g j))) (nI a) (nI b) (nI d) = arrV (X.1.1 8) n1 (fun j => .int (va_cpy f g a b d j)) := by
    have := va_copied (fun z => Value.int z) (X.1.1 8) (X.1.1 8) (n0 := n0) (n1 := n1) (sp := a) (dp := b) (n := d) f g h4
    rw [← this, ← hst]
    unfold copied
    rw [nI_clamp (by omega), nI_clamp (by omega), nI_clamp (by omega)]
  rw [e2] at X' step
  have hl : xB X + k1 < H.size := (Array.getElem?_eq_some_iff.mp hc1).1
  have hheap : ((T.setVm vm').setCell (xB X + k1) (arrV (X.1.1 8) n1 (fun j => .int (va_cpy f g a b d j)))).heap = H.setIfInBounds (xB X + k1) (arrV (X.1.1 8) n1 (fun j => .int (va_cpy f g a b d j))) := by rw [← hT]; rfl
  have oq : ∀ q : Nat, q ≠ xB X + k1 → (H.setIfInBounds (xB X + k1) (arrV (X.1.1 8) n1 (fun j => .int (va_cpy f g a b d j))))[q]? = H[q]? := fun q hq => by simp [Array.getElem?_setIfInBounds, Ne.symm hq]
  obtain ⟨t, a1, b1⟩ := kk (H.setIfInBounds (xB X + k1) (arrV (X.1.1 8) n1 (fun j => .int (va_cpy f g a b d j)))) _ ⟨by simp; exact hW.1, fun k hk => by
      by_cases ek : k = k1
      · subst ek
        unfold x_at
        rw [hs1, if_neg (by show ¬ (8 : Nat) < 8; omega)]
        simp [Array.getElem?_setIfInBounds, hl]
      · have := (hW.2.1 k hk).kept (oq (xB X + k) (fun q => ek (by omega)))
        simpa [ek] using this, fun q hq => by rw [oq q (by omega)]; exact hW.2.2.1 q hq, fun q hq => by
      rcases List.mem_append.mp hq with h | h
      · exact hW.2.2.2 q h
      · obtain ⟨z, -, hz⟩ := List.mem_map.mp h
        rw [← hz]
        exact Nat.le_add_right _ _⟩ _ hheap X'
  exact ⟨t, step t a1, b1⟩
theorem r_copy {cc : ByteArray} (hexec : p.tables.exec = Jvm.exec) (hb : c.code = cc) (hml : c.maxLocals = ls.size) {own : String} {index : Nat} (hown : s.vm.findClass own = some m.cls) (hts : ∀ w ∈ xT, w.before args s = true) (hlink : Cond.methodLink own index arraycopyName ∈ xT) (hnat : Cond.native arraycopyName ∈ xT) (hstat : Cond.static arraycopyName ∈ xT) (hini : Cond.initialized "java/lang/System" ∈ xT)
    (hK : XK X s) {G : xG} (hW : XG X G H locs) {r0 c0 i0 r1 c1 i1 n0 n1 : Nat} (hF0 : xF r0 c0 i0 8 n0) (hF1 : xF r1 c1 i1 8 n1) (hr0 : ∀ w, w < n0 → xro (xkey r0 c0 i0) w = none) (hr1 : ∀ w, w < n1 → xro (xkey r1 c1 i1) w = none) {sp dp nn : Int32} (a b d : Nat) (ha : sp = nI a) (hbb : dp = nI b) (hd : nn = nI d) (hbig : n0 < 2 ^ 31 ∧ n1 < 2 ^ 31) (h4 : a + d ≤ n0) (h5 : b + d ≤ n1)
    (hframes : 1 ≤ R.frames) (hlocals : (rest.map fun v => v.category).sum + (nativeFrameWords "java/lang/System" "arraycopy" 5 + 11) ≤ R.locals) (hdg : decode cc pc = .ok (.invokestatic index, 3))
    (kk : ∀ (H1 : Heap) (locs1 : List Loc), XG X (fun r c i => if r = r1 ∧ c = c1 ∧ i = i1 then va_cpy (G r0 c0 i0) (G r1 c1 i1) a b d else G r c i) H1 locs1 → W p l e R s m args below meth c H1 locs1 cells slots Q (F0 m (pc + 3) ls rest)) : W p l e R s m args below meth c H locs cells slots Q (F0 m pc ls (.int nn :: .int dp :: .ref (xB X + xkey r1 c1 i1) :: .int sp :: .ref (xB X + xkey r0 c0 i0) :: rest)) := by
  have e0 := hW.2.1 _ hF0.1
  unfold x_at at e0
  rw [hF0.2.1, if_neg (by show ¬ (8 : Nat) < 8; omega)] at e0
  refine x_copy0 hexec hb hml hown (hts _ hlink) (hts _ hnat) (hts _ hstat) (hts _ hini) hK hW e0 ((hK.1.2 0 _ rfl).1 n0 _) (fun h => by cases h) (arrV_size _ _ _) (f := G r0 c0 i0) (fun j hj => by rw [arrV_read _ _ hj, xval_int hF0 (hr0 j hj)]) hF1.1 hF1.2.1 (g := G r1 c1 i1) (fun j hj => xval_int hF1 (hr1 j hj)) ha hbb hd hbig h4 h5 hframes hlocals hdg (fun H1 locs1 hW1 => kk H1 locs1 (hW1.to (fun k hk j hj => ?_)))
  by_cases ek : k = xkey r1 c1 i1
  · subst ek
    rw [if_pos rfl]
    have hj' : j < n1 := by rw [hF1.2.1] at hj; exact hj
    rw [xval_int hF1 (hr1 j hj'), if_pos ⟨rfl, rfl, rfl⟩]
  · rw [if_neg ek]
    unfold xval
    cases hq : xro k j with
    | some t => rfl
    | none =>
      have hne : ¬ ((xdec k).1 = r1 ∧ (xdec k).2.1 = c1 ∧ (xdec k).2.2 = i1) := by
        rintro ⟨h1, h2, h3⟩
        apply ek
        rw [← h1, ← h2, ← h3]
        exact (xdec_inv k hk).symm
      simp only [if_neg hne]
end XCOPY
/-! a row of a region is laid anew -/
def xrow (σ : xS) (c i : Nat) (ρ : Nat → Int32) : xS := fun c' i' => if c' = c ∧ i' = i then ρ else σ c' i'
theorem xcpS {G : xG} {r : Nat} {σ : xS} {c0 i0 c1 i1 a b d : Nat} : (fun r' c' i' => if r' = r ∧ c' = c1 ∧ i' = i1 then va_cpy (va_up G r σ r c0 i0) (va_up G r σ r c1 i1) a b d else va_up G r σ r' c' i') = va_up G r (xrow σ c1 i1 (va_cpy (σ c0 i0) (σ c1 i1) a b d)) := by
  funext r' c' i'
  by_cases e : r' = r
  · subst e
    by_cases e2 : c' = c1 ∧ i' = i1
    · simp [va_up, xrow, e2]
    · have : ¬ (r' = r' ∧ c' = c1 ∧ i' = i1) := fun h => e2 h.2
      simp [va_up, xrow, e2]
  · simp [va_up, e]
theorem xcpO {G : xG} {r r0 : Nat} {σ : xS} {c0 i0 c1 i1 a b d : Nat} (hne : r0 ≠ r) : (fun r' c' i' => if r' = r ∧ c' = c1 ∧ i' = i1 then va_cpy (va_up G r σ r0 c0 i0) (va_up G r σ r c1 i1) a b d else va_up G r σ r' c' i') = va_up G r (xrow σ c1 i1 (va_cpy (G r0 c0 i0) (σ c1 i1) a b d)) := by
  funext r' c' i'
  by_cases e : r' = r
  · subst e
    by_cases e2 : c' = c1 ∧ i' = i1
    · simp [va_up, xrow, e2, hne]
    · have : ¬ (r' = r' ∧ c' = c1 ∧ i' = i1) := fun h => e2 h.2
      simp [va_up, xrow, e2]
  · simp [va_up, e]
theorem xrow_lit {σ σ' : xS} {c i : Nat} {ρ : Nat → Int32} (h1 : σ' c i = ρ) (h2 : ∀ i', i' ≠ i → σ' c i' = σ c i') (h3 : ∀ c', c' ≠ c → σ' c' = σ c') : xrow σ c i ρ = σ' := by
  funext c' i'
  unfold xrow
  by_cases e : c' = c
  · subst e
    by_cases e2 : i' = i
    · subst e2
      rw [if_pos ⟨rfl, rfl⟩, h1]
    · rw [if_neg (fun q => e2 q.2), h2 i' e2]
  · rw [if_neg (fun q => e q.1), h3 c' e]
section XROWL
variable {f s : Nat → Int32} {L O Y P Q : Nat → Nat → Int32} {i : Nat} {ρ ℓ : Nat → Int32}
theorem xrow1 : xrow (xSt f s L O Y P Q) 1 0 ρ = xSt f ρ L O Y P Q := xrow_lit rfl (fun i' h => by simp [xSt, h]) (fun c' h => by unfold xSt; split <;> first | rfl | exact absurd rfl h)
theorem xrow5 : xrow (xSt f s L O Y (va_up P i ℓ) Q) 5 i ρ = xSt f s L O Y (va_up P i ρ) Q := xrow_lit (by simp [xSt, va_up]) (fun i' h => by simp [xSt, va_up, h]) (fun c' h => by unfold xSt; split <;> first | rfl | exact absurd rfl h)
theorem xrow6 : xrow (xSt f s L O Y P (va_up Q i ℓ)) 6 i ρ = xSt f s L O Y P (va_up Q i ρ) := xrow_lit (by simp [xSt, va_up]) (fun i' h => by simp [xSt, va_up, h]) (fun c' h => by unfold xSt; split <;> first | rfl | exact absurd rfl h)
theorem xat1 : xSt f s L O Y P Q 1 0 = s := rfl
theorem xat5 : xSt f s L O Y (va_up P i ℓ) Q 5 i = ℓ := va_up_at
theorem xat6 : xSt f s L O Y P (va_up Q i ℓ) 6 i = ℓ := va_up_at
end XROWL
