/-! ===== small words of the walks ===== -/
def xabs (x : Int32) : Int32 := if 0 ≤ x then x else 0 - x
def xmax (x y : Int32) : Int32 := if x < y then y else x
def xmin (x y : Int32) : Int32 := if y < x then y else x
theorem xrd {α : Type} {F : Nat → Nat → α} {i k : Nat} {ρ : Nat → α} {x : α} (h : ρ k = x) : va_up F i ρ i k = x := by simp [va_up, h]
theorem xF_mo0 : xF 12 0 0 7 18 := by unfold xF; decide +kernel
theorem xF_mo1 : xF 12 1 0 8 440 := by unfold xF; decide +kernel
theorem xF_mo2 : xF 12 2 0 8 2640 := by unfold xF; decide +kernel
theorem xF_mo3 : xF 12 3 0 8 880 := by unfold xF; decide +kernel
theorem xF_mo4 : xF 12 4 0 10 2 := by unfold xF; decide +kernel
theorem xF_mo5 : xF 12 5 0 8 440 := by unfold xF; decide +kernel
theorem xF_mo6 : xF 12 6 0 8 16 := by unfold xF; decide +kernel
theorem xF_mo7 : xF 12 7 0 8 16 := by unfold xF; decide +kernel
theorem xF_mo8 : xF 12 8 0 8 80 := by unfold xF; decide +kernel
theorem xF_mo9 : xF 12 9 0 8 29 := by unfold xF; decide +kernel
theorem xF_mo10 : xF 12 10 0 8 30 := by unfold xF; decide +kernel
theorem xF_mo11 : xF 12 11 0 8 92 := by unfold xF; decide +kernel
theorem xF_mi0 : xF 11 0 0 10 2 := by unfold xF; decide +kernel
theorem xF_mi1 : xF 11 1 0 0 3 := by unfold xF; decide +kernel
theorem xF_mi2 : xF 11 2 0 3 6 := by unfold xF; decide +kernel
theorem xF_mi3 : xF 11 3 0 9 80 := by unfold xF; decide +kernel
theorem xF_mi4 : xF 11 4 0 8 80 := by unfold xF; decide +kernel
theorem xr_mi0 (w : Nat) : xro (xkey 11 0 0) w = none := rfl
theorem xr_mi3 (w : Nat) : xro (xkey 11 3 0) w = none := rfl
theorem xr_mi4 (w : Nat) : xro (xkey 11 4 0) w = none := rfl
section XMISC
variable {p : Program} {l : Launch} {e : Env} {R : Room} {s : State} {m : MethodId} {args : Array Value} {below : List Frame} {meth : Method} {c : Code} {H : Heap} {locs : List Loc} {cells slots : Nat} {Q : State → Prop}
variable {cc : ByteArray} {pc : Nat} {ls : Array Slot} {rest : List Value}
theorem lv_eqi {x y : Int32} (h : x = y) (k : W p l e R s m args below meth c H locs cells slots Q (F0 m pc ls (.int y :: rest))) : W p l e R s m args below meth c H locs cells slots Q (F0 m pc ls (.int x :: rest)) := h ▸ k
end XMISC
section XMISC2
variable {p : Program} {l : Launch} {e : Env} {R : Room} {s : State} {m : MethodId} {args : Array Value} {below : List Frame} {meth : Method} {c : Code} {H : Heap} {locs : List Loc} {cells slots : Nat} {Q : State → Prop}
variable {cc : ByteArray} {pc : Nat} {ls : Array Slot} {rest : List Value} {X : xX} {G : xG} {own : String} {r r0 k0 i : Nat} {σ : xS}
theorem r_geto (hx : p.tables.exec = Jvm.exec) (hb : c.code = cc) (hts : ∀ w ∈ xT, w.before args s = true) (hown : s.vm.findClass own = some m.cls) (hK : XK X s) (hne : r0 ≠ r) (hW : XR X G r σ H locs) {ref C : String} {T : u_T} {N ci index : Nat} (hF : xF r0 k0 i ci N) (hin : ∀ w ∈ u_ws C T N, w ∈ xT) (hc : vwCl[ci]? = some (C, T, N)) (hci : ci < 8) (k : Nat) (hkN : k < N) (hr : xro (xkey r0 k0 i) k = none)
    (hlink : Cond.fieldLink own index ref (T k).2.1 (T k).2.2.1 ∈ xT) (href : (T k).1 = ref) {x : Int32} (hv : G r0 k0 i k = x) (hdg : decode cc pc = .ok (.getfield index, 3))
    (kk : W p l e R s m args below meth c H locs cells slots Q (F0 m (pc + 3) ls (.int x :: rest))) : W p l e R s m args below meth c H locs cells slots Q (F0 m pc ls (.ref (xB X + xkey r0 k0 i) :: rest)) :=
  x_get hx hb hts hin hown hK hW hF.1 hF.2.1 hci hc k hkN hlink href (by rw [xval_int hF hr, va_up_ne G σ hne, hv]) hdg kk
end XMISC2
def xloop {α : Type} (g : Nat → α → α) : Nat → Nat → α → α
  | 0, _, a => a
  | k + 1, i, a => xloop g k (i + 1) (g i a)
def xfind (g : Nat → Int32) : Nat → Nat → Int32
  | 0, _ => 0
  | k + 1, i => if g i = 0 then xfind g k (i + 1) else 1
theorem xge_refl {i n : Nat} (h : i = n) : nI n ≤ nI i := by subst h; exact Int32.le_refl _
theorem xix {x : Int32} {n : Nat} (h0 : 0 ≤ x) (h1 : x < nI n) (hn : n < 2 ^ 31) : x.toNatClampNeg < n ∧ x = nI x.toNatClampNeg := by
  obtain ⟨j, hj, rfl⟩ := nI_of (Int32.not_lt.mpr h0)
  rw [nI_clamp hj]
  exact ⟨(nI_ltI hj hn).mp h1, rfl⟩
section XSTATIC
variable {p : Program} {l : Launch} {e : Env} {R : Room} {s : State} {m : MethodId} {args : Array Value} {below : List Frame} {meth : Method} {c : Code} {H : Heap} {locs : List Loc} {cells slots : Nat} {Q : State → Prop}
variable {cc : ByteArray} {pc : Nat} {ls : Array Slot} {rest : List Value} {X : xX} {G : xG} {own : String}
theorem x_gets (hx : p.tables.exec = Jvm.exec) (hb : c.code = cc) (hts : ∀ w ∈ xT, w.before args s = true) (hown : s.vm.findClass own = some m.cls) {index n i : Nat} {f : Nat → Int32} {nm : String} (hZ : xst n f nm i X s) {sh : Nat → Nat × Nat} {N : Nat} {V : xV} (hW : XH X sh N V H locs) (hlink : Cond.fieldLink own index "CoughLamps" nm "[I" ∈ xT) (hdg : decode cc pc = .ok (.getstatic index, 3))
    (kk : W p l e R s m args below meth c H locs cells slots Q (F0 m (pc + 3) ls (.ref (X.2.2 i) :: rest))) : W p l e R s m args below meth c H locs cells slots Q (F0 m pc ls rest) := by
  obtain ⟨⟨cf, kf, fi, fd, a, cell, h1, h2, h3, h4, h5, h6, h7, h8⟩, -⟩ := hZ
  exact W.gets hx hb hown (hts _ hlink) h1 h2 h3 h4 (by rw [hW.2.2.1 a (by omega)]; exact h5) (fun e => by rw [e] at h6; cases h6) h7 rfl hdg kk
theorem x_tald (hx : p.tables.exec = Jvm.exec) (hb : c.code = cc) {n i : Nat} {f : Nat → Int32} {nm : String} (hZ : xst n f nm i X s) {sh : Nat → Nat × Nat} {N : Nat} {V : xV} (hW : XH X sh N V H locs) {z : Int32} (j : Nat) (hj : j < n) (hn : n < 2 ^ 31) (hz : z = nI j) (hdg : decode cc pc = .ok (.iaload, 1))
    (kk : W p l e R s m args below meth c H locs cells slots Q (F0 m (pc + 1) ls (.int (f j) :: rest))) : W p l e R s m args below meth c H locs cells slots Q (F0 m pc ls (.int z :: .ref (X.2.2 i) :: rest)) := by
  subst hz
  obtain ⟨-, cell, h1, h2, h3, h4, h5, h6, h7⟩ := hZ
  have hs : cell.slots.size < 2 ^ 31 ∨ True := Or.inr trivial
  refine W.iald (v := .int (f j)) hx hb (cell := cell) (by rw [hW.2.2.1 _ (by omega)]; exact h1) h2 h3 ?_ (by rw [nI_clamp (by omega)]; exact h6 j hj) rfl rfl hdg kk
  rw [nI_clamp (by omega)]
  rintro (q | q)
  · exact nI_pos (by omega) q
  · omega
theorem x_getsN (hx : p.tables.exec = Jvm.exec) (hb : c.code = cc) (hown : s.vm.findClass own = some m.cls) {index n i : Nat} {f : Nat → Int32} {nm : String} (hK : XK X s) (hZ : xst n f nm i X s) {sh : Nat → Nat × Nat} {N : Nat} {V : xV} (hW : XH X sh N V H locs) (hlink : (own, index, nm) ∈ xNestF) (hdg : decode cc pc = .ok (.getstatic index, 3))
    (kk : W p l e R s m args below meth c H locs cells slots Q (F0 m (pc + 3) ls (.ref (X.2.2 i) :: rest))) : W p l e R s m args below meth c H locs cells slots Q (F0 m pc ls rest) := by
  obtain ⟨⟨cf, kf, fi, fd, a, cell, h1, h2, h3, h4, h5, h6, h7, h8⟩, -⟩ := hZ
  have hN := hK.2.2.2.2.2 _ hlink
  exact va_WgetsN hx hb hown (va_Nw.use rfl hN) h1 h2 h3 h4 (by rw [hW.2.2.1 a (by omega)]; exact h5) (fun e => by rw [e] at h6; cases h6) h7 rfl hdg kk
end XSTATIC
section XFOC
variable {X : xX} {G : xG} {r : Nat} {f s : Nat → Int32} {L O Y P Q : Nat → Nat → Int32} {H : Heap} {locs : List Loc}
theorem XR.foc2 (h : XR X G r (xSt f s L O Y P Q) H locs) (i : Nat) : XR X G r (xSt f s (va_up L i (L i)) O Y P Q) H locs := by rw [xus]; exact h
theorem XR.foc3 (h : XR X G r (xSt f s L O Y P Q) H locs) (i : Nat) : XR X G r (xSt f s L (va_up O i (O i)) Y P Q) H locs := by rw [xus]; exact h
theorem XR.foc4 (h : XR X G r (xSt f s L O Y P Q) H locs) (i : Nat) : XR X G r (xSt f s L O (va_up Y i (Y i)) P Q) H locs := by rw [xus]; exact h
theorem XR.foc5 (h : XR X G r (xSt f s L O Y P Q) H locs) (i : Nat) : XR X G r (xSt f s L O Y (va_up P i (P i)) Q) H locs := by rw [xus]; exact h
theorem XR.foc6 (h : XR X G r (xSt f s L O Y P Q) H locs) (i : Nat) : XR X G r (xSt f s L O Y P (va_up Q i (Q i))) H locs := by rw [xus]; exact h
end XFOC
section XUNF
variable {X : xX} {G : xG} {r i : Nat} {f s : Nat → Int32} {L O Y P Q : Nat → Nat → Int32} {H : Heap} {locs : List Loc}
theorem XR.unf2 (h : XR X G r (xSt f s (va_up L i (L i)) O Y P Q) H locs) : XR X G r (xSt f s L O Y P Q) H locs := by rw [xus] at h; exact h
theorem XR.unf3 (h : XR X G r (xSt f s L (va_up O i (O i)) Y P Q) H locs) : XR X G r (xSt f s L O Y P Q) H locs := by rw [xus] at h; exact h
theorem XR.unf4 (h : XR X G r (xSt f s L O (va_up Y i (Y i)) P Q) H locs) : XR X G r (xSt f s L O Y P Q) H locs := by rw [xus] at h; exact h
theorem XR.unf5 (h : XR X G r (xSt f s L O Y (va_up P i (P i)) Q) H locs) : XR X G r (xSt f s L O Y P Q) H locs := by rw [xus] at h; exact h
theorem XR.unf6 (h : XR X G r (xSt f s L O Y P (va_up Q i (Q i))) H locs) : XR X G r (xSt f s L O Y P Q) H locs := by rw [xus] at h; exact h
end XUNF
/-- v within lo..hi, as a boolean answer -/
def Fin3 (v lo hi : Int32) : Int32 := if v < lo then 0 else if hi < v then 0 else 1
theorem xn1 {n : Nat} (h : ¬ nI n = 0) : 1 ≤ n := by
  rcases Nat.eq_zero_or_pos n with e | e
  · subst e; exact absurd rfl h
  · exact e
theorem xlt_lit {n : Nat} {N : Int32} (k : Nat) (hN : N = nI k) (hk : k < 2 ^ 31) (hn : n < 2 ^ 31) (c : nI n < N) : n < k := by
  rw [hN] at c
  exact (nI_ltI hn hk).mp c
theorem xfin {x hi : Int32} (k : Nat) (hk : hi = nI k) (hk2 : k < 2 ^ 31) (c : ¬ Fin3 x 0 hi = 0) : x.toNatClampNeg < k + 1 ∧ x = nI x.toNatClampNeg := by
  unfold Fin3 at c
  by_cases h1 : x < 0
  · rw [if_pos h1] at c; exact absurd rfl c
  · rw [if_neg h1] at c
    by_cases h2 : hi < x
    · rw [if_pos h2] at c; exact absurd rfl c
    · obtain ⟨j, hj, rfl⟩ := nI_of h1
      rw [nI_clamp hj]
      rw [hk] at h2
      have := (nI_leI hj hk2).mp (Int32.not_lt.mp h2)
      exact ⟨by omega, rfl⟩
theorem xfin1 {x hi : Int32} (k : Nat) (hk : hi = nI k) (hk2 : k < 2 ^ 31) (c : ¬ Fin3 x 1 hi = 0) : x.toNatClampNeg ≤ k ∧ x = nI x.toNatClampNeg := by
  unfold Fin3 at c
  by_cases h1 : x < 1
  · rw [if_pos h1] at c; exact absurd rfl c
  · rw [if_neg h1] at c
    by_cases h2 : hi < x
    · rw [if_pos h2] at c; exact absurd rfl c
    · have h0 : ¬ x < 0 := fun q => h1 (Int32.lt_trans q (by decide))
      obtain ⟨j, hj, rfl⟩ := nI_of h0
      rw [nI_clamp hj]
      rw [hk] at h2
      have := (nI_leI hj hk2).mp (Int32.not_lt.mp h2)
      exact ⟨by omega, rfl⟩
theorem xhas {x : Int32} {n : Nat} (hn : n < 2 ^ 31) (c : ¬ (if 0 ≤ x then (if x < nI n then (1 : Int32) else 0) else 0) = 0) : x.toNatClampNeg < n ∧ x = nI x.toNatClampNeg := by
  by_cases h1 : 0 ≤ x
  · rw [if_pos h1] at c
    by_cases h2 : x < nI n
    · exact xix h1 h2 hn
    · rw [if_neg h2] at c; exact absurd rfl c
  · rw [if_neg h1] at c; exact absurd rfl c
theorem xb_nar {x : Int32} (h : x = 0 ∨ x = 1) : narrow .boolean (.int x) = .int x := by rcases h with rfl | rfl <;> rfl
theorem xb_fit {x : Int32} (h : x = 0 ∨ x = 1) : fits .boolean (.int x) = true := by rcases h with rfl | rfl <;> rfl
theorem Fin3_01 (v lo hi : Int32) : Fin3 v lo hi = 0 ∨ Fin3 v lo hi = 1 := by
  unfold Fin3
  split
  · exact Or.inl rfl
  · split
    · exact Or.inl rfl
    · exact Or.inr rfl
