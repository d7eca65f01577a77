/-! ===== rows over a region's state ===== -/
abbrev xS : Type := Nat → Nat → Nat → Int32
def xup3 (σ : xS) (c i w : Nat) (v : Int32) : xS := fun c' i' => if c' = c ∧ i' = i then va_up (σ c i) w v else σ c' i'
def XR (X : xX) (G : xG) (r : Nat) (σ : xS) (H : Heap) (locs : List Loc) : Prop := XG X (va_up G r σ) H locs
theorem XR.self {X : xX} {G : xG} {r : Nat} {H : Heap} {locs : List Loc} (h : XG X G H locs) : XR X G r (G r) H locs := by
  have : va_up G r (G r) = G := by
    funext k
    by_cases e : k = r
    · subst e; simp [va_up]
    · simp [va_up, e]
  unfold XR
  rw [this]; exact h
theorem xup43 {G : xG} {r : Nat} {σ : xS} {c i w : Nat} {v : Int32} : xup4 (va_up G r σ) r c i w v = va_up G r (xup3 σ c i w v) := by
  funext r' c' i'
  by_cases e : r' = r
  · subst e
    by_cases e2 : c' = c ∧ i' = i
    · simp [xup4, va_up, xup3, e2]
    · have e3 : ¬ (r' = r' ∧ c' = c ∧ i' = i) := fun h => e2 h.2
      simp [xup4, va_up, xup3, e2]
  · simp [xup4, va_up, e]
theorem XR.up3 {X : xX} {G : xG} {r : Nat} {σ σ' : xS} {c i w : Nat} {v : Int32} {H : Heap} {locs : List Loc} (h : XG X (xup4 (va_up G r σ) r c i w v) H locs) (hσ : xup3 σ c i w v = σ') : XR X G r σ' H locs := by
  rw [xup43, hσ] at h
  exact h
theorem va_up_at {α : Type} {G : Nat → α} {r : Nat} {σ : α} : va_up G r σ r = σ := by simp [va_up]
/-- a street: header, settings, lamps, houses, walkers, steps and pauses of their goals -/
def xSt (f s : Nat → Int32) (L H W P Q : Nat → Nat → Int32) : xS := fun c => match c with
  | 0 => fun i => if i = 0 then f else fun _ => 0
  | 1 => fun i => if i = 0 then s else fun _ => 0
  | 2 => L
  | 3 => H
  | 4 => W
  | 5 => P
  | 6 => Q
  | _ => fun _ _ => 0
/-- the class's other cells: saved, history, pad, its signs, its numbers -/
def xMi (a b c d e : Nat → Int32) : xS := fun k => match k with
  | 0 => fun i => if i = 0 then a else fun _ => 0
  | 1 => fun i => if i = 0 then b else fun _ => 0
  | 2 => fun i => if i = 0 then c else fun _ => 0
  | 3 => fun i => if i = 0 then d else fun _ => 0
  | 4 => fun i => if i = 0 then e else fun _ => 0
  | _ => fun _ _ => 0
/-- the model's cells: fields, at, past, slots, isSaved, aside, ranks, were, pad, sort, begins, numbers -/
def xMo (f a b c d e g h p q t u : Nat → Int32) : xS := fun k => match k with
  | 0 => fun i => if i = 0 then f else fun _ => 0
  | 1 => fun i => if i = 0 then a else fun _ => 0
  | 2 => fun i => if i = 0 then b else fun _ => 0
  | 3 => fun i => if i = 0 then c else fun _ => 0
  | 4 => fun i => if i = 0 then d else fun _ => 0
  | 5 => fun i => if i = 0 then e else fun _ => 0
  | 6 => fun i => if i = 0 then g else fun _ => 0
  | 7 => fun i => if i = 0 then h else fun _ => 0
  | 8 => fun i => if i = 0 then p else fun _ => 0
  | 9 => fun i => if i = 0 then q else fun _ => 0
  | 10 => fun i => if i = 0 then t else fun _ => 0
  | 11 => fun i => if i = 0 then u else fun _ => 0
  | _ => fun _ _ => 0
theorem xup_lit {σ σ' : xS} {c i w : Nat} {v : Int32} (h1 : σ' c i = va_up (σ c i) w v) (h2 : ∀ i', i' ≠ i → σ' c i' = σ c i') (h3 : ∀ c', c' ≠ c → σ' c' = σ c') : xup3 σ c i w v = σ' := by
  funext c' i'
  unfold xup3
  by_cases e : c' = c
  · subst e
    by_cases e2 : i' = i
    · subst e2
      rw [if_pos ⟨rfl, rfl⟩, h1]
    · rw [if_neg (fun q => e2 q.2), h2 i' e2]
  · rw [if_neg (fun q => e q.1), h3 c' e]
section XLITS
variable {f s : Nat → Int32} {L H W P Q : Nat → Nat → Int32} {i w : Nat} {v : Int32} {ℓ : Nat → Int32}
theorem xSt0 : xup3 (xSt f s L H W P Q) 0 0 w v = xSt (va_up f w v) s L H W P Q := xup_lit rfl (fun i' h => by simp [xSt, h]) (fun c' h => by unfold xSt; split <;> first | rfl | exact absurd rfl h)
theorem xSt1 : xup3 (xSt f s L H W P Q) 1 0 w v = xSt f (va_up s w v) L H W P Q := xup_lit rfl (fun i' h => by simp [xSt, h]) (fun c' h => by unfold xSt; split <;> first | rfl | exact absurd rfl h)
theorem xSt2 : xup3 (xSt f s L H W P Q) 2 i w v = xSt f s (va_up L i (va_up (L i) w v)) H W P Q := xup_lit (by simp [xSt, va_up]) (fun i' h => by simp [xSt, va_up, h]) (fun c' h => by unfold xSt; split <;> first | rfl | exact absurd rfl h)
theorem xSt3 : xup3 (xSt f s L H W P Q) 3 i w v = xSt f s L (va_up H i (va_up (H i) w v)) W P Q := xup_lit (by simp [xSt, va_up]) (fun i' h => by simp [xSt, va_up, h]) (fun c' h => by unfold xSt; split <;> first | rfl | exact absurd rfl h)
theorem xSt4 : xup3 (xSt f s L H W P Q) 4 i w v = xSt f s L H (va_up W i (va_up (W i) w v)) P Q := xup_lit (by simp [xSt, va_up]) (fun i' h => by simp [xSt, va_up, h]) (fun c' h => by unfold xSt; split <;> first | rfl | exact absurd rfl h)
theorem xSt5 : xup3 (xSt f s L H W P Q) 5 i w v = xSt f s L H W (va_up P i (va_up (P i) w v)) Q := xup_lit (by simp [xSt, va_up]) (fun i' h => by simp [xSt, va_up, h]) (fun c' h => by unfold xSt; split <;> first | rfl | exact absurd rfl h)
theorem xSt6 : xup3 (xSt f s L H W P Q) 6 i w v = xSt f s L H W P (va_up Q i (va_up (Q i) w v)) := xup_lit (by simp [xSt, va_up]) (fun i' h => by simp [xSt, va_up, h]) (fun c' h => by unfold xSt; split <;> first | rfl | exact absurd rfl h)
theorem xuu {α : Type} {F : Nat → α} {i : Nat} {a b : α} : va_up (va_up F i a) i b = va_up F i b := by
  funext k
  by_cases h : k = i <;> simp [va_up, h]
theorem xus {α : Type} {F : Nat → α} {i : Nat} : va_up F i (F i) = F := by
  funext k
  by_cases h : k = i
  · subst h; simp [va_up]
  · simp [va_up, h]
theorem xSt2f : xup3 (xSt f s (va_up L i ℓ) H W P Q) 2 i w v = xSt f s (va_up L i (va_up ℓ w v)) H W P Q := by rw [xSt2, xuu, va_up_at]
theorem xSt3f : xup3 (xSt f s L (va_up H i ℓ) W P Q) 3 i w v = xSt f s L (va_up H i (va_up ℓ w v)) W P Q := by rw [xSt3, xuu, va_up_at]
theorem xSt4f : xup3 (xSt f s L H (va_up W i ℓ) P Q) 4 i w v = xSt f s L H (va_up W i (va_up ℓ w v)) P Q := by rw [xSt4, xuu, va_up_at]
theorem xSt5f : xup3 (xSt f s L H W (va_up P i ℓ) Q) 5 i w v = xSt f s L H W (va_up P i (va_up ℓ w v)) Q := by rw [xSt5, xuu, va_up_at]
theorem xSt6f : xup3 (xSt f s L H W P (va_up Q i ℓ)) 6 i w v = xSt f s L H W P (va_up Q i (va_up ℓ w v)) := by rw [xSt6, xuu, va_up_at]
end XLITS
section XLITM
variable {a b c d e f g h p q t u : Nat → Int32} {w : Nat} {v : Int32}
theorem xMi0 : xup3 (xMi a b c d e) 0 0 w v = xMi (va_up a w v) b c d e := xup_lit rfl (fun i' h => by simp [xMi, h]) (fun c' h => by unfold xMi; split <;> first | rfl | exact absurd rfl h)
theorem xMi1 : xup3 (xMi a b c d e) 1 0 w v = xMi a (va_up b w v) c d e := xup_lit rfl (fun i' h => by simp [xMi, h]) (fun c' h => by unfold xMi; split <;> first | rfl | exact absurd rfl h)
theorem xMi2 : xup3 (xMi a b c d e) 2 0 w v = xMi a b (va_up c w v) d e := xup_lit rfl (fun i' h => by simp [xMi, h]) (fun c' h => by unfold xMi; split <;> first | rfl | exact absurd rfl h)
theorem xMi3 : xup3 (xMi a b c d e) 3 0 w v = xMi a b c (va_up d w v) e := xup_lit rfl (fun i' h => by simp [xMi, h]) (fun c' h => by unfold xMi; split <;> first | rfl | exact absurd rfl h)
theorem xMi4 : xup3 (xMi a b c d e) 4 0 w v = xMi a b c d (va_up e w v) := xup_lit rfl (fun i' h => by simp [xMi, h]) (fun c' h => by unfold xMi; split <;> first | rfl | exact absurd rfl h)
theorem xMo0 : xup3 (xMo f a b c d e g h p q t u) 0 0 w v = xMo (va_up f w v) a b c d e g h p q t u := xup_lit rfl (fun i' h => by simp [xMo, h]) (fun c' h => by unfold xMo; split <;> first | rfl | exact absurd rfl h)
theorem xMo1 : xup3 (xMo f a b c d e g h p q t u) 1 0 w v = xMo f (va_up a w v) b c d e g h p q t u := xup_lit rfl (fun i' h => by simp [xMo, h]) (fun c' h => by unfold xMo; split <;> first | rfl | exact absurd rfl h)
theorem xMo2 : xup3 (xMo f a b c d e g h p q t u) 2 0 w v = xMo f a (va_up b w v) c d e g h p q t u := xup_lit rfl (fun i' h => by simp [xMo, h]) (fun c' h => by unfold xMo; split <;> first | rfl | exact absurd rfl h)
theorem xMo3 : xup3 (xMo f a b c d e g h p q t u) 3 0 w v = xMo f a b (va_up c w v) d e g h p q t u := xup_lit rfl (fun i' h => by simp [xMo, h]) (fun c' h => by unfold xMo; split <;> first | rfl | exact absurd rfl h)
theorem xMo4 : xup3 (xMo f a b c d e g h p q t u) 4 0 w v = xMo f a b c (va_up d w v) e g h p q t u := xup_lit rfl (fun i' h => by simp [xMo, h]) (fun c' h => by unfold xMo; split <;> first | rfl | exact absurd rfl h)
theorem xMo5 : xup3 (xMo f a b c d e g h p q t u) 5 0 w v = xMo f a b c d (va_up e w v) g h p q t u := xup_lit rfl (fun i' h => by simp [xMo, h]) (fun c' h => by unfold xMo; split <;> first | rfl | exact absurd rfl h)
theorem xMo6 : xup3 (xMo f a b c d e g h p q t u) 6 0 w v = xMo f a b c d e (va_up g w v) h p q t u := xup_lit rfl (fun i' h => by simp [xMo, h]) (fun c' h => by unfold xMo; split <;> first | rfl | exact absurd rfl h)
theorem xMo7 : xup3 (xMo f a b c d e g h p q t u) 7 0 w v = xMo f a b c d e g (va_up h w v) p q t u := xup_lit rfl (fun i' h => by simp [xMo, h]) (fun c' h => by unfold xMo; split <;> first | rfl | exact absurd rfl h)
theorem xMo8 : xup3 (xMo f a b c d e g h p q t u) 8 0 w v = xMo f a b c d e g h (va_up p w v) q t u := xup_lit rfl (fun i' h => by simp [xMo, h]) (fun c' h => by unfold xMo; split <;> first | rfl | exact absurd rfl h)
theorem xMo9 : xup3 (xMo f a b c d e g h p q t u) 9 0 w v = xMo f a b c d e g h p (va_up q w v) t u := xup_lit rfl (fun i' h => by simp [xMo, h]) (fun c' h => by unfold xMo; split <;> first | rfl | exact absurd rfl h)
theorem xMo10 : xup3 (xMo f a b c d e g h p q t u) 10 0 w v = xMo f a b c d e g h p q (va_up t w v) u := xup_lit rfl (fun i' h => by simp [xMo, h]) (fun c' h => by unfold xMo; split <;> first | rfl | exact absurd rfl h)
theorem xMo11 : xup3 (xMo f a b c d e g h p q t u) 11 0 w v = xMo f a b c d e g h p q t (va_up u w v) := xup_lit rfl (fun i' h => by simp [xMo, h]) (fun c' h => by unfold xMo; split <;> first | rfl | exact absurd rfl h)
end XLITM
section XROWR
variable {p : Program} {l : Launch} {e : Env} {R : Room} {s : State} {m : MethodId} {args : Array Value} {below : List Frame} {meth : Method} {c : Code} {H : Heap} {locs : List Loc} {cells slots : Nat} {Q : State → Prop}
variable {cc : ByteArray} {pc : Nat} {ls : Array Slot} {rest : List Value} {X : xX} {G : xG} {own : String} {r k0 i : Nat} {σ σ' : xS}
theorem r_get (hx : p.tables.exec = Jvm.exec) (hb : c.code = cc) (hts : ∀ w ∈ xT, w.before args s = true) (hown : s.vm.findClass own = some m.cls) (hK : XK X s) (hW : XR X G r σ H locs) {ref C : String} {T : u_T} {N ci index : Nat} (hF : xF r k0 i ci N) (hin : ∀ w ∈ u_ws C T N, w ∈ xT) (hc : vwCl[ci]? = some (C, T, N)) (hci : ci < 8) (k : Nat) (hkN : k < N) (hr : xro (xkey r k0 i) k = none)
    (hlink : Cond.fieldLink own index ref (T k).2.1 (T k).2.2.1 ∈ xT) (href : (T k).1 = ref) {x : Int32} (hv : σ k0 i k = x) (hdg : decode cc pc = .ok (.getfield index, 3))
    (kk : W p l e R s m args below meth c H locs cells slots Q (F0 m (pc + 3) ls (.int x :: rest))) : W p l e R s m args below meth c H locs cells slots Q (F0 m pc ls (.ref (xB X + xkey r k0 i) :: rest)) :=
  x_get hx hb hts hin hown hK hW hF.1 hF.2.1 hci hc k hkN hlink href (by rw [xval_int hF hr, va_up_at, hv]) hdg kk
/-- a field that refers to a cell -/
theorem r_getr (hx : p.tables.exec = Jvm.exec) (hb : c.code = cc) (hts : ∀ w ∈ xT, w.before args s = true) (hown : s.vm.findClass own = some m.cls) (hK : XK X s) (hW : XG X G H locs) {ref C : String} {T : u_T} {N ci index key t : Nat} (hk : key < 603) (hsh : xsh key = (ci, N)) (hin : ∀ w ∈ u_ws C T N, w ∈ xT) (hc : vwCl[ci]? = some (C, T, N)) (hci : ci < 8) (k : Nat) (hkN : k < N) (hr : xro key k = some t)
    (hlink : Cond.fieldLink own index ref (T k).2.1 (T k).2.2.1 ∈ xT) (href : (T k).1 = ref) (hdg : decode cc pc = .ok (.getfield index, 3))
    (kk : W p l e R s m args below meth c H locs cells slots Q (F0 m (pc + 3) ls (.ref (xB X + t) :: rest))) : W p l e R s m args below meth c H locs cells slots Q (F0 m pc ls (.ref (xB X + key) :: rest)) :=
  x_get hx hb hts hin hown hK hW hk hsh hci hc k hkN hlink href (xval_ref hr) hdg kk
theorem r_put (hx : p.tables.exec = Jvm.exec) (hb : c.code = cc) (hts : ∀ w ∈ xT, w.before args s = true) (hown : s.vm.findClass own = some m.cls) (hK : XK X s) (hW : XR X G r σ H locs) {ref C : String} {T : u_T} {N ci index : Nat} (hF : xF r k0 i ci N) (hin : ∀ w ∈ u_ws C T N, w ∈ xT) (ty0 : Nat → FieldType) (hty : ∀ k, k < N → parseFieldDescriptor (T k).2.2.1 = some (ty0 k)) (hnm : ∀ a, a < N → ∀ b, b < N → a ≠ b → (T a).2.1 ≠ (T b).2.1) (hc : vwCl[ci]? = some (C, T, N)) (hci : ci < 8) (k : Nat) (hkN : k < N) (hr : xro (xkey r k0 i) k = none)
    (hlink : Cond.fieldLink own index ref (T k).2.1 (T k).2.2.1 ∈ xT) (href : (T k).1 = ref) (hfin : (T k).2.2.2 = false) {x : Int32} (hn : narrow (ty0 k) (.int x) = .int x) (hfit : fits (ty0 k) (.int x) = true) (hσ : xup3 σ k0 i k x = σ') (hdg : decode cc pc = .ok (.putfield index, 3))
    (kk : ∀ (H : Heap) (locs : List Loc), XR X G r σ' H locs → W p l e R s m args below meth c H locs cells slots Q (F0 m (pc + 3) ls rest)) : W p l e R s m args below meth c H locs cells slots Q (F0 m pc ls (.int x :: .ref (xB X + xkey r k0 i) :: rest)) :=
  x_put hx hb hts hin ty0 hty hnm hown hK hW hF.1 hF.2.1 hci hc k hkN hlink href hfin hn hfit hdg (fun H1 locs1 hW1 => kk H1 locs1 (XR.up3 (XG.put hF hr hW1) hσ))
theorem r_iald (hx : p.tables.exec = Jvm.exec) (hb : c.code = cc) (hK : XK X s) (hW : XR X G r σ H locs) {N : Nat} (hF : xF r k0 i 8 N) {z : Int32} (j : Nat) (hj : j < N) (hN : N < 2 ^ 31) (hz : z = nI j) (hr : xro (xkey r k0 i) j = none) {x : Int32} (hv : σ k0 i j = x) (hdg : decode cc pc = .ok (.iaload, 1))
    (kk : W p l e R s m args below meth c H locs cells slots Q (F0 m (pc + 1) ls (.int x :: rest))) : W p l e R s m args below meth c H locs cells slots Q (F0 m pc ls (.int z :: .ref (xB X + xkey r k0 i) :: rest)) := by
  subst hz
  exact x_iald hx hb hK hW hF.1 hF.2.1 (vp_in_nI hj hN) (by rw [nI_clamp (by omega), xval_int hF hr, va_up_at, hv]) hdg kk
theorem r_cald (hx : p.tables.exec = Jvm.exec) (hb : c.code = cc) (hK : XK X s) (hW : XR X G r σ H locs) {N : Nat} (hF : xF r k0 i 9 N) {z : Int32} (j : Nat) (hj : j < N) (hN : N < 2 ^ 31) (hz : z = nI j) (hr : xro (xkey r k0 i) j = none) {x : Int32} (hv : σ k0 i j = x) (hdg : decode cc pc = .ok (.caload, 1))
    (kk : W p l e R s m args below meth c H locs cells slots Q (F0 m (pc + 1) ls (.int x :: rest))) : W p l e R s m args below meth c H locs cells slots Q (F0 m pc ls (.int z :: .ref (xB X + xkey r k0 i) :: rest)) := by
  subst hz
  exact x_cald hx hb hK hW hF.1 hF.2.1 (vp_in_nI hj hN) (by rw [nI_clamp (by omega), xval_int hF hr, va_up_at, hv]) hdg kk
theorem r_zald (hx : p.tables.exec = Jvm.exec) (hb : c.code = cc) (hK : XK X s) (hW : XR X G r σ H locs) {N : Nat} (hF : xF r k0 i 10 N) {z : Int32} (j : Nat) (hj : j < N) (hN : N < 2 ^ 31) (hz : z = nI j) (hr : xro (xkey r k0 i) j = none) {x : Int32} (hv : σ k0 i j = x) (hdg : decode cc pc = .ok (.baload, 1))
    (kk : W p l e R s m args below meth c H locs cells slots Q (F0 m (pc + 1) ls (.int x :: rest))) : W p l e R s m args below meth c H locs cells slots Q (F0 m pc ls (.int z :: .ref (xB X + xkey r k0 i) :: rest)) := by
  subst hz
  exact x_zald hx hb hK hW hF.1 hF.2.1 (vp_in_nI hj hN) (by rw [nI_clamp (by omega), xval_int hF hr, va_up_at, hv]) hdg kk
theorem r_aald (hx : p.tables.exec = Jvm.exec) (hb : c.code = cc) (hK : XK X s) (hW : XG X G H locs) {N kd key t : Nat} {C : String} (hk : key < 603) (hsh : xsh key = (kd, N)) (hkd : 8 ≤ kd) (t0 : Nat) (ht : (xTys X.1)[t0]? = some (X.1.1 kd, .object C)) {z : Int32} (j : Nat) (hj : j < N) (hN : N < 2 ^ 31) (hz : z = nI j) (hr : xro key j = some t) (hdg : decode cc pc = .ok (.aaload, 1))
    (kk : W p l e R s m args below meth c H locs cells slots Q (F0 m (pc + 1) ls (.ref (xB X + t) :: rest))) : W p l e R s m args below meth c H locs cells slots Q (F0 m pc ls (.int z :: .ref (xB X + key) :: rest)) := by
  subst hz
  exact x_aald hx hb hK hW hk hsh hkd t0 ht (vp_in_nI hj hN) (by rw [nI_clamp (by omega), xval_ref hr]) hdg kk
theorem r_iast (hx : p.tables.exec = Jvm.exec) (hb : c.code = cc) (hK : XK X s) (hW : XR X G r σ H locs) {N : Nat} (hF : xF r k0 i 8 N) {z x : Int32} (j : Nat) (hj : j < N) (hN : N < 2 ^ 31) (hz : z = nI j) (hr : xro (xkey r k0 i) j = none) (hσ : xup3 σ k0 i j x = σ') (hdg : decode cc pc = .ok (.iastore, 1))
    (kk : ∀ (H : Heap) (locs : List Loc), XR X G r σ' H locs → W p l e R s m args below meth c H locs cells slots Q (F0 m (pc + 1) ls rest)) : W p l e R s m args below meth c H locs cells slots Q (F0 m pc ls (.int x :: .int z :: .ref (xB X + xkey r k0 i) :: rest)) := by
  subst hz
  refine x_iast hx hb hK hW hF.1 hF.2.1 (vp_in_nI hj hN) hdg (fun H1 locs1 hW1 => ?_)
  rw [nI_clamp (by omega)] at hW1
  exact kk H1 locs1 (XR.up3 (XG.put hF hr hW1) hσ)
theorem r_zast (hx : p.tables.exec = Jvm.exec) (hb : c.code = cc) (hK : XK X s) (hW : XR X G r σ H locs) {N : Nat} (hF : xF r k0 i 10 N) {z x : Int32} (j : Nat) (hj : j < N) (hN : N < 2 ^ 31) (hz : z = nI j) (hr : xro (xkey r k0 i) j = none) (hnr : narrow .boolean (.int x) = .int x) (hσ : xup3 σ k0 i j x = σ') (hdg : decode cc pc = .ok (.bastore, 1))
    (kk : ∀ (H : Heap) (locs : List Loc), XR X G r σ' H locs → W p l e R s m args below meth c H locs cells slots Q (F0 m (pc + 1) ls rest)) : W p l e R s m args below meth c H locs cells slots Q (F0 m pc ls (.int x :: .int z :: .ref (xB X + xkey r k0 i) :: rest)) := by
  subst hz
  refine x_zast hx hb hK hW hF.1 hF.2.1 (vp_in_nI hj hN) hnr hdg (fun H1 locs1 hW1 => ?_)
  rw [nI_clamp (by omega)] at hW1
  exact kk H1 locs1 (XR.up3 (XG.put hF hr hW1) hσ)
theorem r_cast (hx : p.tables.exec = Jvm.exec) (hb : c.code = cc) (hK : XK X s) (hW : XR X G r σ H locs) {N : Nat} (hF : xF r k0 i 9 N) {z x : Int32} (j : Nat) (hj : j < N) (hN : N < 2 ^ 31) (hz : z = nI j) (hr : xro (xkey r k0 i) j = none) (hnr : narrow .char (.int x) = .int x) (hσ : xup3 σ k0 i j x = σ') (hdg : decode cc pc = .ok (.castore, 1))
    (kk : ∀ (H : Heap) (locs : List Loc), XR X G r σ' H locs → W p l e R s m args below meth c H locs cells slots Q (F0 m (pc + 1) ls rest)) : W p l e R s m args below meth c H locs cells slots Q (F0 m pc ls (.int x :: .int z :: .ref (xB X + xkey r k0 i) :: rest)) := by
  subst hz
  refine x_cast hx hb hK hW hF.1 hF.2.1 (vp_in_nI hj hN) hnr hdg (fun H1 locs1 hW1 => ?_)
  rw [nI_clamp (by omega)] at hW1
  exact kk H1 locs1 (XR.up3 (XG.put hF hr hW1) hσ)
end XROWR
