/-! ===== the world: all cells from a base on, by number (key) and slot; one contract form for all methods ===== -/
abbrev xX : Type := va_G × Heap × (Nat → Nat)
abbrev xV : Type := Nat → Nat → Value
def xB (X : xX) : Nat := X.2.1.size
def x_at (D : va_G) (a : Nat) (k : Nat × Nat) (V : Nat → Value) (H : Heap) : Prop :=
  if k.1 < 8 then t_OB a (D.1 k.1) k.2 (D.2 k.1) H V else H[a]? = some (arrV (D.1 k.1) k.2 V)
theorem x_at.to {D : va_G} {a : Nat} {k : Nat × Nat} {V V' : Nat → Value} {H : Heap} (h : x_at D a k V H) (hv : ∀ j, j < k.2 → V j = V' j) : x_at D a k V' H := by
  unfold x_at at h ⊢
  by_cases hk : k.1 < 8
  · rw [if_pos hk] at h ⊢
    exact h.to hv
  · rw [if_neg hk] at h ⊢
    rw [h]
    unfold arrV
    congr 2
    apply Array.ext
    · simp
    · intro i h1 h2
      simp at h1
      simp [hv i h1]
theorem x_at.kept {D : va_G} {a : Nat} {k : Nat × Nat} {V : Nat → Value} {H H1 : Heap} (h : x_at D a k V H) (hq : H1[a]? = H[a]?) : x_at D a k V H1 := by
  unfold x_at at h ⊢
  by_cases hk : k.1 < 8
  · rw [if_pos hk] at h ⊢
    exact h.kept hq
  · rw [if_neg hk] at h ⊢
    rw [hq]; exact h
def XH (X : xX) (sh : Nat → Nat × Nat) (n : Nat) (V : xV) (H : Heap) (locs : List Loc) : Prop :=
  H.size = xB X + n ∧ (∀ k, k < n → x_at X.1 (xB X + k) (sh k) (V k) H) ∧ (∀ q, q < xB X → H[q]? = X.2.1[q]?) ∧ ∀ x ∈ locs, xB X ≤ x.base
theorem XH.to {X : xX} {sh : Nat → Nat × Nat} {n : Nat} {V V' : xV} {H : Heap} {locs : List Loc} (h : XH X sh n V H locs) (hv : ∀ k, k < n → ∀ j, j < (sh k).2 → V k j = V' k j) : XH X sh n V' H locs :=
  ⟨h.1, fun k hk => (h.2.1 k hk).to (hv k hk), h.2.2⟩
theorem XH.forget {X : xX} {sh : Nat → Nat × Nat} {n : Nat} {V : xV} {H : Heap} {locs : List Loc} (h : XH X sh n V H locs) : XH X sh n V H [] := ⟨h.1, h.2.1, h.2.2.1, fun _ h => by cases h⟩
def xup2 (V : xV) (k j : Nat) (v : Value) : xV := fun k' => if k' = k then (fun j' => if j' = j then v else V k j') else V k'
theorem XH.put {X : xX} {sh : Nat → Nat × Nat} {n : Nat} {V : xV} {H H1 : Heap} {locs : List Loc} (h : XH X sh n V H locs) {key j sl : Nat} {v : Value} (hk : key < n) (z : H1.size = H.size) (oq : ∀ q : Nat, q ≠ xB X + key → H1[q]? = H[q]?)
    (he : x_at X.1 (xB X + key) (sh key) (fun j' => if j' = j then v else V key j') H1) : XH X sh n (xup2 V key j v) H1 (locs ++ [⟨xB X + key, sl⟩]) := by
  refine ⟨by rw [z]; exact h.1, fun k hk' => ?_, fun q hq => ?_, fun x hx => ?_⟩
  · unfold xup2
    by_cases e : k = key
    · subst e
      rw [if_pos rfl]; exact he
    · rw [if_neg e]
      exact (h.2.1 k hk').kept (oq _ (fun q => e (by omega)))
  · rw [oq q (by omega)]; exact h.2.2.1 q hq
  · rcases List.mem_append.mp hx with h1 | h1
    · exact h.2.2.2 x h1
    · rw [List.mem_singleton.mp h1]; exact Nat.le_add_right _ _
/-- the kinds 8..14 are the arrays' -/
def xTys (D : va_G) : List (ClassId × FieldType) := [(D.1 8, .int), (D.1 9, .char), (D.1 10, .boolean), (D.1 11, .object RX4), (D.1 12, .object RX2), (D.1 13, .object RX1), (D.1 14, .object RX5)]
def xst (n : Nat) (f : Nat → Int32) (nm : String) (i : Nat) (X : xX) (U : State) : Prop := va_Z "CoughLamps" nm "[I" (.ref (X.2.2 i)) (fun q => xB X ≤ q) U X.2.1 ∧ va_T .int (X.2.2 i) n (fun j => .int (f j)) (fun q => xB X ≤ q) U X.2.1
def xf0 : Nat → Int32 := fun j => match j with | 0 => 3 | 1 => 14 | 2 => 8 | 3 => 6 | 4 => 2 | _ => 2
def xf1 : Nat → Int32 := fun j => match j with | 0 => 0 | 1 => 1 | 2 => 1 | 3 => 0 | 4 => 1 | _ => 0
def xf2 : Nat → Int32 := fun j => match j with | 0 => 20 | 1 => 60 | 2 => 50 | 3 => 50 | 4 => 10 | _ => 6
/-- links to a nest mate's private members: class, number, member -/
def xNestM : List (String × Nat × MethodName) := [(RX4, 42, yX2_init), (RX4, 43, yX1_init), (RX4, 44, yX5_init), (RX6, 36, yX3_init), (RX4, 68, yX6_within), (RX4, 78, yX6_isStep), (RX4, 115, yX6_isTicks)]
def xNestF : List (String × Nat × String) := [(RX4, 33, "FIRST_VALUES"), (RX4, 72, "LEAST_VALUES"), (RX4, 75, "MOST_VALUES")]
def XN (U : State) : Prop := (∀ q ∈ xNestM, va_Nw (.methodLinkNest q.1 q.2.1 q.2.2 RX6) U) ∧ ∀ q ∈ xNestF, va_Nw (.fieldLinkNest q.1 q.2.1 RX6 q.2.2 "[I" RX6) U
theorem XN.warm {s U : State} (hW : s.WarmedH U.vm) (h : XN s) : XN U := ⟨fun q hq => (h.1 q hq).warmM hW, fun q hq => (h.2 q hq).warmF hW⟩
theorem XN.same {s U : State} (hW : s.vm = U.vm) (h : XN s) : XN U := ⟨fun q hq => (h.1 q hq).same rfl hW, fun q hq => (h.2 q hq).same rfl hW⟩
def XK (X : xX) (U : State) : Prop := va_K X.1 vwCl (xTys X.1) U ∧ xst 6 xf0 "FIRST_VALUES" 0 X U ∧ xst 6 xf1 "LEAST_VALUES" 1 X U ∧ xst 6 xf2 "MOST_VALUES" 2 X U ∧ XN U
theorem xst.moved {n : Nat} {f : Nat → Int32} {nm : String} {i : Nat} {X : xX} {u U : State} (hvm : u.vm.Alike U.vm) (h : xst n f nm i X u) : xst n f nm i X U := ⟨h.1.moved hvm, h.2.moved hvm⟩
theorem XK.warm {X : xX} {u U : State} (hW : u.WarmedH U.vm) (h : XK X u) : XK X U := ⟨va_K.moved hW.alike h.1, h.2.1.moved hW.alike, h.2.2.1.moved hW.alike, h.2.2.2.1.moved hW.alike, h.2.2.2.2.warm hW⟩
theorem XK.same {X : xX} {u U : State} (hvm : u.vm = U.vm) (h : XK X u) : XK X U := by
  have ha : u.vm.Alike U.vm := by rw [hvm]; exact Vm.Alike.refl U.vm
  exact ⟨va_K.moved ha h.1, h.2.1.moved ha, h.2.2.1.moved ha, h.2.2.2.1.moved ha, h.2.2.2.2.same hvm⟩
def xQ (X : xX) (sh : Nat → Nat × Nat) (n' : Nat) (V' : xV) (r : Option Value) : Array Value → State → Outcome → State → Prop := fun _ _ o t => o = .returned r ∧ XH X sh n' V' t.heap []
def xP (X : xX) (sh : Nat → Nat × Nat) (n : Nat) (V : xV) (as : List Value) : Array Value → State → Prop := fun v U => v = as.toArray ∧ XK X U ∧ XH X sh n V U.heap []
/-- THE CONTRACT: from the world V of n cells the method y, called with as, answers r and leaves the world V' of n' cells -/
def XC (l : Launch) (y : MethodName) (bytes : ByteArray) (maxL : Nat) (ret : Option FieldType) (fr lo mc ms : Nat) (X : xX) (sh : Nat → Nat × Nat) (as : List Value) (n n' : Nat) (V V' : xV) (r : Option Value) : Prop :=
  Met l y (Cond.code y bytes maxL ret :: xT) { frames := fr, cells := mc, slots := ms, locals := lo } (xP X sh n V as) (xQ X sh n' V' r) mc ms (fun q => xB X ≤ q)
theorem XC.of {l : Launch} {y : MethodName} {bytes : ByteArray} {maxL : Nat} {ret : Option FieldType} {fr lo mc ms : Nat} {X : xX} {sh : Nat → Nat × Nat} {as : List Value} {n n' : Nat} {V V' : xV} {r : Option Value} (own nm : String) (lv : List (Nat × Value)) (hy : plainName y.cls = true) (how : y.cls = own) (hnm : y.name = nm) (hlen : (lg_sl as).length ≤ maxL) (hlv : lv_args 0 as = lv)
    (body : ∀ (p : Program) (e : Env) (s : State) (m : MethodId) (args : Array Value) (below : List Frame) (meth : Method) (c : Code) (ls : Array Slot), p.tables.exec = Jvm.exec → c.code = bytes → meth.sig.returnType = ret → c.maxLocals = maxL → (∀ w ∈ xT, w.before args s = true) → s.vm.findClass own = some m.cls → meth.locks = false → meth.name = nm → XK X s → XH X sh n V s.heap [] → lv_has ls maxL lv →
      W p l e { frames := fr, cells := mc, slots := ms, locals := lo } s m args below meth c s.heap [] 0 0 (MQ below (xQ X sh n' V' r) args s mc ms (fun q => xB X ≤ q)) (F0 m 0 ls [])) : XC l y bytes maxL ret fr lo mc ms X sh as n n' V V' r := by
  refine Met.ofW (cc := bytes) (maxL := maxL) (ret := ret) hy rfl ?_
  intro p e s m args below meth c s₁ B hml hv
  obtain ⟨rfl, hK, hW⟩ := hv
  have hts0 := atoms_spec (ws := Cond.code y bytes maxL ret :: xT) B.pre
  have hown : s.vm.findClass y.cls = some m.cls := findClass_of_methodNamed B.named
  rw [lg_entry_eq]
  exact body p e s m _ below meth c _ B.exec B.bytes B.returns hml (fun w h => hts0 w (List.mem_cons_of_mem _ h)) (how ▸ hown) B.notSynchronized (((name_of_methodNamed B.named B.method).1).trans hnm) hK hW (hlv ▸ lv_entry as hlen)
theorem xP.blind {X : xX} {sh : Nat → Nat × Nat} {n : Nat} {V : xV} {as : List Value} : FrameBlind (xP X sh n V as) := fun a U g mk q => ⟨q.1, XK.same (u := U) (U := U.calling g mk a) rfl q.2.1, q.2.2⟩
theorem x_good {w : Cond} (h : w ∈ xT) : w ∈ xT ∧ ((w.onTables && w.keeps) = true ∨ ∃ ty, w = .arrayClass ty) := ⟨h, good_of_word (List.all_eq_true.mp xT_good w h)⟩
theorem x_goodc {w : Cond} (hw : w ∈ xT) : GoodIn xT (w :: xT) := fun v h => by
  rcases List.mem_cons.mp h with rfl | h
  · exact x_good hw
  · exact x_good h
section XROWS
variable {p : Program} {l : Launch} {e : Env} {R : Room} {s : State} {m : MethodId} {args : Array Value} {below : List Frame} {meth : Method} {c : Code} {H : Heap} {locs : List Loc} {cells slots : Nat} {Q : State → Prop}
variable {cc : ByteArray} {pc : Nat} {ls : Array Slot} {rest : List Value} {X : xX} {sh : Nat → Nat × Nat} {n : Nat} {V : xV}
theorem x_get (hx : p.tables.exec = Jvm.exec) (hb : c.code = cc) (hts : ∀ w ∈ xT, w.before args s = true) {own ref C : String} {T : u_T} {N ci index key : Nat} (hin : ∀ w ∈ u_ws C T N, w ∈ xT) (hown : s.vm.findClass own = some m.cls) (hK : XK X s) (hW : XH X sh n V H locs) (hk : key < n) (hsh : sh key = (ci, N)) (hci : ci < 8) (hc : vwCl[ci]? = some (C, T, N)) (k : Nat) (hkN : k < N)
    (hlink : Cond.fieldLink own index ref (T k).2.1 (T k).2.2.1 ∈ xT) (href : (T k).1 = ref) {v : Value} (hv : V key k = v) (hdg : decode cc pc = .ok (.getfield index, 3))
    (kk : W p l e R s m args below meth c H locs cells slots Q (F0 m (pc + 3) ls (v :: rest))) : W p l e R s m args below meth c H locs cells slots Q (F0 m pc ls (.ref (xB X + key) :: rest)) := by
  have h0 := hW.2.1 key hk
  unfold x_at at h0
  rw [hsh, if_pos hci] at h0
  obtain ⟨cell, q1, q2, q3, q4⟩ := h0
  obtain ⟨hS, hfc, kC, hkC, hkind⟩ := hK.1.1 ci _ hc
  obtain ⟨cf, kf, fi, f, hi, hsl⟩ := hS k hkN
  refine W.getf hx hb hown (hts _ hlink) (href ▸ hi) (u_facts hfc hkC (u_lays hts hin hkN) hi).1 q1 (by rw [q3]; exact fun h => by cases h) (v := v) ?_ rfl rfl hdg kk
  rw [hsl, q4 k hkN, hv]
theorem x_apart (hts : ∀ w ∈ xT, w.before args s = true) {C : String} {T : u_T} {N ci : Nat} (hin : ∀ w ∈ u_ws C T N, w ∈ xT) (ty : Nat → FieldType) (hty : ∀ k, k < N → parseFieldDescriptor (T k).2.2.1 = some (ty k)) (hnm : ∀ a, a < N → ∀ b, b < N → a ≠ b → (T a).2.1 ≠ (T b).2.1) (hK : XK X s) (hc : vwCl[ci]? = some (C, T, N)) : ∀ x y, x < N → y < N → x ≠ y → (X.1.2 ci) x ≠ (X.1.2 ci) y :=
  va_apart (own := C) hts hin ty hty hnm hK.1 hc
theorem x_put0 (hx : p.tables.exec = Jvm.exec) (hb : c.code = cc) (hts : ∀ w ∈ xT, w.before args s = true) {own ref C : String} {T : u_T} {N ci index key : Nat} (hin : ∀ w ∈ u_ws C T N, w ∈ xT) (ty0 : Nat → FieldType) (hty : ∀ k, k < N → parseFieldDescriptor (T k).2.2.1 = some (ty0 k)) (hnm : ∀ a, a < N → ∀ b, b < N → a ≠ b → (T a).2.1 ≠ (T b).2.1) (hown : s.vm.findClass own = some m.cls) (hK : XK X s) (hW : XH X sh n V H locs) (hk : key < n) (hsh : sh key = (ci, N)) (hci : ci < 8) (hc : vwCl[ci]? = some (C, T, N)) (k : Nat) (hkN : k < N)
    (hlink : Cond.fieldLink own index ref (T k).2.1 (T k).2.2.1 ∈ xT) (href : (T k).1 = ref) {v : Value} (hS : ∀ (cf fi : Nat) (kf : Class) (fd : Field) (kC : Class), s.vm.findClass C = some (X.1.1 ci) → s.vm.classes[X.1.1 ci]? = some kC → kC.kind = .ordinary → s.fieldFound? (T k).1 (T k).2.1 (T k).2.2.1 = some (cf, kf, fi, fd) → Fd s m args own ref (T k).2.1 (T k).2.2.1 index fd ∧ k2_Sd s fd (X.1.1 ci) v) (hdg : decode cc pc = .ok (.putfield index, 3))
    (kk : ∀ (H1 : Heap) (locs1 : List Loc), XH X sh n (xup2 V key k v) H1 locs1 → W p l e R s m args below meth c H1 locs1 cells slots Q (F0 m (pc + 3) ls rest)) : W p l e R s m args below meth c H locs cells slots Q (F0 m pc ls (v :: .ref (xB X + key) :: rest)) := by
  have hap := x_apart hts hin ty0 hty hnm hK hc
  have h0 := hW.2.1 key hk
  unfold x_at at h0
  rw [hsh, if_pos hci] at h0
  obtain ⟨cell, q1, q2, q3, q4⟩ := h0
  obtain ⟨hSl, hfc, kC, hkC, hkind⟩ := hK.1.1 ci _ hc
  obtain ⟨cf, kf, fi, f, hi, hsl⟩ := hSl k hkN
  obtain ⟨hF, h6⟩ := hS cf fi kf f kC hfc hkC hkind hi
  refine W.putK hx hb (f := f) hF (by rw [q2]; exact h6) q1 q3 (by rw [hsl]; exact k2_hasslot (q4 k hkN)) rfl rfl hdg fun H' e1 e2 e3 => ?_
  rw [hsl] at e1 ⊢
  refine kk H' _ (hW.put hk e2 e3 ?_)
  unfold x_at
  rw [hsh, if_pos hci]
  exact t_OB.to (V := updV (V key) k v) ⟨_, e1, q2, q3, t_set q4 hap hkN v⟩ (fun j _ => rfl)
theorem x_put (hx : p.tables.exec = Jvm.exec) (hb : c.code = cc) (hts : ∀ w ∈ xT, w.before args s = true) {own ref C : String} {T : u_T} {N ci index key : Nat} (hin : ∀ w ∈ u_ws C T N, w ∈ xT) (ty0 : Nat → FieldType) (hty : ∀ k, k < N → parseFieldDescriptor (T k).2.2.1 = some (ty0 k)) (hnm : ∀ a, a < N → ∀ b, b < N → a ≠ b → (T a).2.1 ≠ (T b).2.1) (hown : s.vm.findClass own = some m.cls) (hK : XK X s) (hW : XH X sh n V H locs) (hk : key < n) (hsh : sh key = (ci, N)) (hci : ci < 8) (hc : vwCl[ci]? = some (C, T, N)) (k : Nat) (hkN : k < N)
    (hlink : Cond.fieldLink own index ref (T k).2.1 (T k).2.2.1 ∈ xT) (href : (T k).1 = ref) (hfin : (T k).2.2.2 = false) {v : Value} (hn : narrow (ty0 k) v = v) (hfit : fits (ty0 k) v = true) (hdg : decode cc pc = .ok (.putfield index, 3))
    (kk : ∀ (H1 : Heap) (locs1 : List Loc), XH X sh n (xup2 V key k v) H1 locs1 → W p l e R s m args below meth c H1 locs1 cells slots Q (F0 m (pc + 3) ls rest)) : W p l e R s m args below meth c H locs cells slots Q (F0 m pc ls (v :: .ref (xB X + key) :: rest)) := by
  refine x_put0 hx hb hts hin ty0 hty hnm hown hK hW hk hsh hci hc k hkN hlink href (fun cf fi kf fd kC hfc hkC hkind hi => ?_) hdg kk
  have hlay := hts _ (hin _ (u_in_lay hkN))
  unfold u_lay at hlay
  rw [if_neg (by rw [hfin]; decide)] at hlay
  have hst := (u_facts hfc hkC (u_lays hts hin hkN) hi).1
  exact ⟨⟨hown, hts _ hlink, ⟨_, _, _, href ▸ hi⟩, hst⟩, u_store hfc hkC hkind hlay hi (hty k hkN) hn hfit⟩
theorem x_iald (hx : p.tables.exec = Jvm.exec) (hb : c.code = cc) (hK : XK X s) (hW : XH X sh n V H locs) {key N : Nat} (hk : key < n) (hsh : sh key = (8, N)) {i : Int32} (hin : vp_in i N) {v : Value} (hv : V key i.toNatClampNeg = v) (hdg : decode cc pc = .ok (.iaload, 1))
    (kk : W p l e R s m args below meth c H locs cells slots Q (F0 m (pc + 1) ls (v :: rest))) : W p l e R s m args below meth c H locs cells slots Q (F0 m pc ls (.int i :: .ref (xB X + key) :: rest)) := by
  have h0 := hW.2.1 key hk
  unfold x_at at h0
  rw [hsh, if_neg (by show ¬ (8 : Nat) < 8; omega)] at h0
  have hlt : i.toNatClampNeg < N := Nat.not_le.mp fun q => hin (Or.inr q)
  exact W.iald (v := v) hx hb h0 ((hK.1.2 0 _ rfl).1 N (V key)) (fun q => by cases q) (by show ¬ (i < 0 ∨ (arrV _ _ _).slots.size ≤ _); rw [arrV_size]; exact hin) (by rw [arrV_read _ _ hlt, hv]) rfl rfl hdg kk
theorem x_cald (hx : p.tables.exec = Jvm.exec) (hb : c.code = cc) (hK : XK X s) (hW : XH X sh n V H locs) {key N : Nat} (hk : key < n) (hsh : sh key = (9, N)) {i : Int32} (hin : vp_in i N) {v : Value} (hv : V key i.toNatClampNeg = v) (hdg : decode cc pc = .ok (.caload, 1))
    (kk : W p l e R s m args below meth c H locs cells slots Q (F0 m (pc + 1) ls (v :: rest))) : W p l e R s m args below meth c H locs cells slots Q (F0 m pc ls (.int i :: .ref (xB X + key) :: rest)) := by
  have h0 := hW.2.1 key hk
  unfold x_at at h0
  rw [hsh, if_neg (by show ¬ (9 : Nat) < 8; omega)] at h0
  have hlt : i.toNatClampNeg < N := Nat.not_le.mp fun q => hin (Or.inr q)
  exact W.cald (v := v) hx hb h0 ((hK.1.2 1 _ rfl).1 N (V key)) (fun q => by cases q) (by show ¬ (i < 0 ∨ (arrV _ _ _).slots.size ≤ _); rw [arrV_size]; exact hin) (by rw [arrV_read _ _ hlt, hv]) rfl rfl hdg kk
theorem x_zald (hx : p.tables.exec = Jvm.exec) (hb : c.code = cc) (hK : XK X s) (hW : XH X sh n V H locs) {key N : Nat} (hk : key < n) (hsh : sh key = (10, N)) {i : Int32} (hin : vp_in i N) {v : Value} (hv : V key i.toNatClampNeg = v) (hdg : decode cc pc = .ok (.baload, 1))
    (kk : W p l e R s m args below meth c H locs cells slots Q (F0 m (pc + 1) ls (v :: rest))) : W p l e R s m args below meth c H locs cells slots Q (F0 m pc ls (.int i :: .ref (xB X + key) :: rest)) := by
  have h0 := hW.2.1 key hk
  unfold x_at at h0
  rw [hsh, if_neg (by show ¬ (10 : Nat) < 8; omega)] at h0
  have hlt : i.toNatClampNeg < N := Nat.not_le.mp fun q => hin (Or.inr q)
  exact W.zald (v := v) hx hb h0 ((hK.1.2 2 _ rfl).1 N (V key)) (fun q => by cases q) (by show ¬ (i < 0 ∨ (arrV _ _ _).slots.size ≤ _); rw [arrV_size]; exact hin) (by rw [arrV_read _ _ hlt, hv]) rfl rfl hdg kk
theorem x_aald (hx : p.tables.exec = Jvm.exec) (hb : c.code = cc) (hK : XK X s) (hW : XH X sh n V H locs) {key N kd : Nat} {C : String} (hk : key < n) (hsh : sh key = (kd, N)) (hkd : 8 ≤ kd) (t0 : Nat) (ht : (xTys X.1)[t0]? = some (X.1.1 kd, .object C)) {i : Int32} (hin : vp_in i N) {v : Value} (hv : V key i.toNatClampNeg = v) (hdg : decode cc pc = .ok (.aaload, 1))
    (kk : W p l e R s m args below meth c H locs cells slots Q (F0 m (pc + 1) ls (v :: rest))) : W p l e R s m args below meth c H locs cells slots Q (F0 m pc ls (.int i :: .ref (xB X + key) :: rest)) := by
  have h0 := hW.2.1 key hk
  unfold x_at at h0
  rw [hsh, if_neg (by show ¬ kd < 8; omega)] at h0
  have hlt : i.toNatClampNeg < N := Nat.not_le.mp fun q => hin (Or.inr q)
  exact W.aald (v := v) (ty := .object C) hx hb h0 ((hK.1.2 t0 _ ht).1 N (V key)) rfl (fun q => by cases q) (by show ¬ (i < 0 ∨ (arrV _ _ _).slots.size ≤ _); rw [arrV_size]; exact hin) (by rw [arrV_read _ _ hlt, hv]) rfl rfl hdg kk
theorem x_arr_put (hW : XH X sh n V H locs) {key N kd j : Nat} {v : Value} (hk : key < n) (hsh : sh key = (kd, N)) (hkd : 8 ≤ kd) {H1 : Heap} (e : H1[xB X + key]? = some ((arrV (X.1.1 kd) N (V key)).setSlot j v)) (z : H1.size = H.size) (oq : ∀ q : Nat, q ≠ xB X + key → H1[q]? = H[q]?) {sl : Nat} : XH X sh n (xup2 V key j v) H1 (locs ++ [⟨xB X + key, sl⟩]) := by
  refine hW.put hk z oq ?_
  unfold x_at
  rw [hsh, if_neg (by show ¬ kd < 8; omega), e, arrV_store]
  rfl
theorem x_iast (hx : p.tables.exec = Jvm.exec) (hb : c.code = cc) (hK : XK X s) (hW : XH X sh n V H locs) {key N : Nat} (hk : key < n) (hsh : sh key = (8, N)) {i x : Int32} (hin : vp_in i N) (hdg : decode cc pc = .ok (.iastore, 1))
    (kk : ∀ (H1 : Heap) (locs1 : List Loc), XH X sh n (xup2 V key i.toNatClampNeg (.int x)) H1 locs1 → W p l e R s m args below meth c H1 locs1 cells slots Q (F0 m (pc + 1) ls rest)) : W p l e R s m args below meth c H locs cells slots Q (F0 m pc ls (.int x :: .int i :: .ref (xB X + key) :: rest)) := by
  have h0 := hW.2.1 key hk
  unfold x_at at h0
  rw [hsh, if_neg (by show ¬ (8 : Nat) < 8; omega)] at h0
  exact W.iast hx hb h0 ((hK.1.2 0 _ rfl).1 N (V key)) (fun q => by cases q) (by show ¬ (i < 0 ∨ (arrV _ _ _).slots.size ≤ _); rw [arrV_size]; exact hin) rfl rfl hdg fun H1 e z oq => kk H1 _ (x_arr_put hW hk hsh (by decide) e z oq)
theorem x_zast (hx : p.tables.exec = Jvm.exec) (hb : c.code = cc) (hK : XK X s) (hW : XH X sh n V H locs) {key N : Nat} (hk : key < n) (hsh : sh key = (10, N)) {i x : Int32} (hin : vp_in i N) (hnr : narrow .boolean (.int x) = .int x) (hdg : decode cc pc = .ok (.bastore, 1))
    (kk : ∀ (H1 : Heap) (locs1 : List Loc), XH X sh n (xup2 V key i.toNatClampNeg (.int x)) H1 locs1 → W p l e R s m args below meth c H1 locs1 cells slots Q (F0 m (pc + 1) ls rest)) : W p l e R s m args below meth c H locs cells slots Q (F0 m pc ls (.int x :: .int i :: .ref (xB X + key) :: rest)) := by
  have h0 := hW.2.1 key hk
  unfold x_at at h0
  rw [hsh, if_neg (by show ¬ (10 : Nat) < 8; omega)] at h0
  exact W.zast hx hb h0 ((hK.1.2 2 _ rfl).1 N (V key)) (fun q => by cases q) (by show ¬ (i < 0 ∨ (arrV _ _ _).slots.size ≤ _); rw [arrV_size]; exact hin) rfl rfl hdg fun H1 e z oq => kk H1 _ (x_arr_put hW hk hsh (by decide) (by rw [hnr] at e; exact e) z oq)
theorem x_cast (hx : p.tables.exec = Jvm.exec) (hb : c.code = cc) (hK : XK X s) (hW : XH X sh n V H locs) {key N : Nat} (hk : key < n) (hsh : sh key = (9, N)) {i x : Int32} (hin : vp_in i N) (hnr : narrow .char (.int x) = .int x) (hdg : decode cc pc = .ok (.castore, 1))
    (kk : ∀ (H1 : Heap) (locs1 : List Loc), XH X sh n (xup2 V key i.toNatClampNeg (.int x)) H1 locs1 → W p l e R s m args below meth c H1 locs1 cells slots Q (F0 m (pc + 1) ls rest)) : W p l e R s m args below meth c H locs cells slots Q (F0 m pc ls (.int x :: .int i :: .ref (xB X + key) :: rest)) := by
  have h0 := hW.2.1 key hk
  unfold x_at at h0
  rw [hsh, if_neg (by show ¬ (9 : Nat) < 8; omega)] at h0
  exact W.cast hx hb h0 ((hK.1.2 1 _ rfl).1 N (V key)) (fun q => by cases q) (by show ¬ (i < 0 ∨ (arrV _ _ _).slots.size ≤ _); rw [arrV_size]; exact hin) rfl rfl hdg fun H1 e z oq => kk H1 _ (x_arr_put hW hk hsh (by decide) (by rw [hnr] at e; exact e) z oq)
/-! calls -/
theorem x_after {y : MethodName} {mc ms : Nat} {g : JFrame} {n' : Nat} {V' : xV} {r : Option Value} {a : Array Value} (hr : CallRun p l e R s m args below meth c H locs cells slots mc ms g rest (xQ X sh n' V' r a) (fun q => xB X ≤ q)) (hW : XH X sh n V H locs)
    (kk : ∀ (H1 : Heap) (locs1 : List Loc), XH X sh n' V' H1 locs1 → W p l e R s m args below meth c H1 locs1 (cells + mc) (slots + ms) Q { g with pc := g.pc + 3, stack := r.toList ++ rest }) : W p l e R s m args below meth c H locs cells slots Q g := by
  intro T hT X0
  obtain ⟨v, st₀, t, T', L, h0, X', hL, e1, ⟨hv, hh⟩, st⟩ := hr T hT X0
  cases hv
  obtain ⟨t2, a1, b1⟩ := kk T'.heap (locs ++ L) (by rw [e1]; exact ⟨hh.1, hh.2.1, hh.2.2.1, fun x hx => (List.mem_append.mp hx).elim (hW.2.2.2 x) (hL x)⟩) T' rfl X'
  exact ⟨t2, st t2 a1, b1⟩
theorem x_pre {as : List Value} (hK : XK X s) (hW : XH X sh n V H locs) : PreS s H (xP X sh n V as) as := ⟨xP.blind, fun U hU hw => ⟨rfl, hK.warm hw, by rw [hU]; exact hW.forget⟩⟩
theorem x_recv (hK : XK X s) (hW : XH X sh n V H locs) {b ci N : Nat} {C : String} {T : u_T} (hk : b < n) (hsh : sh b = (ci, N)) (hci : ci < 8) (hc : vwCl[ci]? = some (C, T, N)) : ∃ cellB : Cell, H[xB X + b]? = some cellB ∧ cellB.vm.isStatics = false ∧ s.vm.findClass C = some cellB.cls := by
  have h0 := hW.2.1 b hk
  unfold x_at at h0
  rw [hsh, if_pos hci] at h0
  obtain ⟨cell, q1, q2, q3, -⟩ := h0
  obtain ⟨-, hfc, -⟩ := hK.1.1 ci _ hc
  exact ⟨cell, q1, by rw [q3]; rfl, by rw [q2]; exact hfc⟩
theorem x_callV (hx : p.tables.exec = Jvm.exec) (hb : c.code = cc) {nL : Nat} (hml : c.maxLocals = nL) {own C : String} (hown : s.vm.findClass own = some m.cls) (hts : ∀ w ∈ xT, w.before args s = true) (hK : XK X s) (hW : XH X sh n V H locs) (hls : ls.size = nL)
    {y : MethodName} {bytes : ByteArray} {maxL : Nat} {ret : Option FieldType} {fr lo mc ms : Nat} {b ci N : Nat} {T : u_T} {As : List Value} {n' : Nat} {V' : xV} {r : Option Value} (hM : XC l y bytes maxL ret fr lo mc ms X sh (.ref (xB X + b) :: As) n n' V V' r)
    (hk : b < n) (hsh : sh b = (ci, N)) (hci : ci < 8) (hc : vwCl[ci]? = some (C, T, N)) {idx : Nat} (h1 : Cond.methodLink own idx y ∈ xT) (h2 : Cond.instanceMethod y ∈ xT) (h3 : Cond.selects C y y ∈ xT) (h4 : Cond.initialized C ∈ xT) (h5 : Cond.code y bytes maxL ret ∈ xT)
    (hd : y.cls = C ∧ y.cls ≠ "java/lang/invoke/MethodHandle" ∧ y.cls ≠ "java/lang/invoke/VarHandle" ∧ (parseMethodDescriptor y.desc).map (fun d => d.parameters.length) = some As.length) (hR : fr + 1 ≤ R.frames ∧ 8 + (maxL + 11) + lo ≤ R.locals) {st : List Value} (hst : st = As.reverse ++ .ref (xB X + b) :: rest) (hro : (rest.map fun v => v.category).sum ≤ 8) (hf : cells + mc ≤ R.cells ∧ slots + ms ≤ R.slots) (hdg : decode cc pc = .ok (.invokevirtual idx, 3))
    (kk : ∀ (H1 : Heap) (locs1 : List Loc), XH X sh n' V' H1 locs1 → W p l e R s m args below meth c H1 locs1 (cells + mc) (slots + ms) Q (F0 m (pc + 3) ls (r.toList ++ rest))) : W p l e R s m args below meth c H locs cells slots Q (F0 m pc ls st) := by
  have hG : GoodIn xT (wsV own idx C y (Cond.code y bytes maxL ret :: xT)) := fun w hw => by
    unfold wsV at hw
    rcases List.mem_append.mp hw with h | h
    · simp only [List.mem_cons, List.not_mem_nil, or_false] at h
      rcases h with rfl | rfl | rfl | rfl
      · exact x_good h1
      · exact x_good h2
      · exact x_good h3
      · exact x_good h4
    · exact x_goodc h5 w h
  have hp := x_pre (as := .ref (xB X + b) :: As) hK hW
  exact x_after (y := y) (W.runV (Ts := xT) (nL := nL) (n := As.length) (own := own) ⟨hx, hb, hml, hown, hts⟩ hM (cwV As.length hts hG rfl rfl rfl hd hR) ⟨hp.1, x_recv hK hW hk hsh hci hc, hp.2⟩ rfl rfl hls hst (lv_room hro) hdg hf) hW kk
theorem x_callS (hx : p.tables.exec = Jvm.exec) (hb : c.code = cc) {nL : Nat} (hml : c.maxLocals = nL) {own : String} (hown : s.vm.findClass own = some m.cls) (hts : ∀ w ∈ xT, w.before args s = true) (hK : XK X s) (hW : XH X sh n V H locs) (hls : ls.size = nL)
    {y : MethodName} {bytes : ByteArray} {maxL : Nat} {ret : Option FieldType} {fr lo mc ms : Nat} {As : List Value} {n' : Nat} {V' : xV} {r : Option Value} (hM : XC l y bytes maxL ret fr lo mc ms X sh As n n' V V' r)
    {idx : Nat} (h1 : Cond.methodLink own idx y ∈ xT) (h2 : Cond.static y ∈ xT) (h4 : Cond.initialized y.cls ∈ xT) (h5 : Cond.code y bytes maxL ret ∈ xT)
    (hd : y.cls ≠ "java/lang/invoke/MethodHandle" ∧ y.cls ≠ "java/lang/invoke/VarHandle" ∧ (parseMethodDescriptor y.desc).map (fun d => d.parameters.length) = some As.length) (hR : fr + 1 ≤ R.frames ∧ 8 + (maxL + 11) + lo ≤ R.locals) {st : List Value} (hst : st = As.reverse ++ rest) (hro : (rest.map fun v => v.category).sum ≤ 8) (hf : cells + mc ≤ R.cells ∧ slots + ms ≤ R.slots) (hdg : decode cc pc = .ok (.invokestatic idx, 3))
    (kk : ∀ (H1 : Heap) (locs1 : List Loc), XH X sh n' V' H1 locs1 → W p l e R s m args below meth c H1 locs1 (cells + mc) (slots + ms) Q (F0 m (pc + 3) ls (r.toList ++ rest))) : W p l e R s m args below meth c H locs cells slots Q (F0 m pc ls st) := by
  have hG : GoodIn xT (va_wsS own idx y (Cond.code y bytes maxL ret :: xT)) := fun w hw => by
    unfold va_wsS at hw
    rcases List.mem_append.mp hw with h | h
    · simp only [List.mem_cons, List.not_mem_nil, or_false] at h
      rcases h with rfl | rfl | rfl
      · exact x_good h1
      · exact x_good h2
      · exact x_good h4
    · exact x_goodc h5 w h
  exact x_after (y := y) (W.runS (Ts := xT) (nL := nL) (n := As.length) (own := own) ⟨hx, hb, hml, hown, hts⟩ hM (va_cwS As.length hts hG rfl rfl rfl hd hR) (x_pre hK hW) rfl rfl hls hst (lv_room hro) hdg hf) hW kk
theorem x_callI (hx : p.tables.exec = Jvm.exec) (hb : c.code = cc) {nL : Nat} (hml : c.maxLocals = nL) {own : String} (hown : s.vm.findClass own = some m.cls) (hts : ∀ w ∈ xT, w.before args s = true) (hK : XK X s) (hW : XH X sh n V H locs) (hls : ls.size = nL)
    {y : MethodName} {bytes : ByteArray} {maxL : Nat} {fr lo mc ms : Nat} {b : Nat} {As : List Value} {n' : Nat} {V' : xV} (hM : XC l y bytes maxL none fr lo mc ms X sh (.ref (xB X + b) :: As) n n' V V' none)
    {idx : Nat} (h1 : Cond.methodLink own idx y ∈ xT) (h2 : Cond.instanceMethod y ∈ xT) (h4 : Cond.initialized y.cls ∈ xT) (h5 : Cond.code y bytes maxL none ∈ xT) (hy1 : y.name = "<init>")
    (hd : y.cls ≠ "java/lang/invoke/MethodHandle" ∧ y.cls ≠ "java/lang/invoke/VarHandle" ∧ (parseMethodDescriptor y.desc).map (fun d => d.parameters.length) = some As.length) (hR : fr + 1 ≤ R.frames ∧ 8 + (maxL + 11) + lo ≤ R.locals) {st : List Value} (hst : st = As.reverse ++ .ref (xB X + b) :: rest) (hro : (rest.map fun v => v.category).sum ≤ 8) (hf : cells + mc ≤ R.cells ∧ slots + ms ≤ R.slots) (hdg : decode cc pc = .ok (.invokespecial idx, 3))
    (kk : ∀ (H1 : Heap) (locs1 : List Loc), XH X sh n' V' H1 locs1 → W p l e R s m args below meth c H1 locs1 (cells + mc) (slots + ms) Q (F0 m (pc + 3) ls rest)) : W p l e R s m args below meth c H locs cells slots Q (F0 m pc ls st) := by
  exact x_after (r := none) (y := y) (W.runI (Ts := xT) (nL := nL) (n := As.length) (own := own) ⟨hx, hb, hml, hown, hts⟩ hM (cwI As.length hts (x_goodc h5) rfl rfl rfl (hts _ h4) (hts _ h1) (hts _ h2) hy1 hd hR) (x_pre hK hW) rfl rfl hls hst (lv_room hro) hdg hf) hW kk
theorem x_callSN (hx : p.tables.exec = Jvm.exec) (hb : c.code = cc) {nL : Nat} (hml : c.maxLocals = nL) {own : String} (hown : s.vm.findClass own = some m.cls) (hts : ∀ w ∈ xT, w.before args s = true) (hK : XK X s) (hW : XH X sh n V H locs) (hls : ls.size = nL)
    {y : MethodName} {bytes : ByteArray} {maxL : Nat} {ret : Option FieldType} {fr lo mc ms : Nat} {As : List Value} {n' : Nat} {V' : xV} {r : Option Value} (hM : XC l y bytes maxL ret fr lo mc ms X sh As n n' V V' r)
    {idx : Nat} (h1 : (own, idx, y) ∈ xNestM) (h2 : Cond.static y ∈ xT) (h4 : Cond.initialized y.cls ∈ xT) (h5 : Cond.code y bytes maxL ret ∈ xT)
    (hd : y.cls ≠ "java/lang/invoke/MethodHandle" ∧ y.cls ≠ "java/lang/invoke/VarHandle" ∧ (parseMethodDescriptor y.desc).map (fun d => d.parameters.length) = some As.length) (hR : fr + 1 ≤ R.frames ∧ 8 + (maxL + 11) + lo ≤ R.locals) {st : List Value} (hst : st = As.reverse ++ rest) (hro : (rest.map fun v => v.category).sum ≤ 8) (hf : cells + mc ≤ R.cells ∧ slots + ms ≤ R.slots) (hdg : decode cc pc = .ok (.invokestatic idx, 3))
    (kk : ∀ (H1 : Heap) (locs1 : List Loc), XH X sh n' V' H1 locs1 → W p l e R s m args below meth c H1 locs1 (cells + mc) (slots + ms) Q (F0 m (pc + 3) ls (r.toList ++ rest))) : W p l e R s m args below meth c H locs cells slots Q (F0 m pc ls st) := by
  have hN := hK.2.2.2.2.1 _ h1
  have hr : va_Run p l e R s m args below meth c H locs cells slots mc ms (F0 m pc ls st) rest (xQ X sh n' V' r As.toArray) (fun q => xB X ≤ q) := va_runSN (rest := rest) (Ts := xT) (nL := nL) (n := As.length) (own := own) (host := RX6) ⟨hx, hb, hml, hown, hts⟩ hM ⟨va_cnB As.length hts (x_goodc h5) rfl rfl rfl hN (hts _ h4) hd hR, hts _ h2, trivial⟩ (x_pre hK hW) (g := F0 m pc ls st) rfl rfl hls hst (lv_room hro) hdg hf
  exact x_after (y := y) (fun T hT X0 => by obtain ⟨v, st₀, t, T', L, h0, X', hL, e1, e2, hq, st⟩ := hr T hT X0; exact ⟨v, st₀, t, T', L, h0, X', hL, e1, hq, st⟩) hW kk
theorem x_callIN (hx : p.tables.exec = Jvm.exec) (hb : c.code = cc) {nL : Nat} (hml : c.maxLocals = nL) {own : String} (hown : s.vm.findClass own = some m.cls) (hts : ∀ w ∈ xT, w.before args s = true) (hK : XK X s) (hW : XH X sh n V H locs) (hls : ls.size = nL)
    {y : MethodName} {bytes : ByteArray} {maxL : Nat} {fr lo mc ms : Nat} {b : Nat} {As : List Value} {n' : Nat} {V' : xV} (hM : XC l y bytes maxL none fr lo mc ms X sh (.ref (xB X + b) :: As) n n' V V' none)
    {idx : Nat} (h1 : (own, idx, y) ∈ xNestM) (h2 : Cond.instanceMethod y ∈ xT) (h4 : Cond.initialized y.cls ∈ xT) (h5 : Cond.code y bytes maxL none ∈ xT) (hy1 : y.name = "<init>")
    (hd : y.cls ≠ "java/lang/invoke/MethodHandle" ∧ y.cls ≠ "java/lang/invoke/VarHandle" ∧ (parseMethodDescriptor y.desc).map (fun d => d.parameters.length) = some As.length) (hR : fr + 1 ≤ R.frames ∧ 8 + (maxL + 11) + lo ≤ R.locals) {st : List Value} (hst : st = As.reverse ++ .ref (xB X + b) :: rest) (hro : (rest.map fun v => v.category).sum ≤ 8) (hf : cells + mc ≤ R.cells ∧ slots + ms ≤ R.slots) (hdg : decode cc pc = .ok (.invokespecial idx, 3))
    (kk : ∀ (H1 : Heap) (locs1 : List Loc), XH X sh n' V' H1 locs1 → W p l e R s m args below meth c H1 locs1 (cells + mc) (slots + ms) Q (F0 m (pc + 3) ls rest)) : W p l e R s m args below meth c H locs cells slots Q (F0 m pc ls st) := by
  have hN := hK.2.2.2.2.1 _ h1
  have hr : va_Run p l e R s m args below meth c H locs cells slots mc ms (F0 m pc ls st) rest (xQ X sh n' V' none (Value.ref (xB X + b) :: As).toArray) (fun q => xB X ≤ q) := va_runIN (rest := rest) (Ts := xT) (nL := nL) (n := As.length) (own := own) (host := RX6) ⟨hx, hb, hml, hown, hts⟩ hM ⟨va_cnB As.length hts (x_goodc h5) rfl rfl rfl hN (hts _ h4) hd hR, hy1, hts _ h2⟩ (x_pre hK hW) (g := F0 m pc ls st) rfl rfl hls hst (lv_room hro) hdg hf
  exact x_after (r := none) (y := y) (fun T hT X0 => by obtain ⟨v, st₀, t, T', L, h0, X', hL, e1, e2, hq, st⟩ := hr T hT X0; exact ⟨v, st₀, t, T', L, h0, X', hL, e1, hq, st⟩) hW kk
/-! ends -/
theorem x_iret {n' : Nat} {V' : xV} {r : Option Value} {v : Int32} {ty : FieldType} (hx : p.tables.exec = Jvm.exec) (hb : c.code = cc) (hr : meth.sig.returnType = some ty) (hlocks : meth.locks = false) (hn : narrow ty (.int v) = .int v) (hW : XH X sh n' V' H locs) (hv : r = some (.int v)) (hdg : decode cc pc = .ok (.ireturn, 1)) :
    W p l e R s m args below meth c H locs cells slots (MQ below (xQ X sh n' V' r) args s cells slots (fun q => xB X ≤ q)) (F0 m pc ls [.int v]) :=
  W.zret hx hb hr hn (fun t ht _ => ⟨by rw [hv], by rw [ht]; exact hW.forget⟩) hW.2.2.2 hdg hlocks
theorem x_vret {n' : Nat} {V' : xV} {r : Option Value} (hx : p.tables.exec = Jvm.exec) (hb : c.code = cc) (hr : meth.sig.returnType = none) (hlocks : meth.locks = false) (hW : XH X sh n' V' H locs) (hv : r = none) (hdg : decode cc pc = .ok (.return_, 1)) :
    W p l e R s m args below meth c H locs cells slots (MQ below (xQ X sh n' V' r) args s cells slots (fun q => xB X ≤ q)) (F0 m pc ls []) :=
  W.vret hx hb hr (fun t ht _ => ⟨by rw [hv], by rw [ht]; exact hW.forget⟩) hW.2.2.2 hdg hlocks
end XROWS
