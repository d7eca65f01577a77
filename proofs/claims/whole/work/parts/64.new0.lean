/-! ===== a world that grows: constructors ===== -/
def xOv (U : State) : Prop := va_AO RX4 U ∧ va_AO RX2 U ∧ va_AO RX1 U ∧ va_AO RX5 U
theorem xOv.moved {u U : State} (hvm : u.vm.Alike U.vm) (h : xOv u) : xOv U := ⟨h.1.moved hvm, h.2.1.moved hvm, h.2.2.1.moved hvm, h.2.2.2.moved hvm⟩
def yK (X : xX) (U : State) : Prop := XK X U ∧ xOv U
theorem yK.warm {X : xX} {u U : State} (hW : u.WarmedH U.vm) (h : yK X u) : yK X U := ⟨h.1.warm hW, h.2.moved hW.alike⟩
theorem yK.same {X : xX} {u U : State} (hvm : u.vm = U.vm) (h : yK X u) : yK X U := ⟨h.1.same hvm, h.2.moved (by rw [hvm]; exact Vm.Alike.refl U.vm)⟩
def yP (X : xX) (sh : Nat → Nat × Nat) (n : Nat) (V : xV) (as : List Value) : Array Value → State → Prop := fun v U => v = as.toArray ∧ yK X U ∧ XH X sh n V U.heap []
/-- the contract of a constructor -/
def YC (l : Launch) (y : MethodName) (bytes : ByteArray) (maxL : Nat) (ret : Option FieldType) (fr lo mc ms : Nat) (X : xX) (sh : Nat → Nat × Nat) (as : List Value) (n n' : Nat) (V V' : xV) (r : Option Value) : Prop :=
  Met l y (Cond.code y bytes maxL ret :: xT) { frames := fr, cells := mc, slots := ms, locals := lo } (yP X sh n V as) (xQ X sh n' V' r) mc ms (fun q => xB X ≤ q)
theorem YC.of {l : Launch} {y : MethodName} {bytes : ByteArray} {maxL : Nat} {ret : Option FieldType} {fr lo mc ms : Nat} {X : xX} {sh : Nat → Nat × Nat} {as : List Value} {n n' : Nat} {V V' : xV} {r : Option Value} (own nm : String) (lv : List (Nat × Value)) (hy : plainName y.cls = true) (how : y.cls = own) (hnm : y.name = nm) (hlen : (lg_sl as).length ≤ maxL) (hlv : lv_args 0 as = lv)
    (body : ∀ (p : Program) (e : Env) (s : State) (m : MethodId) (args : Array Value) (below : List Frame) (meth : Method) (c : Code) (ls : Array Slot), p.tables.exec = Jvm.exec → c.code = bytes → meth.sig.returnType = ret → c.maxLocals = maxL → (∀ w ∈ xT, w.before args s = true) → s.vm.findClass own = some m.cls → meth.locks = false → meth.name = nm → yK X s → XH X sh n V s.heap [] → lv_has ls maxL lv →
      W p l e { frames := fr, cells := mc, slots := ms, locals := lo } s m args below meth c s.heap [] 0 0 (MQ below (xQ X sh n' V' r) args s mc ms (fun q => xB X ≤ q)) (F0 m 0 ls [])) : YC l y bytes maxL ret fr lo mc ms X sh as n n' V V' r := by
  refine Met.ofW (cc := bytes) (maxL := maxL) (ret := ret) hy rfl ?_
  intro p e s m args below meth c s₁ B hml hv
  obtain ⟨rfl, hK, hW⟩ := hv
  have hts0 := atoms_spec (ws := Cond.code y bytes maxL ret :: xT) B.pre
  have hown : s.vm.findClass y.cls = some m.cls := findClass_of_methodNamed B.named
  rw [lg_entry_eq]
  exact body p e s m _ below meth c _ B.exec B.bytes B.returns hml (fun w h => hts0 w (List.mem_cons_of_mem _ h)) (how ▸ hown) B.notSynchronized (((name_of_methodNamed B.named B.method).1).trans hnm) hK hW (hlv ▸ lv_entry as hlen)
theorem yP.blind {X : xX} {sh : Nat → Nat × Nat} {n : Nat} {V : xV} {as : List Value} : FrameBlind (yP X sh n V as) := fun a U g mk q => ⟨q.1, yK.same (u := U) (U := U.calling g mk a) rfl q.2.1, q.2.2⟩
theorem XH.grow {X : xX} {sh : Nat → Nat × Nat} {n : Nat} {V : xV} {H H1 : Heap} {locs : List Loc} {w : Nat → Value} (h : XH X sh n V H locs) (z : H1.size = xB X + n + 1) (oq : ∀ q : Nat, q < xB X + n → H1[q]? = H[q]?) (he : x_at X.1 (xB X + n) (sh n) w H1) : XH X sh (n + 1) (va_up V n w) H1 locs := by
  refine ⟨by omega, fun k hk => ?_, fun q hq => by rw [oq q (by omega)]; exact h.2.2.1 q hq, h.2.2.2⟩
  by_cases e : k = n
  · subst e
    rw [show va_up V k w k = w from by simp [va_up]]
    exact he
  · rw [va_up_ne _ _ e]
    exact (h.2.1 k (by omega)).kept (oq _ (by omega))
section YROWS
variable {p : Program} {l : Launch} {e : Env} {R : Room} {s : State} {m : MethodId} {args : Array Value} {below : List Frame} {meth : Method} {c : Code} {H : Heap} {locs : List Loc} {cells slots : Nat} {Q : State → Prop}
variable {cc : ByteArray} {pc : Nat} {ls : Array Slot} {rest : List Value} {X : xX} {sh : Nat → Nat × Nat} {n : Nat} {V : xV}
theorem y_new (hx : p.tables.exec = Jvm.exec) (hb : c.code = cc) (hts : ∀ w ∈ xT, w.before args s = true) {own C : String} {T : u_T} {N ci index : Nat} (hin : ∀ w ∈ u_ws C T N, w ∈ xT) (ty : Nat → FieldType) (hty : ∀ k, k < N → parseFieldDescriptor (T k).2.2.1 = some (ty k)) (hown : s.vm.findClass own = some m.cls) (hcl : Cond.classLink own index C ∈ xT) (hinst : Cond.instantiable C N ∈ xT) (hini : Cond.initialized C ∈ xT) (hK : XK X s) (hW : XH X sh n V H locs) (hsh : sh n = (ci, N)) (hci : ci < 8) (hc : vwCl[ci]? = some (C, T, N))
    (hcells : cells + 1 ≤ R.cells) (hslots : slots + N ≤ R.slots) (hdg : decode cc pc = .ok (.new index, 3))
    (kk : ∀ H1 : Heap, XH X sh (n + 1) (va_up V n (fun j => defaultValue (ty j))) H1 locs → W p l e R s m args below meth c H1 locs (cells + 1) (slots + N) Q (F0 m (pc + 3) ls (.ref (xB X + n) :: rest))) : W p l e R s m args below meth c H locs cells slots Q (F0 m pc ls rest) := by
  have hKn := hK.1.1 ci _ hc
  have hsz : H.size = xB X + n := hW.1
  refine W.newcK hx hb hown (hts _ hcl) (hts _ hinst) (hts _ hini) rfl hdg hcells hslots hKn.2.1 hsz fun H1 kC hkC e1 z1 o1 => ?_
  refine kk H1 (hW.grow z1 o1 ?_)
  unfold x_at
  rw [hsh, if_pos hci]
  exact u_born ty hts hin hKn hkC e1 hty
theorem y_newa (hx : p.tables.exec = Jvm.exec) (hb : c.code = cc) {atype : ArrayType} {ty : FieldType} (hty : newarray.typeOf atype = ty) (harr : (Cond.arrayClass ty).before args s = true) {kd N : Nat} (hnm : s.vm.findClass ("[" ++ ty.toString) = some (X.1.1 kd)) (hdv : defaultValue ty = .int 0) (hW : XH X sh n V H locs) (hsh : sh n = (kd, N)) (hkd : 8 ≤ kd)
    {z : Int32} (hz : z = nI N) (hN : N < 2 ^ 31) (hbytes : N * componentBytes ty ≤ 536870912) (hcells : cells + 1 ≤ R.cells) (hslots : slots + N ≤ R.slots) (hdg : decode cc pc = .ok (.newarray atype, 2))
    (kk : ∀ H1 : Heap, XH X sh (n + 1) (va_up V n (fun _ => .int 0)) H1 locs → W p l e R s m args below meth c H1 locs (cells + 1) (slots + N) Q (F0 m (pc + 2) ls (.ref (xB X + n) :: rest))) : W p l e R s m args below meth c H locs cells slots Q (F0 m pc ls (.int z :: rest)) := by
  subst hty hz
  have hsz : H.size = xB X + n := hW.1
  refine va_newaK hx hb harr rfl hdg rfl (xnn0 hN) (nI_clamp hN) hbytes hcells hslots hsz fun H1 cA e1 z1 o1 _ hNm => ?_
  have hcA : cA = X.1.1 kd := Option.some.inj (hNm.symm.trans hnm)
  subst hcA
  refine kk H1 (hW.grow z1 o1 ?_)
  unfold x_at
  rw [hsh, if_neg (by show ¬ kd < 8; omega), e1, hdv]
theorem y_newq (hx : p.tables.exec = Jvm.exec) (hb : c.code = cc) {own C : String} {index : Nat} (hown : s.vm.findClass own = some m.cls) (hclink : (Cond.classLink own index C).before args s = true) (hover : va_AO C s) {kd N : Nat} (hnm : s.vm.findClass ("[" ++ (FieldType.object C).toString) = some (X.1.1 kd)) (hW : XH X sh n V H locs) (hsh : sh n = (kd, N)) (hkd : 8 ≤ kd)
    {z : Int32} (hz : z = nI N) (hN : N < 2 ^ 31) (hbytes : N * 4 ≤ 536870912) (hcells : cells + 1 ≤ R.cells) (hslots : slots + N ≤ R.slots) (hdg : decode cc pc = .ok (.anewarray index, 3))
    (kk : ∀ H1 : Heap, XH X sh (n + 1) (va_up V n (fun _ => .null)) H1 locs → W p l e R s m args below meth c H1 locs (cells + 1) (slots + N) Q (F0 m (pc + 3) ls (.ref (xB X + n) :: rest))) : W p l e R s m args below meth c H locs cells slots Q (F0 m pc ls (.int z :: rest)) := by
  subst hz
  have hsz : H.size = xB X + n := hW.1
  have hcl := nI_clamp hN
  refine W.anew hx hb hown hclink (va_AO.use hover) rfl hdg rfl (xnn0 hN) (by rw [hcl]; exact hbytes) hcells (by rw [hcl]; exact hslots) fun cA kA comp f1 f2 f3 f4 => ?_
  have hcA : cA = X.1.1 kd := Option.some.inj (f1.symm.trans hnm)
  subst hcA
  rw [hcl, hsz]
  refine kk _ (hW.grow (by rw [Array.size_push, hsz]) (fun q hq => by rw [Array.getElem?_push, if_neg (by omega)]) ?_)
  unfold x_at
  rw [hsh, if_neg (by show ¬ kd < 8; omega)]
  show (H.push _)[xB X + n]? = _
  rw [← hsz, Array.getElem?_push_size, ← arrV_new]
theorem y_putF (hx : p.tables.exec = Jvm.exec) (hb : c.code = cc) (hts : ∀ w ∈ xT, w.before args s = true) {own ref C : String} {T : u_T} {N ci index key : Nat} (hin : ∀ w ∈ u_ws C T N, w ∈ xT) (ty0 : Nat → FieldType) (hty : ∀ k, k < N → parseFieldDescriptor (T k).2.2.1 = some (ty0 k)) (hnm : ∀ a, a < N → ∀ b, b < N → a ≠ b → (T a).2.1 ≠ (T b).2.1) (hown : s.vm.findClass own = some m.cls) (hK : XK X s) (hW : XH X sh n V H locs) (hk : key < n) (hsh : sh key = (ci, N)) (hci : ci < 8) (hc : vwCl[ci]? = some (C, T, N)) (k : Nat) (hkN : k < N)
    (hlink : Cond.fieldLink own index ref (T k).2.1 (T k).2.2.1 ∈ xT) (href : (T k).1 = ref) (hfin : (T k).2.2.2 = true) (hin2 : meth.name = "<init>") (hdecl : (T k).1 = own) {v : Value} (hn : narrow (ty0 k) v = v) (hfit : fits (ty0 k) v = true) (hdg : decode cc pc = .ok (.putfield index, 3))
    (kk : ∀ (H1 : Heap) (locs1 : List Loc), XH X sh n (xup2 V key k v) H1 locs1 → W p l e R s m args below meth c H1 locs1 cells slots Q (F0 m (pc + 3) ls rest)) : W p l e R s m args below meth c H locs cells slots Q (F0 m pc ls (v :: .ref (xB X + key) :: rest)) := by
  have hap := x_apart hts hin ty0 hty hnm hK hc
  have h0 := hW.2.1 key hk
  unfold x_at at h0
  rw [hsh, if_pos hci] at h0
  obtain ⟨cell, q1, q2, q3, q4⟩ := h0
  obtain ⟨hSl, hfc, kC, hkC, hkind⟩ := hK.1.1 ci _ hc
  obtain ⟨cf, kf, fi, f, hi, hsl⟩ := hSl k hkN
  have hlay := hts _ (hin _ (u_in_lay hkN))
  unfold u_lay at hlay
  rw [if_pos hfin] at hlay
  have hst := (u_facts hfc hkC (u_lays hts hin hkN) hi).1
  have hcf : m.cls = cf := by
    obtain ⟨_, _, c', _, _, _, -, -, hf', -, -, -, hown2, -⟩ := Cond.laysFinal_spec hlay
    have e1 : c' = cf := by have := hi.symm.trans hf'; simp at this; exact this.1.symm
    rw [hdecl] at hown2
    rw [← e1]; exact Option.some.inj (hown.symm.trans hown2)
  have h6 := u_fits hfc hkC hkind (Or.inr hlay) hi (hty k hkN) hn hfit
  refine W.putFinK hx hb hown (hts _ hlink) (href ▸ hi) hst hcf hin2 (by rw [q2]; exact h6) q1 q3 (by rw [hsl]; exact k2_hasslot (q4 k hkN)) rfl rfl hdg fun H' e1 e2 e3 => ?_
  rw [hsl] at e1 ⊢
  refine kk H' _ (hW.put hk e2 e3 ?_)
  unfold x_at
  rw [hsh, if_pos hci]
  exact t_OB.to (V := updV (V key) k v) ⟨_, e1, q2, q3, t_set q4 hap hkN v⟩ (fun j _ => rfl)
theorem y_astq (hx : p.tables.exec = Jvm.exec) (hb : c.code = cc) (hK : XK X s) (hW : XH X sh n V H locs) {key k2 kd N ci N2 t0 : Nat} {C : String} {T : u_T} (hk : key < n) (hsh : sh key = (kd, N)) (hkd : 8 ≤ kd) (ht : (xTys X.1)[t0]? = some (X.1.1 kd, .object C)) (hk2 : k2 < n) (hsh2 : sh k2 = (ci, N2)) (hci : ci < 8) (hc : vwCl[ci]? = some (C, T, N2)) {i : Int32} (hin : vp_in i N) (hdg : decode cc pc = .ok (.aastore, 1))
    (kk : ∀ (H1 : Heap) (locs1 : List Loc), XH X sh n (xup2 V key i.toNatClampNeg (.ref (xB X + k2))) H1 locs1 → W p l e R s m args below meth c H1 locs1 cells slots Q (F0 m (pc + 1) ls rest)) : W p l e R s m args below meth c H locs cells slots Q (F0 m pc ls (.ref (xB X + k2) :: .int i :: .ref (xB X + key) :: rest)) := by
  have hlt : i.toNatClampNeg < N := Nat.not_le.mp fun q => hin (Or.inr q)
  have h0 : ¬ i < 0 := fun q => hin (Or.inl q)
  have hA := hW.2.1 key hk
  unfold x_at at hA
  rw [hsh, if_neg (by show ¬ kd < 8; omega)] at hA
  obtain ⟨cellV, g1, g2, g3⟩ := x_recv hK hW hk2 hsh2 hci hc
  have hcls := (hK.1.1 ci _ hc).2
  obtain ⟨kA, comp, k1, k2', k3, -⟩ := (hK.1.2 t0 _ ht).2
  have hcomp : comp = X.1.1 ci := Option.some.inj (k3.symm.trans hcls.1)
  subst hcomp
  obtain ⟨kC, hkC, -⟩ := hcls.2
  have hcv : cellV.cls = X.1.1 ci := Option.some.inj (g3.symm.trans hcls.1)
  refine W.aast hx hb hA (fun q h => by cases h) (fun h => by cases h) k1 k2' rfl hkC ⟨h0, by show _ < (arrV _ _ _).slots.size; rw [arrV_size]; exact hlt⟩ g1 (fun q h => by rw [h] at g2; cases g2) (by rw [hcv]; exact hkC) (by rw [hcv]; exact va_assign hcls) rfl rfl hdg fun H1 e z oq => ?_
  exact kk H1 _ (x_arr_put hW hk hsh hkd e z oq)
theorem y_pre {as : List Value} (hK : yK X s) (hW : XH X sh n V H locs) : PreS s H (yP X sh n V as) as := ⟨yP.blind, fun U hU hw => ⟨rfl, hK.warm hw, by rw [hU]; exact hW.forget⟩⟩
theorem y_callI (hx : p.tables.exec = Jvm.exec) (hb : c.code = cc) {nL : Nat} (hml : c.maxLocals = nL) {own : String} (hown : s.vm.findClass own = some m.cls) (hts : ∀ w ∈ xT, w.before args s = true) (hK : yK X s) (hW : XH X sh n V H locs) (hls : ls.size = nL)
    {y : MethodName} {bytes : ByteArray} {maxL : Nat} {fr lo mc ms : Nat} {b : Nat} {As : List Value} {n' : Nat} {V' : xV} (hM : YC l y bytes maxL none fr lo mc ms X sh (.ref (xB X + b) :: As) n n' V V' none)
    {idx : Nat} (h1 : Cond.methodLink own idx y ∈ xT) (h2 : Cond.instanceMethod y ∈ xT) (h4 : Cond.initialized y.cls ∈ xT) (h5 : Cond.code y bytes maxL none ∈ xT) (hy1 : y.name = "<init>")
    (hd : y.cls ≠ "java/lang/invoke/MethodHandle" ∧ y.cls ≠ "java/lang/invoke/VarHandle" ∧ (parseMethodDescriptor y.desc).map (fun d => d.parameters.length) = some As.length) (hR : fr + 1 ≤ R.frames ∧ 8 + (maxL + 11) + lo ≤ R.locals) {st : List Value} (hst : st = As.reverse ++ .ref (xB X + b) :: rest) (hro : (rest.map fun v => v.category).sum ≤ 8) (hf : cells + mc ≤ R.cells ∧ slots + ms ≤ R.slots) (hdg : decode cc pc = .ok (.invokespecial idx, 3))
    (kk : ∀ (H1 : Heap) (locs1 : List Loc), XH X sh n' V' H1 locs1 → W p l e R s m args below meth c H1 locs1 (cells + mc) (slots + ms) Q (F0 m (pc + 3) ls rest)) : W p l e R s m args below meth c H locs cells slots Q (F0 m pc ls st) := by
  exact x_after (r := none) (y := y) (W.runI (Ts := xT) (nL := nL) (n := As.length) (own := own) ⟨hx, hb, hml, hown, hts⟩ hM (cwI As.length hts (x_goodc h5) rfl rfl rfl (hts _ h4) (hts _ h1) (hts _ h2) hy1 hd hR) (y_pre hK hW) rfl rfl hls hst (lv_room hro) hdg hf) hW kk
theorem y_callIN (hx : p.tables.exec = Jvm.exec) (hb : c.code = cc) {nL : Nat} (hml : c.maxLocals = nL) {own : String} (hown : s.vm.findClass own = some m.cls) (hts : ∀ w ∈ xT, w.before args s = true) (hK : yK X s) (hW : XH X sh n V H locs) (hls : ls.size = nL)
    {y : MethodName} {bytes : ByteArray} {maxL : Nat} {fr lo mc ms : Nat} {b : Nat} {As : List Value} {n' : Nat} {V' : xV} (hM : YC l y bytes maxL none fr lo mc ms X sh (.ref (xB X + b) :: As) n n' V V' none)
    {idx : Nat} (h1 : (own, idx, y) ∈ xNestM) (h2 : Cond.instanceMethod y ∈ xT) (h4 : Cond.initialized y.cls ∈ xT) (h5 : Cond.code y bytes maxL none ∈ xT) (hy1 : y.name = "<init>")
    (hd : y.cls ≠ "java/lang/invoke/MethodHandle" ∧ y.cls ≠ "java/lang/invoke/VarHandle" ∧ (parseMethodDescriptor y.desc).map (fun d => d.parameters.length) = some As.length) (hR : fr + 1 ≤ R.frames ∧ 8 + (maxL + 11) + lo ≤ R.locals) {st : List Value} (hst : st = As.reverse ++ .ref (xB X + b) :: rest) (hro : (rest.map fun v => v.category).sum ≤ 8) (hf : cells + mc ≤ R.cells ∧ slots + ms ≤ R.slots) (hdg : decode cc pc = .ok (.invokespecial idx, 3))
    (kk : ∀ (H1 : Heap) (locs1 : List Loc), XH X sh n' V' H1 locs1 → W p l e R s m args below meth c H1 locs1 (cells + mc) (slots + ms) Q (F0 m (pc + 3) ls rest)) : W p l e R s m args below meth c H locs cells slots Q (F0 m pc ls st) := by
  have hN := hK.1.2.2.2.2.1 _ h1
  have hr : va_Run p l e R s m args below meth c H locs cells slots mc ms (F0 m pc ls st) rest (xQ X sh n' V' none (Value.ref (xB X + b) :: As).toArray) (fun q => xB X ≤ q) := va_runIN (rest := rest) (Ts := xT) (nL := nL) (n := As.length) (own := own) (host := RX6) ⟨hx, hb, hml, hown, hts⟩ hM ⟨va_cnB As.length hts (x_goodc h5) rfl rfl rfl hN (hts _ h4) hd hR, hy1, hts _ h2⟩ (y_pre hK hW) (g := F0 m pc ls st) rfl rfl hls hst (lv_room hro) hdg hf
  exact x_after (r := none) (y := y) (fun T hT X0 => by obtain ⟨v, st₀, t, T', L, h0, X', hL, e1, e2, hq, st⟩ := hr T hT X0; exact ⟨v, st₀, t, T', L, h0, X', hL, e1, hq, st⟩) hW kk
theorem y_obj (hx : p.tables.exec = Jvm.exec) (hb : c.code = cc) {own : String} (hown : s.vm.findClass own = some m.cls) (hts : ∀ w ∈ xT, w.before args s = true) {idx : Nat} (hlink : Cond.methodLink own idx objectInit ∈ xT) (hsize : ls.size = c.maxLocals) {a : Nat} (hd : decode cc pc = .ok (.invokespecial idx, 3)) (hframes : 1 ≤ R.frames) (hlocals : (rest.map fun v => v.category).sum + 12 ≤ R.locals)
    (kk : W p l e R s m args below meth c H locs cells slots Q (F0 m (pc + 3) ls rest)) : W p l e R s m args below meth c H locs cells slots Q (F0 m pc ls (.ref a :: rest)) :=
  W.objInit hx hb hown (hts _ hlink) (hts _ xw_11) (hts _ xw_12) (g := F0 m pc ls (.ref a :: rest)) rfl hsize rfl hd hframes (by show 2 * 0 + _ + 12 ≤ _; omega) kk
end YROWS
