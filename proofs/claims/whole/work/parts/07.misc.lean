/-! ===== small words of the walks ===== -/
def xabs (x : Int32) : Int32 := if 0 ≤ x then x else 0 - x
def xmax (x y : Int32) : Int32 := if x < y then y else x
def xmin (x y : Int32) : Int32 := if y < x then y else x
theorem xrd {α : Type} {F : Nat → Nat → α} {i k : Nat} {ρ : Nat → α} {x : α} (h : ρ k = x) : va_up F i ρ i k = x := by simp [va_up, h]
theorem xF_mo0 : xF 12 0 0 7 18 := by unfold xF; decide +kernel
theorem xF_mo1 : xF 12 1 0 8 440 := by unfold xF; decide +kernel
theorem xF_mo2 : xF 12 2 0 8 2640 := by unfold xF; decide +kernel
theorem xF_mo3 : xF 12 3 0 8 880 := by unfold xF; decide +kernel
theorem xF_mo4 : xF 12 4 0 10 2 := by unfold xF; decide +kernel
theorem xF_mo5 : xF 12 5 0 8 440 := by unfold xF; decide +kernel
theorem xF_mo6 : xF 12 6 0 8 16 := by unfold xF; decide +kernel
theorem xF_mo7 : xF 12 7 0 8 16 := by unfold xF; decide +kernel
theorem xF_mo8 : xF 12 8 0 8 80 := by unfold xF; decide +kernel
theorem xF_mo9 : xF 12 9 0 8 29 := by unfold xF; decide +kernel
theorem xF_mo10 : xF 12 10 0 8 30 := by unfold xF; decide +kernel
theorem xF_mo11 : xF 12 11 0 8 92 := by unfold xF; decide +kernel
theorem xF_mi0 : xF 11 0 0 10 2 := by unfold xF; decide +kernel
theorem xF_mi1 : xF 11 1 0 0 3 := by unfold xF; decide +kernel
theorem xF_mi2 : xF 11 2 0 3 6 := by unfold xF; decide +kernel
theorem xF_mi3 : xF 11 3 0 9 80 := by unfold xF; decide +kernel
theorem xF_mi4 : xF 11 4 0 8 80 := by unfold xF; decide +kernel
theorem xr_mi0 (w : Nat) : xro (xkey 11 0 0) w = none := rfl
theorem xr_mi3 (w : Nat) : xro (xkey 11 3 0) w = none := rfl
theorem xr_mi4 (w : Nat) : xro (xkey 11 4 0) w = none := rfl
section XMISC
variable {p : Program} {l : Launch} {e : Env} {R : Room} {s : State} {m : MethodId} {args : Array Value} {below : List Frame} {meth : Method} {c : Code} {H : Heap} {locs : List Loc} {cells slots : Nat} {Q : State → Prop}
variable {cc : ByteArray} {pc : Nat} {ls : Array Slot} {rest : List Value}
theorem lv_eqi {x y : Int32} (h : x = y) (k : W p l e R s m args below meth c H locs cells slots Q (F0 m pc ls (.int y :: rest))) : W p l e R s m args below meth c H locs cells slots Q (F0 m pc ls (.int x :: rest)) := h ▸ k
end XMISC
section XMISC2
variable {p : Program} {l : Launch} {e : Env} {R : Room} {s : State} {m : MethodId} {args : Array Value} {below : List Frame} {meth : Method} {c : Code} {H : Heap} {locs : List Loc} {cells slots : Nat} {Q : State → Prop}
variable {cc : ByteArray} {pc : Nat} {ls : Array Slot} {rest : List Value} {X : xX} {G : xG} {own : String} {r r0 k0 i : Nat} {σ : xS}
theorem r_geto (hx : p.tables.exec = Jvm.exec) (hb : c.code = cc) (hts : ∀ w ∈ xT, w.before args s = true) (hown : s.vm.findClass own = some m.cls) (hK : XK X s) (hne : r0 ≠ r) (hW : XR X G r σ H locs) {ref C : String} {T : u_T} {N ci index : Nat} (hF : xF r0 k0 i ci N) (hin : ∀ w ∈ u_ws C T N, w ∈ xT) (hc : vwCl[ci]? = some (C, T, N)) (hci : ci < 8) (k : Nat) (hkN : k < N) (hr : xro (xkey r0 k0 i) k = none)
    (hlink : Cond.fieldLink own index ref (T k).2.1 (T k).2.2.1 ∈ xT) (href : (T k).1 = ref) {x : Int32} (hv : G r0 k0 i k = x) (hdg : decode cc pc = .ok (.getfield index, 3))
    (kk : W p l e R s m args below meth c H locs cells slots Q (F0 m (pc + 3) ls (.int x :: rest))) : W p l e R s m args below meth c H locs cells slots Q (F0 m pc ls (.ref (xB X + xkey r0 k0 i) :: rest)) :=
  x_get hx hb hts hin hown hK hW hF.1 hF.2.1 hci hc k hkN hlink href (by rw [xval_int hF hr, va_up_ne G σ hne, hv]) hdg kk
end XMISC2
