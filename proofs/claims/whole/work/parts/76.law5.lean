/-! ===== the law's start: what the tables say there is a world ===== -/
theorem arr_known {args : Array Value} {s : State} {ty : FieldType} (h : (Cond.arrayClass ty).before args s = true) : ∃ cA : ClassId, ArrOfT s cA ty ∧ s.vm.findClass ("[" ++ ty.toString) = some cA := by
  obtain ⟨c, k, comp, h1, h2, h3⟩ := Cond.arrayClass_spec h
  exact ⟨c, fun n z => ⟨fun k h => (by cases h), k, h2, comp, h3⟩, h1⟩
theorem arrq_known {args : Array Value} {s : State} {C : String} (h : (Cond.arrayOver (.object C)).before args s = true) : ∃ cA : ClassId, ArrOfT s cA (.object C) ∧ va_RA s cA (.object C) := by
  obtain ⟨comp, c, k, h1, h2, h3, h4, h5⟩ := Cond.arrayOver_spec h
  exact ⟨c, fun n z => ⟨fun k h => (by cases h), k, h3, comp, h4⟩, k, comp, h3, h4, h1, h5⟩
theorem tab_known {args : Array Value} {s : State} {nm : String} {f : Nat → Int32} (hl : (Cond.laysStatic "CoughLamps" nm "[I").before args s = true) (hini : (Cond.initialized "CoughLamps").before args s = true)
    (har : (Cond.arrayOf (.static "CoughLamps" nm "[I") .int).before args s = true) (hlen : (Cond.eq (.length (.static "CoughLamps" nm "[I")) (.int 6)).before args s = true) (hel : ∀ j : Nat, j < 6 → (Cond.eq (.elem (.static "CoughLamps" nm "[I") (.int (Int32.ofNat j))) (.int (f j))).before args s = true) :
    ∃ t : Nat, ∀ (X : xX) (i : Nat), X.2.1 = s.heap → X.2.2 i = t → xst 6 f nm i X s := by
  have hA : ∀ a : Nat, a < s.heap.size → ¬ (fun q : Nat => s.heap.size ≤ q) a := fun a h => Nat.not_le.mpr h
  obtain ⟨t, ht, hT⟩ := va_Tof (A := fun q : Nat => s.heap.size ≤ q) (f := fun j => Value.int (f j)) (N := 6) (by decide) har (va_eqt hlen) (fun j hj => va_eqt (hel j hj)) hA
  refine ⟨t, fun X i hX hi => ?_⟩
  have hZ := va_Zref (A := fun q : Nat => s.heap.size ≤ q) hl hini ht hA
  unfold xst xB
  rw [hX, hi]
  exact ⟨hZ, hT⟩
set_option maxHeartbeats 4000000 in
set_option maxRecDepth 100000 in
theorem law_world {args : Array Value} {s : State} (h : ∀ c ∈ tables_1, c.before args s = true) (hn : (Jvm.Cond.and given_1 narrow_1).before args s = true) : ∃ X : xX, X.2.1 = s.heap ∧ yK X s := by
  have hts : ∀ w ∈ xT, w.before args s = true := xT_of h
  have hs := flat_of_before _ hn
  obtain ⟨t0, g0⟩ := tab_known (s := s) (args := args) (nm := "FIRST_VALUES") (f := xf0) (tI1 h 33 rfl) (tI1 h 1 rfl) (hs _ (by decide +kernel)) (hs _ (by decide +kernel)) (fun j hj => by
    rcases (show j = 0 ∨ j = 1 ∨ j = 2 ∨ j = 3 ∨ j = 4 ∨ j = 5 by omega) with rfl | rfl | rfl | rfl | rfl | rfl <;> exact hs _ (by decide +kernel))
  obtain ⟨t1, g1⟩ := tab_known (s := s) (args := args) (nm := "LEAST_VALUES") (f := xf1) (tI2 h 43 rfl) (tI1 h 1 rfl) (hs _ (by decide +kernel)) (hs _ (by decide +kernel)) (fun j hj => by
    rcases (show j = 0 ∨ j = 1 ∨ j = 2 ∨ j = 3 ∨ j = 4 ∨ j = 5 by omega) with rfl | rfl | rfl | rfl | rfl | rfl <;> exact hs _ (by decide +kernel))
  obtain ⟨t2, g2⟩ := tab_known (s := s) (args := args) (nm := "MOST_VALUES") (f := xf2) (tI2 h 45 rfl) (tI1 h 1 rfl) (hs _ (by decide +kernel)) (hs _ (by decide +kernel)) (fun j hj => by
    rcases (show j = 0 ∨ j = 1 ∨ j = 2 ∨ j = 3 ∨ j = 4 ∨ j = 5 by omega) with rfl | rfl | rfl | rfl | rfl | rfl <;> exact hs _ (by decide +kernel))
  obtain ⟨c0, i0, k0⟩ := u_known (C := RX0) (T := TX0) (N := 3) (n := 3) hts inlX0 (hts _ xw_22)
  obtain ⟨c1, i1, k1⟩ := u_known (C := RX1) (T := TX1) (N := 2) (n := 2) hts inlX1 (hts _ xw_47)
  obtain ⟨c2, i2, k2⟩ := u_known (C := RX2) (T := TX2) (N := 13) (n := 13) hts inlX2 (hts _ xw_45)
  obtain ⟨c3, i3, k3⟩ := u_known (C := RX3) (T := TX3) (N := 6) (n := 6) hts inlX3 (hts _ xw_26)
  obtain ⟨c4, i4, k4⟩ := u_known (C := RX4) (T := TX4) (N := 8) (n := 8) hts inlX4 (hts _ xw_14)
  obtain ⟨c5, i5, k5⟩ := u_known (C := RX5) (T := TX5) (N := 9) (n := 9) hts inlX5 (hts _ xw_49)
  obtain ⟨c6, i6, k6⟩ := u_known (C := RX6) (T := TX6) (N := 6) (n := 6) hts inlX6 (hts _ xw_1)
  obtain ⟨c7, i7, k7⟩ := u_known (C := RX7) (T := TX7) (N := 18) (n := 18) hts inlX7 (hts _ xw_4)
  obtain ⟨a8, p8, q8⟩ := arr_known (hts _ xw_33)
  obtain ⟨a9, p9, q9⟩ := arr_known (hts _ xw_72)
  obtain ⟨a10, p10, q10⟩ := arr_known (hts _ xw_19)
  have o4 : (Cond.arrayOver (.object RX4)).before args s = true := tI1 h 180 rfl
  have o2 : (Cond.arrayOver (.object RX2)).before args s = true := tI1 h 27 rfl
  have o1 : (Cond.arrayOver (.object RX1)).before args s = true := tI1 h 29 rfl
  have o5 : (Cond.arrayOver (.object RX5)).before args s = true := tI1 h 31 rfl
  obtain ⟨a11, p11, q11⟩ := arrq_known o4
  obtain ⟨a12, p12, q12⟩ := arrq_known o2
  obtain ⟨a13, p13, q13⟩ := arrq_known o1
  obtain ⟨a14, p14, q14⟩ := arrq_known o5
  obtain ⟨D, hD, hE⟩ : ∃ D : va_G, (D.1 0 = c0 ∧ D.1 1 = c1 ∧ D.1 2 = c2 ∧ D.1 3 = c3 ∧ D.1 4 = c4 ∧ D.1 5 = c5 ∧ D.1 6 = c6 ∧ D.1 7 = c7 ∧ D.1 8 = a8 ∧ D.1 9 = a9 ∧ D.1 10 = a10 ∧ D.1 11 = a11 ∧ D.1 12 = a12 ∧ D.1 13 = a13 ∧ D.1 14 = a14) ∧
      (D.2 0 = i0 ∧ D.2 1 = i1 ∧ D.2 2 = i2 ∧ D.2 3 = i3 ∧ D.2 4 = i4 ∧ D.2 5 = i5 ∧ D.2 6 = i6 ∧ D.2 7 = i7) :=
    ⟨(fun k => match k with | 0 => c0 | 1 => c1 | 2 => c2 | 3 => c3 | 4 => c4 | 5 => c5 | 6 => c6 | 7 => c7 | 8 => a8 | 9 => a9 | 10 => a10 | 11 => a11 | 12 => a12 | 13 => a13 | _ => a14,
      fun k => match k with | 0 => i0 | 1 => i1 | 2 => i2 | 3 => i3 | 4 => i4 | 5 => i5 | 6 => i6 | _ => i7), ⟨rfl, rfl, rfl, rfl, rfl, rfl, rfl, rfl, rfl, rfl, rfl, rfl, rfl, rfl, rfl⟩, rfl, rfl, rfl, rfl, rfl, rfl, rfl, rfl⟩
  obtain ⟨d0, d1, d2, d3, d4, d5, d6, d7, d8, d9, d10, d11, d12, d13, d14⟩ := hD
  obtain ⟨e0, e1, e2, e3, e4, e5, e6, e7⟩ := hE
  subst d0 d1 d2 d3 d4 d5 d6 d7 d8 d9 d10 d11 d12 d13 d14 e0 e1 e2 e3 e4 e5 e6 e7
  refine ⟨(D, s.heap, fun k => match k with | 0 => t0 | 1 => t1 | _ => t2), rfl, ⟨⟨?_, ?_⟩, g0 _ 0 rfl rfl, g1 _ 1 rfl rfl, g2 _ 2 rfl rfl, ?_, ?_⟩, va_AO.of o4, va_AO.of o2, va_AO.of o1, va_AO.of o5⟩
  · intro k q hq
    match k, hq with
    | 0, hq => cases hq; exact k0
    | 1, hq => cases hq; exact k1
    | 2, hq => cases hq; exact k2
    | 3, hq => cases hq; exact k3
    | 4, hq => cases hq; exact k4
    | 5, hq => cases hq; exact k5
    | 6, hq => cases hq; exact k6
    | 7, hq => cases hq; exact k7
    | k + 8, hq => exact absurd hq (by simp [vwCl])
  · intro k q hq
    match k, hq with
    | 0, hq => cases hq; exact ⟨p8, q8⟩
    | 1, hq => cases hq; exact ⟨p9, q9⟩
    | 2, hq => cases hq; exact ⟨p10, q10⟩
    | 3, hq => cases hq; exact ⟨p11, q11⟩
    | 4, hq => cases hq; exact ⟨p12, q12⟩
    | 5, hq => cases hq; exact ⟨p13, q13⟩
    | 6, hq => cases hq; exact ⟨p14, q14⟩
    | k + 7, hq => exact absurd hq (by simp [xTys])
  · unfold xNestM
    refine List.forall_mem_cons.mpr ⟨va_Nw.of rfl (A := args) (tI1 h 38 rfl), ?_⟩
    refine List.forall_mem_cons.mpr ⟨va_Nw.of rfl (A := args) (tI1 h 92 rfl), ?_⟩
    refine List.forall_mem_cons.mpr ⟨va_Nw.of rfl (A := args) (tI1 h 106 rfl), ?_⟩
    refine List.forall_mem_cons.mpr ⟨va_Nw.of rfl (A := args) (tI1 h 203 rfl), ?_⟩
    refine List.forall_mem_cons.mpr ⟨va_Nw.of rfl (A := args) (tI2 h 39 rfl), ?_⟩
    refine List.forall_mem_cons.mpr ⟨va_Nw.of rfl (A := args) (tI2 h 61 rfl), ?_⟩
    refine List.forall_mem_cons.mpr ⟨va_Nw.of rfl (A := args) (tI2 h 172 rfl), ?_⟩
    exact fun _ h => absurd h List.not_mem_nil
  · unfold xNestF
    refine List.forall_mem_cons.mpr ⟨va_Nw.of rfl (A := args) (tI1 h 32 rfl), ?_⟩
    refine List.forall_mem_cons.mpr ⟨va_Nw.of rfl (A := args) (tI2 h 42 rfl), ?_⟩
    refine List.forall_mem_cons.mpr ⟨va_Nw.of rfl (A := args) (tI2 h 44 rfl), ?_⟩
    exact fun _ h => absurd h List.not_mem_nil
