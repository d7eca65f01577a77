/-! ===== the law: forecasts' calls, its own state, its script ===== -/
theorem Fhome_W : ∀ (k i : Nat) (q : (Nat → Int32) × (Nat → Int32) × (Nat → Int32)), WokR q.1 → WokR (Fhome k i q).1.1
  | 0, _, _, h => h
  | k + 1, i, q, h => by
    unfold Fhome
    split
    · exact Fhome_W k (i + 1) _ (WokR_go h)
    · exact h
theorem Sok_home {x : Int32} {a σ : xS} (ha : Sok a) (h : Sok σ) : Sok (sHome x a σ).1 := by
  unfold sHome
  by_cases c : r_hasWalker x a = 0
  · rw [if_pos c]; exact h
  · rw [if_neg c]
    have hx := xhas (x := x) (n := cW a) (by have := ha.hw8; omega) c
    have h8 := ha.hw8
    refine ⟨h.1, fun j hj => ?_⟩
    show WokR (va_up (σ 4) x.toNatClampNeg _ j)
    by_cases e : j = x.toNatClampNeg
    · rw [e, va_up_at]
      refine Fhome_W 501 0 _ (WokR.of (ha.2 x.toNatClampNeg (by omega)) ?_ ?_)
      · exact FcopyW_at (ω := σ 4 x.toNatClampNeg) 2 (by decide) (by decide)
      · exact FcopyW_at (ω := σ 4 x.toNatClampNeg) 5 (by decide) (by decide)
    · rw [va_up_ne _ _ e]; exact h.2 j hj
theorem Sok_best {x : Int32} {a σ : xS} (ha : Sok a) (h : Sok σ) : Sok (sBest x a σ).1 := by
  unfold sBest
  split
  · exact h
  · refine xloop_inv (fun q : xS × Int32 × Int32 × Int32 => Sok q.1) (fun i q hq => ?_) 60 1 _ h
    have h1 : Sok (xreach i x a q.1) := Sok_letPass (Sok_changeSetting (Sok_become ha hq))
    unfold Fbest
    split
    · exact hq
    · split
      · exact h1
      · exact h1
theorem Sok_need {a σ : xS} (ha : Sok a) (h : Sok σ) : Sok (sNeed a σ).1 := by
  unfold sNeed
  exact xloop_inv (fun q : xS × Int32 => Sok q.1) (fun i q hq => Sok_letPass (Sok_mendLamp (Sok_become ha hq))) (cN a) 0 _ (Sok_try ha h)
section ZCALLS2
variable {B : Nat} {S : Nat → xS} {sv hs pf sn f sg : Nat → Int32} {L O Y : Nat → Nat → Int32} {pb pc pd pp : Nat → Int32}
theorem I_homeIn {x : Int32} (h : ZI B S sv hs pf sn f sg L O Y pb pc pd pp) : (sHome x (S 0) (S 1)).2 = Mof (sg 9) x (-1) (Mhome 501 0 (Y x.toNatClampNeg)) ∧ ZI B (va_up S 1 (sHome x (S 0) (S 1)).1) sv hs pf sn f sg L O Y pb pc pd pp :=
  ⟨Z_homeIn (h.1 0 (by omega)) h.2.2.1.1, h.trial (Sok_home (h.1 0 (by omega)) (h.1 1 (by omega)))⟩
theorem I_brings {x w : Int32} {g q : Nat → Int32} (h : ZI B S sv hs pf sn f sg L O Y pb pc pd pp) : (if Fin3 x 1 200 = 0 then -2 else if Fin3 w 0 3 = 0 then -2 else r_total w (sTry x (S 0) (S 1)) - r_total w (S 0)) = Mbr x w (-2) (Mbrought (cN (S 0)) (cH (S 0)) (cW (S 0)) x.toNatClampNeg w (sg, L, O, Y, g, q)) ∧
    ZI B (if Fin3 x 1 200 = 0 then S else if Fin3 w 0 3 = 0 then S else va_up S 1 (sTry x (S 0) (S 1))) sv hs pf sn f sg L O Y pb pc pd pp := by
  refine ⟨Z_brings (h.1 0 (by omega)) (h.1 1 (by omega)) h.2.2.1.1, ?_⟩
  split
  · exact h
  · split
    · exact h
    · exact h.trial (Sok_try (h.1 0 (by omega)) (h.1 1 (by omega)))
theorem I_best {x : Int32} {pe g q : Nat → Int32} (h : ZI B S sv hs pf sn f sg L O Y pb pc pd pp) : (sBest x (S 0) (S 1)).2.1 = Mtk x (-2) (Mbest (cN (S 0)) (cH (S 0)) (cW (S 0)) x.toNatClampNeg L O Y sg pe g q).2.2.2.2.1 ∧ ZI B (va_up S 1 (sBest x (S 0) (S 1)).1) sv hs pf sn f sg L O Y pb pc pd pp :=
  ⟨Z_best (h.1 0 (by omega)) (h.1 1 (by omega)) h.2.2.1.1, h.trial (Sok_best (h.1 0 (by omega)) (h.1 1 (by omega)))⟩
theorem I_need {pe g q : Nat → Int32} (h : ZI B S sv hs pf sn f sg L O Y pb pc pd pp) : (sNeed (S 0) (S 1)).2 = (Mneed (cN (S 0)) (cH (S 0)) (cW (S 0)) sg L O Y pe g q).2.2.2 ∧ ZI B (va_up S 1 (sNeed (S 0) (S 1)).1) sv hs pf sn f sg L O Y pb pc pd pp :=
  ⟨Z_needless (h.1 0 (by omega)) (h.1 1 (by omega)) h.2.2.1.1, h.trial (Sok_need (h.1 0 (by omega)) (h.1 1 (by omega)))⟩
end ZCALLS2
/-- both sides' cells, and that they say the same, after t calls -/
def LawSt (X : xX) (t : Nat) (H : Heap) (locs : List Loc) : Prop := ∃ (S : Nat → xS) (sv hs pf sn nb f sg : Nat → Int32) (M U V : Nat → Nat → Int32) (pb pc pd pe pg ph pp pq pt pu : Nat → Int32),
  XG X (xGl S (xMi sv hs pf sn nb) (xMa f sg M U V pb pc pd pe pg ph pp pq pt pu)) H locs ∧ ZI (16000 * t) S sv hs pf sn f sg M U V pb pc pd pp
theorem LawSt.mk {X : xX} {t : Nat} {H : Heap} {locs : List Loc} {S : Nat → xS} {sv hs pf sn nb f sg : Nat → Int32} {M U V : Nat → Nat → Int32} {pb pc pd pe pg ph pp pq pt pu : Nat → Int32}
    (hW : XG X (xGl S (xMi sv hs pf sn nb) (xMa f sg M U V pb pc pd pe pg ph pp pq pt pu)) H locs) (hI : ZI (16000 * t) S sv hs pf sn f sg M U V pb pc pd pp) : LawSt X t H locs :=
  ⟨S, sv, hs, pf, sn, nb, f, sg, M, U, V, pb, pc, pd, pe, pg, ph, pp, pq, pt, pu, hW, hI⟩
theorem XG.fit {X : xX} {G : xG} {H : Heap} {locs : List Loc} (h : XG X G H locs) : va_S (fun q => xB X ≤ q) X.2.1 H locs := by
  refine ⟨?_, fun q hq _ => h.2.2.1 q hq, h.2.2.2⟩
  have := h.1
  unfold xB at this
  omega
/-- what the law's body rests on -/
def lw_C (p : Program) (s : State) (m : MethodId) (c : Code) (b L : Nat) (xs : Nat → Int32) (X : xX) : Prop :=
  p.tables.exec = Jvm.exec ∧ c.code = cL_law ∧ c.maxLocals = 4 ∧ s.vm.findClass RL = some m.cls ∧ (∀ w ∈ xT, w.before #[Value.ref b] s = true) ∧ yK X s ∧ va_X b L xs s X.2.1 ∧ b < X.2.1.size ∧ L ≤ 2048
abbrev lawL (X : xX) (b t : Nat) : List (Nat × Value) := [(0, .ref b), (1, .ref (xB X + xkey 11 5 0)), (2, .ref (xB X + xkey 12 0 0)), (3, .int (nI (4 * t)))]
section LAWROWS
variable {p : Program} {l : Launch} {e : Env} {R : Room} {s : State} {m : MethodId} {args : Array Value} {below : List Frame} {meth : Method} {c : Code} {H : Heap} {locs : List Loc} {cells slots : Nat} {Q : State → Prop}
variable {pc : Nat} {ls : Array Slot} {rest : List Value} {X : xX} {b L t : Nat} {xs : Nat → Int32}
theorem L_arg {G : xG} (C : lw_C p s m c b L xs X) (ht : 4 * t + 4 ≤ L) (hW : XG X G H locs) (hl : lv_has ls 4 (lawL X b t)) {k : Nat} (hk : k < 4) {z : Int} (hz : Int32.ofInt z = nI k) (d0 : decode cL_law pc = .ok (.aload_n 0, 1)) (d1 : decode cL_law (pc + 1) = .ok (.iload_n 3, 1)) (d2 : decode cL_law (pc + 1 + 1) = .ok (.iconst z, 1)) (d3 : decode cL_law (pc + 1 + 1 + 1) = .ok (.iadd, 1)) (d4 : decode cL_law (pc + 1 + 1 + 1 + 1) = .ok (.iaload, 1))
    (kk : W p l e R s m args below meth c H locs cells slots Q (F0 m (pc + 1 + 1 + 1 + 1 + 1) ls (.int (xs (4 * t + k)) :: rest))) : W p l e R s m args below meth c H locs cells slots Q (F0 m pc ls rest) := by
  obtain ⟨hx, hb, hml, hown, hts, hK, hX, hbl, hL⟩ := C
  refine lv_aload_n hx hb d0 rfl (lv_at hl 0 rfl) ?_
  refine lv_iload_n hx hb d1 rfl (lv_at hl 3 rfl) ?_
  refine lv_iconst (v := nI k) hx hb d2 hz ?_
  refine lv_iadd hx hb d3 ?_
  have e1 : nI (4 * t) + nI k = nI (4 * t + k) := nI_add _ _
  rw [e1]
  refine va_sld hx hb hX hbl (by show ¬ xB X ≤ b; unfold xB; omega) hW.fit (vp_in_nI (show 4 * t + k < L by omega) (by omega)) d4 ?_
  rw [nI_clamp (by omega)]
  exact kk
end LAWROWS
