/-! ===== class and model side by side: many ticks ===== -/
theorem xloop_invb {α : Type} {g : Nat → α → α} (I : α → Prop) : ∀ (k i : Nat) (a : α), (∀ j a, i ≤ j → j < i + k → I a → I (g j a)) → I a → I (xloop g k i a)
  | 0, _, _, _, h => h
  | k + 1, i, a, hg, h => xloop_invb I k (i + 1) (g i a) (fun j a h1 h2 => hg j a (by omega) (by omega)) (hg i a (Nat.le_refl _) (by omega) h)
theorem far_up {n i j : Nat} {L M : Nat → Nat → Int32} {m : Nat → Int32} (h : M i = L i) (hj : j < n) (hi : n ≤ i) : va_up M j m i = L i := (va_up_ne _ _ (by omega)).trans h
theorem Mspread_far {n a i : Nat} {rk : Int32} {sg : Nat → Int32} {L : Nat → Nat → Int32} (ha : a < n) (hi : n ≤ i) : (Mspread n sg a rk L).1 i = L i := by
  refine xloop_invb (fun q : (Nat → Nat → Int32) × Int32 => q.1 i = L i) n 0 _ (fun j q _ hj hq => ?_) (far_up rfl ha hi)
  split
  · exact hq
  · exact far_up hq (by omega) hi
theorem MAgain_far {n i : Nat} {sg g : Nat → Int32} {L : Nat → Nat → Int32} (hi : n ≤ i) : (MAgain n sg L g).1 i = L i := by
  have hw : (Mwaits n L g).1 i = L i := by
    refine xloop_invb (fun q : (Nat → Nat → Int32) × (Nat → Int32) => q.1 i = L i) n 0 _ (fun j q _ hj hq => ?_) rfl
    unfold Mwait1
    split
    · split
      · exact far_up hq (by omega) hi
      · exact far_up hq (by omega) hi
    · exact hq
  refine xloop_invb (fun q : Nat → Nat → Int32 => q i = L i) n 0 _ (fun j q _ hj hq => ?_) hw
  split
  · exact hq
  · exact (Mspread_far (by omega) hi).trans hq
theorem MLook_far {n nw i : Nat} {sg h : Nat → Int32} {Y L : Nat → Nat → Int32} (hi : n ≤ i) : MLook n nw sg Y L h i = L i := by
  refine xloop_invb (fun q : Nat → Nat → Int32 => q i = L i) n 0 _ (fun j q _ hj hq => ?_) rfl
  unfold Mlook1
  split
  · exact hq
  · split
    · exact far_up hq (by omega) hi
    · exact (Mspread_far (by omega) hi).trans (far_up hq (by omega) hi)
theorem row_far {F : (Nat → Int32) → (Nat → Int32)} {n i : Nat} {L : Nat → Nat → Int32} (hi : n ≤ i) : xloop (fun i (M : Nat → Nat → Int32) => va_up M i (F (M i))) n 0 L i = L i := by
  rw [xloop_row (g := fun _ => F), if_neg (by omega)]
theorem Mnear_lt {x : Int32} {n : Nat} {L : Nat → Nat → Int32} (hn : n ≤ 16) (h : ¬ Mnear x n L < 0) : (Mnear x n L).toNatClampNeg < n := by
  have := xloop_invb (fun s : Int32 => s = -6 ∨ s.toNatClampNeg < n) n 0 (-6) (g := fun i (s : Int32) => if s < 0 ∨ Mfar (L i 0) x < Mfar (L s.toNatClampNeg 0) x then nI i else s) (fun j s _ hj hs => by
    split
    · exact Or.inr (by rw [nI_clamp (by omega)]; omega)
    · exact hs) (Or.inl rfl)
  exact this.resolve_left (fun e => h (by rw [show Mnear x n L = -6 from e]; decide))
theorem Mdark_far {n nw : Nat} {L Y : Nat → Nat → Int32} (hn : n ≤ 16) : (∀ i, n ≤ i → (Mdark n nw L Y).1 i = L i) ∧ (∀ w, nw ≤ w → (Mdark n nw L Y).2 w = Y w) := by
  refine xloop_invb (fun q : (Nat → Nat → Int32) × (Nat → Nat → Int32) => (∀ i, n ≤ i → q.1 i = L i) ∧ (∀ w, nw ≤ w → q.2 w = Y w)) nw 0 (L, Y) (fun j q _ hj hq => ?_) ⟨fun _ _ => rfl, fun _ _ => rfl⟩
  unfold Mdark1
  split
  · exact hq
  · split
    · refine ⟨fun i hi => ?_, fun w hw => far_up (n := nw) (hq.2 w hw) (by omega) hw⟩
      unfold Mblame
      dsimp only
      split
      · exact hq.1 i hi
      · rename_i hb
        exact far_up (hq.1 i hi) (Mnear_lt hn hb) hi
    · exact hq
theorem MDist_far {n nh h : Nat} {L O : Nat → Nat → Int32} (hh : nh ≤ h) : MDist n nh L O h = O h := by
  refine xloop_invb (fun q : Nat → Nat → Int32 => q h = O h) nh 0 _ (fun j q _ hj hq => ?_) rfl
  unfold Mdist1
  split <;> exact far_up hq (by omega) hh
theorem MGos_far {nw w : Nat} {V : Nat → Nat → Int32} (h : nw ≤ w) : MGos nw V w = V w := by
  unfold MGos
  rw [xloop_row (g := fun _ r => Mgo r (r 3).toNatClampNeg), if_neg (by omega)]
def ZFar (n nh nw : Nat) (q r : xM6) : Prop := (∀ i, n ≤ i → q.2.1 i = r.2.1 i) ∧ (∀ h, nh ≤ h → q.2.2.1 h = r.2.2.1 h) ∧ (∀ w, nw ≤ w → q.2.2.2.1 w = r.2.2.2.1 w)
theorem Mpass_far {n nh nw : Nat} {q : xM6} (hn : n ≤ 16) : ZFar n nh nw (Mpass n nh nw q) q := by
  have hd := Mdark_far (n := n) (nw := nw) (L := ML n nw q) (Y := MGos nw q.2.2.2.1) hn
  refine ⟨fun i hi => (hd.1 i hi).trans ?_, fun h hh => MDist_far hh, fun w hw => (hd.2 w hw).trans (MGos_far hw)⟩
  exact (((row_far (F := Muse) hi).trans (row_far (F := Mfade q.1) hi)).trans (MLook_far hi)).trans ((MAgain_far hi).trans (row_far (F := fun m => va_up (va_up m 11 0) 12 0) hi))
theorem RSt.cong {s sg sg' : Nat → Int32} (h : RSt s sg) (e : ∀ w, w ≠ 6 → sg' w = sg w) : RSt s sg' :=
  ⟨⟨(e 0 (by decide)).trans h.1.1, (e 2 (by decide)).trans h.1.2.1, (e 3 (by decide)).trans h.1.2.2.1, (e 4 (by decide)).trans h.1.2.2.2.1, (e 5 (by decide)).trans h.1.2.2.2.2⟩, h.2⟩
theorem ZH.cong {n : Nat} {st s sg sg' : Nat → Int32} (h : ZH n st s sg) (e : ∀ w, w ≠ 6 → sg' w = sg w) : ZH n st s sg' :=
  ⟨h.1, fun i j hi hj hij => by rw [e 1 (by decide)]; exact h.2 i j hi hj hij⟩
theorem ZQ.weak {n nh nw : Nat} {st : Nat → Int32} {q : xS6} {q' : xM6} (h : ZQ n nh nw ZLf st q q') : ZQ n nh nw ZL st q q' := ⟨h.1.weak (fun _ _ z => z.1), h.2⟩
theorem Z_ticks {n nh nw k : Nat} {st s : Nat → Int32} {q : xS6} {q' : xM6} (hn : n ≤ 16) (hs : RSt s q'.1) (hH : ZH n st s q'.1) (h : ZQ n nh nw ZL st q q') :
    ZQ n nh nw ZL st (Fticks n nh nw s k q) (Mticks n nh nw k q') ∧ (∀ w, w ≠ 6 → (Mticks n nh nw k q').1 w = q'.1 w) ∧ ZFar n nh nw (Mticks n nh nw k q') q' ∧ (∀ w, w ≠ 7 → (Fticks n nh nw s k q).1 w = q.1 w) := by
  refine xloop_sim (fun _ (z : xS6) (z' : xM6) => ZQ n nh nw ZL st z z' ∧ (∀ w, w ≠ 6 → z'.1 w = q'.1 w) ∧ ZFar n nh nw z' q' ∧ (∀ w, w ≠ 7 → z.1 w = q.1 w)) k 0 q q' (fun _ z z' _ _ hz => ?_) ⟨h, fun _ _ => rfl, ⟨fun _ _ => rfl, fun _ _ => rfl, fun _ _ => rfl⟩, fun _ _ => rfl⟩
  obtain ⟨h1, h2, h3, h4⟩ := hz
  have hp := Mpass_far (nh := nh) (nw := nw) (q := z') hn
  exact ⟨(Z_tick hn (hs.cong h2) (hH.cong h2) h1).weak, fun w hw => (va_up_ne _ _ hw).trans (h2 w hw), ⟨fun i hi => (hp.1 i hi).trans (h3.1 i hi), fun i hi => (hp.2.1 i hi).trans (h3.2.1 i hi), fun i hi => (hp.2.2 i hi).trans (h3.2.2 i hi)⟩, fun w hw => (va_up_ne _ _ hw).trans (h4 w hw)⟩
/-- a street of the class and a row of the model -/
def ZC (f s : Nat → Int32) (L O Y P Q : Nat → Nat → Int32) (sg : Nat → Int32) (M U V : Nat → Nat → Int32) : Prop :=
  (sg 1 = s 1 ∧ RSt s sg ∧ (∃ a, a < 21 ∧ s 0 = nI a) ∧ ∃ a, a < 60 ∧ s 1 = nI (a + 1)) ∧ (sg 6 = f 7 ∧ sg 7 = f 4 ∧ sg 8 = f 5 ∧ sg 9 = f 6) ∧
  ZLs (f 4).toNatClampNeg ZL (fun i => L i 0) L M ∧ ZOs (f 5).toNatClampNeg O U ∧ ZYs (f 6).toNatClampNeg Y P Q V ∧
  (∀ i, (f 4).toNatClampNeg ≤ i → i < 16 → ∀ k, k < 13 → M i k = 0) ∧ (∀ i, (f 5).toNatClampNeg ≤ i → i < 8 → ∀ k, k < 3 → U i k = 0) ∧ (∀ i, (f 6).toNatClampNeg ≤ i → i < 8 → ∀ k, k < 22 → V i k = 0)
def ZS (σ : xS) (sg : Nat → Int32) (M U V : Nat → Nat → Int32) : Prop := ZC (σ 0 0) (σ 1 0) (σ 2) (σ 3) (σ 4) (σ 5) (σ 6) sg M U V
theorem ZH_eq {n : Nat} {st s sg : Nat → Int32} (h : ∀ i, i < n → R99 (st i)) (e : sg 1 = s 1) : ZH n st s sg := ⟨h, fun i j hi hj _ => by rw [e, xfar_eq (h i hi) (h j hj)]⟩
theorem ZLs.st9 {n : Nat} {st : Nat → Int32} {L M : Nat → Nat → Int32} (h : ZLs n ZL st L M) : ∀ i, i < n → R99 (st i) := fun i hi => by rw [← (h i hi).2]; exact (h i hi).1.2.2.2.1
theorem ZC.q {f s : Nat → Int32} {L O Y P Q : Nat → Nat → Int32} {sg g h : Nat → Int32} {M U V : Nat → Nat → Int32} (z : ZC f s L O Y P Q sg M U V) : ZQ (f 4).toNatClampNeg (f 5).toNatClampNeg (f 6).toNatClampNeg ZL (fun i => L i 0) (f, L, O, Y, P, Q) (sg, M, U, V, g, h) := ⟨z.2.2.1, z.2.2.2.1, z.2.2.2.2.1, z.2.1.1⟩
