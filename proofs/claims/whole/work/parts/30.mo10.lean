/-! ===== the model: the text is read ===== -/
def Mnx (p f : Nat → Int32) : Int32 := if f 11 < f 10 then p (f 11).toNatClampNeg else 0
def MkN (f : Nat → Int32) : Prop := f 10 = nI (f 10).toNatClampNeg ∧ (f 10).toNatClampNeg ≤ 80 ∧ f 11 = nI (f 11).toNatClampNeg ∧ (f 11).toNatClampNeg ≤ 80
def Mk (j : Nat) (f : Nat → Int32) : Prop := f 10 = nI (f 10).toNatClampNeg ∧ (f 10).toNatClampNeg ≤ 80 ∧ f 11 = nI (f 11).toNatClampNeg ∧ (f 11).toNatClampNeg ≤ (f 10).toNatClampNeg ∧ (f 12 = 0 ∨ f 12 = 1) ∧ f 14 = nI (f 14).toNatClampNeg ∧ (f 14).toNatClampNeg + j ≤ (f 11).toNatClampNeg
theorem Mk.n {j : Nat} {f : Nat → Int32} (h : Mk j f) : MkN f := ⟨h.1, h.2.1, h.2.2.1, Nat.le_trans h.2.2.2.1 h.2.1⟩
theorem Mk.le {i j : Nat} {f : Nat → Int32} (h : Mk j f) (hij : i ≤ j) : Mk i f := by
  obtain ⟨a, b, c, d, e, g, k⟩ := h
  exact ⟨a, b, c, d, e, g, by omega⟩
theorem xltn {x y : Int32} (hx : x = nI x.toNatClampNeg) (hy : y = nI y.toNatClampNeg) (hx8 : x.toNatClampNeg ≤ 80) (hy8 : y.toNatClampNeg ≤ 80) : x < y ↔ x.toNatClampNeg < y.toNatClampNeg := by
  rw [hx, hy, nI_ltI (by omega) (by omega), nI_clamp (by omega), nI_clamp (by omega)]
theorem MkN.lt {p f : Nat → Int32} (h : MkN f) (hn : ¬ Mnx p f = 0) : (f 11).toNatClampNeg < (f 10).toNatClampNeg := by
  unfold Mnx at hn
  split at hn
  · rename_i h1
    exact (xltn h.2.2.1 h.1 h.2.2.2 h.2.1).mp h1
  · exact absurd rfl hn
theorem xinc {x : Int32} (h : x = nI x.toNatClampNeg) (h8 : x.toNatClampNeg < 2 ^ 30) : (x + 1).toNatClampNeg = x.toNatClampNeg + 1 ∧ x + 1 = nI (x + 1).toNatClampNeg := by
  have e : x + 1 = nI (x.toNatClampNeg + 1) := by rw [h, nI_clamp (by omega)]; exact nI_1 _
  have e2 : (x + 1).toNatClampNeg = x.toNatClampNeg + 1 := by rw [e, nI_clamp (by omega)]
  exact ⟨e2, by rw [e2]; exact e⟩
theorem xadd0 (x : Int32) : x + 0 = x := Int32.add_zero x
/-- a step of the spot -/
theorem Mk_a {j : Nat} {f : Nat → Int32} (h : Mk j f) (hn : (f 11).toNatClampNeg < (f 10).toNatClampNeg) : Mk (j + 1) (va_up (va_up f 12 0) 11 (f 11 + 1)) ∧ (va_up (va_up f 12 0) 11 (f 11 + 1) 11).toNatClampNeg = (f 11).toNatClampNeg + 1 := by
  obtain ⟨a, b, c, d, e, g, k⟩ := h
  have hi := xinc c (by omega)
  refine ⟨⟨a, b, hi.2, ?_, Or.inl rfl, g, ?_⟩, hi.1⟩
  · show (f 11 + 1).toNatClampNeg ≤ (f 10).toNatClampNeg
    rw [hi.1]; omega
  · show (f 14).toNatClampNeg + (j + 1) ≤ (f 11 + 1).toNatClampNeg
    rw [hi.1]; omega
theorem Mk_b {j : Nat} {f : Nat → Int32} (h : Mk j f) (hn : (f 11).toNatClampNeg < (f 10).toNatClampNeg) : Mk (j + 1) (va_up f 11 (f 11 + 1)) ∧ (va_up f 11 (f 11 + 1) 11).toNatClampNeg = (f 11).toNatClampNeg + 1 := by
  obtain ⟨a, b, c, d, e, g, k⟩ := h
  have hi := xinc c (by omega)
  refine ⟨⟨a, b, hi.2, ?_, e, g, ?_⟩, hi.1⟩
  · show (f 11 + 1).toNatClampNeg ≤ (f 10).toNatClampNeg
    rw [hi.1]; omega
  · show (f 14).toNatClampNeg + (j + 1) ≤ (f 11 + 1).toNatClampNeg
    rw [hi.1]; omega
theorem Mk_w {j : Nat} {f : Nat → Int32} (h : Mk j f) : Mk j (va_up (va_up f 12 1) 11 (f 11 + 0)) := by
  rw [xadd0]
  obtain ⟨a, b, c, d, e, g, k⟩ := h
  exact ⟨a, b, c, d, Or.inr rfl, g, k⟩
theorem Mk_12 {j : Nat} {f : Nat → Int32} {v : Int32} (h : Mk j f) (hv : v = 0 ∨ v = 1) : Mk j (va_up f 12 v) := by
  obtain ⟨a, b, c, d, e, g, k⟩ := h
  exact ⟨a, b, c, d, hv, g, k⟩
theorem Mk_e {j : Nat} {f : Nat → Int32} (h : Mk (j + 1) f) : Mk j (va_up f 14 (f 14 + 1)) := by
  obtain ⟨a, b, c, d, e, g, k⟩ := h
  have hi := xinc g (by omega)
  refine ⟨a, b, c, d, e, hi.2, ?_⟩
  show (f 14 + 1).toNatClampNeg + j ≤ (f 11).toNatClampNeg
  rw [hi.1]; omega
/-- what a reading does to the fields -/
def Mpg (f f' : Nat → Int32) : Prop := f' 10 = f 10 ∧ f' 13 = f 13 ∧ (f 11).toNatClampNeg ≤ (f' 11).toNatClampNeg ∧ (f' 12 = 0 → f 12 = 0 ∧ (f 11).toNatClampNeg + 1 ≤ (f' 11).toNatClampNeg)
def MtS (p : Nat → Int32) (c : Int32) (f : Nat → Int32) : Nat → Int32 := if f 12 = 0 then (if Mnx p f = c then va_up (va_up f 12 0) 11 (f 11 + 1) else va_up (va_up f 12 1) 11 (f 11 + 0)) else va_up (va_up f 12 1) 11 (f 11 + 0)
theorem Mk_S {p f : Nat → Int32} {c : Int32} {j : Nat} (h : Mk j f) (hc : ¬ c = 0) : Mk j (MtS p c f) ∧ Mpg f (MtS p c f) := by
  unfold MtS
  have hw : Mpg f (va_up (va_up f 12 1) 11 (f 11 + 0)) := ⟨rfl, rfl, by rw [xadd0]; exact Nat.le_refl _, fun e => absurd (show (1 : Int32) = 0 from e) (by decide)⟩
  split
  · rename_i h0
    split
    · rename_i h1
      have ha := Mk_a h (h.n.lt (p := p) (by rw [h1]; exact hc))
      exact ⟨ha.1.le (by omega), rfl, rfl, by rw [ha.2]; omega, fun _ => ⟨h0, by rw [ha.2]; omega⟩⟩
    · exact ⟨Mk_w h, hw⟩
  · exact ⟨Mk_w h, hw⟩
abbrev xMP : Type := (Nat → Int32) × (Nat → Int32)
def Men (v : Int32) (q : xMP) : xMP := (va_up q.1 14 (q.1 14 + 1), va_up q.2 (q.1 14).toNatClampNeg v)
def MnL (p : Nat → Int32) : Nat → (Nat → Int32) × Int32 → (Nat → Int32) × Int32
  | 0, q => q
  | k + 1, q => if q.1 12 = 0 then (if q.2 ≤ 0 then q else if Fin3 (Mnx p q.1) 48 57 = 0 then q else if 10 * q.2 + Mnx p q.1 - 48 ≤ 999 then MnL p k (va_up (va_up q.1 12 0) 11 (q.1 11 + 1), 10 * q.2 + Mnx p (va_up q.1 12 0) - 48) else MnL p k (va_up (va_up q.1 12 1) 11 (q.1 11 + 0), q.2)) else q
def MtN (p : Nat → Int32) (q : xMP) : xMP :=
  if q.1 12 = 0 then (if Fin3 (Mnx p q.1) 48 57 = 0 then (va_up q.1 12 1, q.2) else
    Men (MnL p 80 (va_up (va_up q.1 12 0) 11 (q.1 11 + 1), Mnx p (va_up q.1 12 0) - 48)).2 ((MnL p 80 (va_up (va_up q.1 12 0) 11 (q.1 11 + 1), Mnx p (va_up q.1 12 0) - 48)).1, q.2)) else (va_up q.1 12 1, q.2)
theorem xdig0 {c : Int32} (h : ¬ Fin3 c 48 57 = 0) : ¬ c = 0 := by
  rintro rfl
  exact h (by decide)
theorem Mk_L {p : Nat → Int32} : ∀ (k : Nat) (q : (Nat → Int32) × Int32) (j : Nat), Mk j q.1 → Mk j (MnL p k q).1 ∧ (MnL p k q).1 10 = q.1 10 ∧ (MnL p k q).1 13 = q.1 13 ∧ (q.1 11).toNatClampNeg ≤ ((MnL p k q).1 11).toNatClampNeg ∧ ((MnL p k q).1 12 = 0 → q.1 12 = 0)
  | 0, q, j, h => ⟨h, rfl, rfl, Nat.le_refl _, fun e => e⟩
  | k + 1, q, j, h => by
    unfold MnL
    split
    · rename_i h0
      split
      · exact ⟨h, rfl, rfl, Nat.le_refl _, fun e => e⟩
      · split
        · exact ⟨h, rfl, rfl, Nat.le_refl _, fun e => e⟩
        · rename_i h2
          split
          · have ha := Mk_a h (h.n.lt (p := p) (xdig0 h2))
            have ih := Mk_L (p := p) k (va_up (va_up q.1 12 0) 11 (q.1 11 + 1), 10 * q.2 + Mnx p (va_up q.1 12 0) - 48) j (ha.1.le (by omega))
            exact ⟨ih.1, ih.2.1, ih.2.2.1, by have := ih.2.2.2.1; have e := ha.2; dsimp only at this; omega, fun _ => h0⟩
          · have ih := Mk_L (p := p) k (va_up (va_up q.1 12 1) 11 (q.1 11 + 0), q.2) j (Mk_w h)
            exact ⟨ih.1, ih.2.1, ih.2.2.1, Nat.le_trans (Nat.le_of_eq (by rw [xadd0])) (show (q.1 11 + 0).toNatClampNeg ≤ _ from ih.2.2.2.1), fun _ => h0⟩
    · exact ⟨h, rfl, rfl, Nat.le_refl _, fun e => e⟩
theorem Mk_N {p : Nat → Int32} {q : xMP} {j : Nat} (h : Mk j q.1) : Mk j (MtN p q).1 ∧ Mpg q.1 (MtN p q).1 := by
  unfold MtN
  split
  · rename_i h0
    split
    · exact ⟨Mk_12 h (Or.inr rfl), rfl, rfl, Nat.le_refl _, fun e => absurd (show (1 : Int32) = 0 from e) (by decide)⟩
    · rename_i h1
      have ha := Mk_a h (h.n.lt (p := p) (xdig0 h1))
      have hl := Mk_L (p := p) 80 (va_up (va_up q.1 12 0) 11 (q.1 11 + 1), Mnx p (va_up q.1 12 0) - 48) (j + 1) ha.1
      exact ⟨Mk_e hl.1, hl.2.1, hl.2.2.1, by have := hl.2.2.2.1; have e := ha.2; dsimp only at this; show (q.1 11).toNatClampNeg ≤ ((MnL p 80 _).1 11).toNatClampNeg; omega, fun _ => ⟨h0, by have := hl.2.2.2.1; have e := ha.2; dsimp only at this; show (q.1 11).toNatClampNeg + 1 ≤ ((MnL p 80 _).1 11).toNatClampNeg; omega⟩⟩
  · exact ⟨Mk_12 h (Or.inr rfl), rfl, rfl, Nat.le_refl _, fun e => absurd (show (1 : Int32) = 0 from e) (by decide)⟩
theorem Mk.end {p f : Nat → Int32} {j : Nat} (h : Mk j f) (h0 : (f 10).toNatClampNeg ≤ (f 11).toNatClampNeg) : Mnx p f = 0 := by
  unfold Mnx
  rw [if_neg]
  intro c
  have := (xltn h.2.2.1 h.1 h.n.2.2.2 h.2.1).mp c
  omega
theorem xnodig {p f : Nat → Int32} {j : Nat} (h0 : (f 10).toNatClampNeg ≤ (f 11).toNatClampNeg + 0) (h : Mk j f) : Fin3 (Mnx p f) 48 57 = 0 := by rw [h.end h0]; decide
theorem xno62 {p f : Nat → Int32} {j : Nat} (h0 : (f 10).toNatClampNeg ≤ (f 11).toNatClampNeg + 0) (h : Mk j f) : ¬ Mnx p f = 62 := by rw [h.end h0]; decide
theorem Mk.cong {j : Nat} {f f' : Nat → Int32} (h : Mk j f) (e : ∀ w, f' w = f w) : Mk j f' := by
  have : f' = f := funext e
  rw [this]; exact h
theorem Mk.of13 {j : Nat} {f : Nat → Int32} {v : Int32} (h : Mk j f) : Mk j (va_up f 13 v) := h
theorem Mpg.trans' {a b : Nat → Int32} {c : Nat → Int32} {P : Prop} (h : Mpg a b) (g : P ∧ c 10 = b 10 ∧ c 13 = b 13 ∧ (b 11).toNatClampNeg ≤ (c 11).toNatClampNeg ∧ (c 12 = 0 → b 12 = 0)) : Mpg a c :=
  ⟨g.2.1.trans h.1, g.2.2.1.trans h.2.1, Nat.le_trans h.2.2.1 g.2.2.2.1, fun e => ⟨(h.2.2.2 (g.2.2.2.2 e)).1, Nat.le_trans (h.2.2.2 (g.2.2.2.2 e)).2 g.2.2.2.1⟩⟩
def Mg1 (p : Nat → Int32) (q : xMP) : xMP :=
  if (MtN p (va_up q.1 11 (q.1 11 + 1), q.2)).1 12 = 0 then
    (if Mnx p (MtN p (va_up q.1 11 (q.1 11 + 1), q.2)).1 = 42 then MtN p (va_up (MtN p (va_up q.1 11 (q.1 11 + 1), q.2)).1 11 ((MtN p (va_up q.1 11 (q.1 11 + 1), q.2)).1 11 + 1), (MtN p (va_up q.1 11 (q.1 11 + 1), q.2)).2)
     else Men 0 (MtN p (va_up q.1 11 (q.1 11 + 1), q.2)))
  else Men 0 (MtN p (va_up q.1 11 (q.1 11 + 1), q.2))
theorem Mk_g {p : Nat → Int32} {q : xMP} {j : Nat} (h : Mk j q.1) (hn : Mnx p q.1 = 62) : Mk j (Mg1 p q).1 ∧ (Mg1 p q).1 10 = q.1 10 ∧ (Mg1 p q).1 13 = q.1 13 ∧ (q.1 11).toNatClampNeg + 1 ≤ ((Mg1 p q).1 11).toNatClampNeg := by
  have hb := Mk_b h (h.n.lt (p := p) (by rw [hn]; decide))
  have h1 := Mk_N (p := p) (q := (va_up q.1 11 (q.1 11 + 1), q.2)) hb.1
  have e1 := h1.2.2.2.1
  have e0 := hb.2
  dsimp only at e1
  unfold Mg1
  split
  · split
    · rename_i h2
      have hb2 := Mk_b h1.1 (h1.1.n.lt (p := p) (by rw [h2]; decide))
      have h3 := Mk_N (p := p) (q := (va_up (MtN p (va_up q.1 11 (q.1 11 + 1), q.2)).1 11 ((MtN p (va_up q.1 11 (q.1 11 + 1), q.2)).1 11 + 1), (MtN p (va_up q.1 11 (q.1 11 + 1), q.2)).2)) hb2.1
      refine ⟨h3.1.le (by omega), h3.2.1.trans h1.2.1, h3.2.2.1.trans h1.2.2.1, ?_⟩
      have e2 := h3.2.2.2.1
      have e3 := hb2.2
      dsimp only at e2
      omega
    · exact ⟨Mk_e h1.1, h1.2.1, h1.2.2.1, by show (q.1 11).toNatClampNeg + 1 ≤ ((MtN p _).1 11).toNatClampNeg; omega⟩
  · exact ⟨Mk_e h1.1, h1.2.1, h1.2.2.1, by show (q.1 11).toNatClampNeg + 1 ≤ ((MtN p _).1 11).toNatClampNeg; omega⟩
def MwL (p : Nat → Int32) : Nat → xMP → xMP
  | 0, q => q
  | k + 1, q => if q.1 12 = 0 then (if Mnx p q.1 = 62 then MwL p k (Mg1 p q) else q) else q
def Mhd (p : Nat → Int32) (c : Int32) (q : xMP) : xMP := (MtS p c (MtN p q).1, (MtN p q).2)
def MtW (p : Nat → Int32) (q : xMP) : xMP := MwL p 80 (MtN p (Mhd p 47 q))
def MtM (p : Nat → Int32) (q : xMP) : xMP :=
  if (Mhd p 61 q).1 12 = 0 then (if Fin3 (Mnx p (Mhd p 61 q).1) 48 50 = 0 then (va_up (Mhd p 61 q).1 12 1, (Mhd p 61 q).2) else
    (va_up (Men (Mnx p (va_up (Mhd p 61 q).1 12 0) - 48) (va_up (Mhd p 61 q).1 12 0, (Mhd p 61 q).2)).1 11 ((Men (Mnx p (va_up (Mhd p 61 q).1 12 0) - 48) (va_up (Mhd p 61 q).1 12 0, (Mhd p 61 q).2)).1 11 + 1), (Men (Mnx p (va_up (Mhd p 61 q).1 12 0) - 48) (va_up (Mhd p 61 q).1 12 0, (Mhd p 61 q).2)).2))
  else (va_up (Mhd p 61 q).1 12 1, (Mhd p 61 q).2)
theorem Mpg.trans {a b c : Nat → Int32} (h : Mpg a b) (g : Mpg b c) : Mpg a c :=
  ⟨g.1.trans h.1, g.2.1.trans h.2.1, Nat.le_trans h.2.2.1 g.2.2.1, fun e => ⟨(h.2.2.2 (g.2.2.2 e).1).1, Nat.le_trans (h.2.2.2 (g.2.2.2 e).1).2 g.2.2.1⟩⟩
theorem Mk_WL {p : Nat → Int32} {j : Nat} : ∀ (k : Nat) (q : xMP), Mk j q.1 → Mk j (MwL p k q).1 ∧ (MwL p k q).1 10 = q.1 10 ∧ (MwL p k q).1 13 = q.1 13 ∧ (q.1 11).toNatClampNeg ≤ ((MwL p k q).1 11).toNatClampNeg ∧ ((MwL p k q).1 12 = 0 → q.1 12 = 0)
  | 0, q, h => ⟨h, rfl, rfl, Nat.le_refl _, fun e => e⟩
  | k + 1, q, h => by
    unfold MwL
    split
    · rename_i h0
      split
      · rename_i h1
        have hg := Mk_g h h1
        have ih := Mk_WL (p := p) k (Mg1 p q) hg.1
        exact ⟨ih.1, ih.2.1.trans hg.2.1, ih.2.2.1.trans hg.2.2.1, by have := ih.2.2.2.1; have := hg.2.2.2; omega, fun _ => h0⟩
      · exact ⟨h, rfl, rfl, Nat.le_refl _, fun e => e⟩
    · exact ⟨h, rfl, rfl, Nat.le_refl _, fun e => e⟩
theorem Mk_hd {p : Nat → Int32} {c : Int32} {q : xMP} {j : Nat} (h : Mk j q.1) (hc : ¬ c = 0) : Mk j (Mhd p c q).1 ∧ Mpg q.1 (Mhd p c q).1 :=
  ⟨(Mk_S (Mk_N h).1 hc).1, (Mk_N h).2.trans (Mk_S (Mk_N h).1 hc).2⟩
theorem Mk_W {p : Nat → Int32} {q : xMP} {j : Nat} (h : Mk j q.1) : Mk j (MtW p q).1 ∧ Mpg q.1 (MtW p q).1 := by
  have h1 := Mk_hd (p := p) (c := 47) h (by decide)
  have h2 := Mk_N (p := p) (q := Mhd p 47 q) h1.1
  have h3 := Mk_WL (p := p) 80 (MtN p (Mhd p 47 q)) h2.1
  exact ⟨h3.1, (h1.2.trans h2.2).trans' h3⟩
theorem Mk_M {p : Nat → Int32} {q : xMP} {j : Nat} (h : Mk j q.1) : Mk j (MtM p q).1 ∧ Mpg q.1 (MtM p q).1 := by
  have h1 := Mk_hd (p := p) (c := 61) h (by decide)
  have hw : Mpg (Mhd p 61 q).1 (va_up (Mhd p 61 q).1 12 1) := ⟨rfl, rfl, Nat.le_refl _, fun e => absurd (show (1 : Int32) = 0 from e) (by decide)⟩
  unfold MtM
  split
  · rename_i h0
    split
    · exact ⟨Mk_12 h1.1 (Or.inr rfl), h1.2.trans hw⟩
    · rename_i h2
      have hn : ¬ Mnx p (Mhd p 61 q).1 = 0 := fun e => h2 (by rw [e]; decide)
      have ha := Mk_a h1.1 (h1.1.n.lt hn)
      have he := Mk_e ha.1
      refine ⟨he.cong (fun w => ?_), h1.2.trans ⟨rfl, rfl, ?_, fun _ => ⟨h0, ?_⟩⟩⟩
      · unfold va_up Men
        by_cases e1 : w = 11
        · subst e1; rfl
        · by_cases e2 : w = 14
          · subst e2; rfl
          · simp [va_up, e1, e2]
      · show ((Mhd p 61 q).1 11).toNatClampNeg ≤ ((Mhd p 61 q).1 11 + 1).toNatClampNeg
        have := ha.2
        have e : va_up (va_up (Mhd p 61 q).1 12 0) 11 ((Mhd p 61 q).1 11 + 1) 11 = (Mhd p 61 q).1 11 + 1 := rfl
        rw [e] at this
        omega
      · show ((Mhd p 61 q).1 11).toNatClampNeg + 1 ≤ ((Mhd p 61 q).1 11 + 1).toNatClampNeg
        have := ha.2
        have e : va_up (va_up (Mhd p 61 q).1 12 0) 11 ((Mhd p 61 q).1 11 + 1) 11 = (Mhd p 61 q).1 11 + 1 := rfl
        rw [e] at this
        omega
  · exact ⟨Mk_12 h1.1 (Or.inr rfl), h1.2.trans hw⟩
abbrev xM4 : Type := (Nat → Int32) × (Nat → Int32) × (Nat → Int32) × (Nat → Int32)
def Mbody (p : Nat → Int32) (c : Int32) (q : xMP) : xMP := if c = 99 then MtN p q else if c = 109 then MtM p q else if c = 116 then MtN p q else if c = 119 then MtW p q else (va_up (va_up q.1 11 (q.1 11 - 1)) 12 1, q.2)
def Mtail (c i : Int32) (b : Nat → Int32) (s : Nat → Int32) (r : xMP) : xM4 :=
  if r.1 12 = 0 then (va_up r.1 13 (r.1 13 + 1), va_up s i.toNatClampNeg c, va_up b (i + 1).toNatClampNeg (r.1 14), r.2) else (r.1, s, b, r.2)
def Mord (p : Nat → Int32) (q : xM4) : xM4 := Mtail (Mnx p q.1) (q.1 13) (va_up q.2.2.1 (q.1 13).toNatClampNeg (q.1 14)) q.2.1 (Mbody p (Mnx p q.1) (va_up q.1 11 (q.1 11 + 1), q.2.2.2))
theorem x1m (x : Int32) : x + 1 - 1 = x := Int32.add_sub_cancel x 1
theorem Mk_body {p f u : Nat → Int32} (h : Mk 0 f) (h0 : f 12 = 0) : Mk 0 (Mbody p (Mnx p f) (va_up f 11 (f 11 + 1), u)).1 ∧ (Mbody p (Mnx p f) (va_up f 11 (f 11 + 1), u)).1 10 = f 10 ∧ (Mbody p (Mnx p f) (va_up f 11 (f 11 + 1), u)).1 13 = f 13 ∧ ((Mbody p (Mnx p f) (va_up f 11 (f 11 + 1), u)).1 12 = 0 → (f 11).toNatClampNeg + 2 ≤ ((Mbody p (Mnx p f) (va_up f 11 (f 11 + 1), u)).1 11).toNatClampNeg) := by
  have key : ∀ r : xMP, (¬ Mnx p f = 0) → (∀ j, Mk j (va_up f 11 (f 11 + 1)) → Mk j r.1 ∧ Mpg (va_up f 11 (f 11 + 1)) r.1) → Mk 0 r.1 ∧ r.1 10 = f 10 ∧ r.1 13 = f 13 ∧ (r.1 12 = 0 → (f 11).toNatClampNeg + 2 ≤ (r.1 11).toNatClampNeg) := by
    intro r hn hr
    have hb := Mk_b h (h.n.lt hn)
    have hr1 := hr 1 hb.1
    exact ⟨hr1.1.le (by omega), hr1.2.1, hr1.2.2.1, fun e => by have := (hr1.2.2.2.2 e).2; have := hb.2; omega⟩
  unfold Mbody
  split
  · rename_i hc; exact key _ (by rw [hc]; decide) (fun j hj => Mk_N hj)
  · split
    · rename_i hc; exact key _ (by rw [hc]; decide) (fun j hj => Mk_M hj)
    · split
      · rename_i hc; exact key _ (by rw [hc]; decide) (fun j hj => Mk_N hj)
      · split
        · rename_i hc; exact key _ (by rw [hc]; decide) (fun j hj => Mk_W hj)
        · refine ⟨?_, rfl, rfl, fun e => absurd (show (1 : Int32) = 0 from e) (by decide)⟩
          refine (Mk_12 h (Or.inr rfl) : Mk 0 (va_up f 12 1)).cong (fun w => ?_)
          by_cases e1 : w = 11
          · subst e1; exact x1m (f 11)
          · simp [va_up, e1]
theorem Mk_to {p : Nat → Int32} {q : xM4} (h : Mk 0 q.1) (h0 : q.1 12 = 0) : Mk 0 (Mord p q).1 ∧ (Mord p q).1 10 = q.1 10 ∧ ((Mord p q).1 12 = 0 → (q.1 11).toNatClampNeg + 2 ≤ ((Mord p q).1 11).toNatClampNeg) ∧ ((Mord p q).1 13 = q.1 13 ∨ (Mord p q).1 13 = q.1 13 + 1) := by
  have hb := Mk_body (p := p) (u := q.2.2.2) h h0
  unfold Mord Mtail
  split
  · exact ⟨hb.1.of13, hb.2.1, hb.2.2.2, Or.inr (by show _ + 1 = _; rw [hb.2.2.1])⟩
  · exact ⟨hb.1, hb.2.1, hb.2.2.2, Or.inl hb.2.2.1⟩
theorem hdV_yX7_next : yX7_next.cls = RX7 ∧ yX7_next.cls ≠ "java/lang/invoke/MethodHandle" ∧ yX7_next.cls ≠ "java/lang/invoke/VarHandle" ∧ (parseMethodDescriptor yX7_next.desc).map (fun d => d.parameters.length) = some 0 := by decide +kernel
theorem hdV_yX7_takeSign : yX7_takeSign.cls = RX7 ∧ yX7_takeSign.cls ≠ "java/lang/invoke/MethodHandle" ∧ yX7_takeSign.cls ≠ "java/lang/invoke/VarHandle" ∧ (parseMethodDescriptor yX7_takeSign.desc).map (fun d => d.parameters.length) = some 1 := by decide +kernel
theorem hdV_yX7_enter : yX7_enter.cls = RX7 ∧ yX7_enter.cls ≠ "java/lang/invoke/MethodHandle" ∧ yX7_enter.cls ≠ "java/lang/invoke/VarHandle" ∧ (parseMethodDescriptor yX7_enter.desc).map (fun d => d.parameters.length) = some 1 := by decide +kernel
theorem hdV_yX7_takeNumber : yX7_takeNumber.cls = RX7 ∧ yX7_takeNumber.cls ≠ "java/lang/invoke/MethodHandle" ∧ yX7_takeNumber.cls ≠ "java/lang/invoke/VarHandle" ∧ (parseMethodDescriptor yX7_takeNumber.desc).map (fun d => d.parameters.length) = some 0 := by decide +kernel
theorem hdV_yX7_takeWalker : yX7_takeWalker.cls = RX7 ∧ yX7_takeWalker.cls ≠ "java/lang/invoke/MethodHandle" ∧ yX7_takeWalker.cls ≠ "java/lang/invoke/VarHandle" ∧ (parseMethodDescriptor yX7_takeWalker.desc).map (fun d => d.parameters.length) = some 0 := by decide +kernel
theorem hdV_yX7_takeMend : yX7_takeMend.cls = RX7 ∧ yX7_takeMend.cls ≠ "java/lang/invoke/MethodHandle" ∧ yX7_takeMend.cls ≠ "java/lang/invoke/VarHandle" ∧ (parseMethodDescriptor yX7_takeMend.desc).map (fun d => d.parameters.length) = some 0 := by decide +kernel
theorem hdV_yX7_takeOrder : yX7_takeOrder.cls = RX7 ∧ yX7_takeOrder.cls ≠ "java/lang/invoke/MethodHandle" ∧ yX7_takeOrder.cls ≠ "java/lang/invoke/VarHandle" ∧ (parseMethodDescriptor yX7_takeOrder.desc).map (fun d => d.parameters.length) = some 0 := by decide +kernel
set_option maxHeartbeats 4000000 in
set_option maxRecDepth 100000 in
theorem c_X7_next (l : Launch) (X : xX) (G : xG) {f sg pb pc pd pe pg ph pp pq pt pu : Nat → Int32} {L O Y : Nat → Nat → Int32}  (hk : MkN f) {res : Int32} (hres : (Mnx pp f) = res) : XC l yX7_next cX7_next 1 (some .int) 0 0 0 0 X xsh [.ref (xB X + xkey 12 0 0)] 603 603 (xval (xB X) (va_up G 12 (xMa f sg L O Y pb pc pd pe pg ph pp pq pt pu))) (xval (xB X) (va_up G 12 (xMa f sg L O Y pb pc pd pe pg ph pp pq pt pu))) (some (.int res)) := by
  refine XC.of RX7 "next" [(0, .ref (xB X + xkey 12 0 0))] (by decide) rfl rfl (Nat.le_of_ble_eq_true rfl) rfl ?_
  intro p e s m args below meth c ls hx hb hret hml hts hown hlocks hnm hK hW hl
  have hW : XR X G 12 (xMa f sg L O Y pb pc pd pe pg ph pp pq pt pu) s.heap [] := hW
  obtain ⟨Q0, hQ0⟩ : ∃ z, z = MQ below (xQ X xsh 603 (xval (xB X) (va_up G 12 (xMa f sg L O Y pb pc pd pe pg ph pp pq pt pu))) (some (.int res))) args s 0 0 (fun q => xB X ≤ q) := ⟨_, rfl⟩
  rw [← hQ0]
  refine lv_aload_n hx hb dX7_next_0 rfl (lv_at hl 0 rfl) ?_
  refine r_get hx hb hts hown hK hW (C := RX7) (T := TX7) (xF_mo0) inlX7 rfl (by decide) 11 (by decide) (by decide +kernel) xw_842 rfl (x := f 11) rfl dX7_next_1 ?_
  refine lv_aload_n hx hb dX7_next_4 rfl (lv_at hl 0 rfl) ?_
  refine r_get hx hb hts hown hK hW (C := RX7) (T := TX7) (xF_mo0) inlX7 rfl (by decide) 10 (by decide) (by decide +kernel) xw_674 rfl (x := f 10) rfl dX7_next_5 ?_
  refine lv_icmp_ge (tgt := 23) hx hb dX7_next_8 (by decide) (fun c_1 => ?_) (fun c_1 => ?_)
  · skip
    refine lv_iconst (v := 0) hx hb dX7_next_23 (by decide) ?_
    obtain rfl : 0 = res := by (rw [← hres]) <;> (simp [Mnx, c_1, Int32.not_lt.mpr c_1])
    rw [hQ0]
    exact x_iret hx hb hret hlocks rfl hW rfl dX7_next_24
  · skip
    refine lv_aload_n hx hb dX7_next_11 rfl (lv_at hl 0 rfl) ?_
    refine r_getr (C := RX7) (T := TX7) hx hb hts hown hK hW (xF_mo0).1 (xF_mo0).2.1 inlX7 rfl (by decide) 9 (by decide) (show xro (xkey 12 0 0) 9 = some (xkey 12 8 0) from by decide +kernel) xw_86 rfl dX7_next_12 ?_
    refine lv_aload_n hx hb dX7_next_15 rfl (lv_at hl 0 rfl) ?_
    refine r_get hx hb hts hown hK hW (C := RX7) (T := TX7) (xF_mo0) inlX7 rfl (by decide) 11 (by decide) (by decide +kernel) xw_842 rfl (x := f 11) rfl dX7_next_16 ?_
    refine r_iald hx hb hK hW (N := 80) (xF_mo8) ((f 11).toNatClampNeg) (Nat.lt_of_lt_of_le ((xltn hk.2.2.1 hk.1 hk.2.2.2 hk.2.1).mp (Int32.not_le.mp c_1)) hk.2.1) (by decide) hk.2.2.1 (xr_model 8 (by decide) (by decide) ((f 11).toNatClampNeg)) (x := pp ((f 11).toNatClampNeg)) rfl dX7_next_19 ?_
    refine lv_goto (tgt := 24) hx hb dX7_next_20 (by decide) ?_
    obtain rfl : pp ((f 11).toNatClampNeg) = res := by (rw [← hres]) <;> (simp [Mnx, c_1, Int32.not_le.mp c_1])
    rw [hQ0]
    exact x_iret hx hb hret hlocks rfl hW rfl dX7_next_24
set_option maxHeartbeats 4000000 in
set_option maxRecDepth 100000 in
theorem c_X7_takeSign (l : Launch) (X : xX) (G : xG) {f sg pb pc pd pe pg ph pp pq pt pu : Nat → Int32} {L O Y : Nat → Nat → Int32} {c9 : Int32} (hk : MkN f) {f' : Nat → Int32} (ho0 : (MtS pp c9 f) = f') : XC l yX7_takeSign cX7_takeSign 2 none 1 20 0 0 X xsh [.ref (xB X + xkey 12 0 0), .int c9] 603 603 (xval (xB X) (va_up G 12 (xMa f sg L O Y pb pc pd pe pg ph pp pq pt pu))) (xval (xB X) (va_up G 12 (xMa f' sg L O Y pb pc pd pe pg ph pp pq pt pu))) none := by
  refine XC.of RX7 "takeSign" [(0, .ref (xB X + xkey 12 0 0)), (1, .int c9)] (by decide) rfl rfl (Nat.le_of_ble_eq_true rfl) rfl ?_
  intro p e s m args below meth c ls hx hb hret hml hts hown hlocks hnm hK hW hl
  have hW : XR X G 12 (xMa f sg L O Y pb pc pd pe pg ph pp pq pt pu) s.heap [] := hW
  obtain ⟨Q0, hQ0⟩ : ∃ z, z = MQ below (xQ X xsh 603 (xval (xB X) (va_up G 12 (xMa f' sg L O Y pb pc pd pe pg ph pp pq pt pu))) none) args s 0 0 (fun q => xB X ≤ q) := ⟨_, rfl⟩
  rw [← hQ0]
  refine lv_aload_n hx hb dX7_takeSign_0 rfl (lv_at hl 0 rfl) ?_
  refine lv_aload_n hx hb dX7_takeSign_1 rfl (lv_at hl 0 rfl) ?_
  refine r_get hx hb hts hown hK hW (C := RX7) (T := TX7) (xF_mo0) inlX7 rfl (by decide) 12 (by decide) (by decide +kernel) xw_843 rfl (x := f 12) rfl dX7_takeSign_2 ?_
  refine lv_if_ne (tgt := 16) hx hb dX7_takeSign_5 (by decide) (fun c_1 => ?_) (fun c_1 => ?_)
  · skip
    refine lv_iconst (v := 1) hx hb dX7_takeSign_16 (by decide) ?_
    refine lv_goto (tgt := 21) hx hb dX7_takeSign_17 (by decide) ?_
    refine r_put hx hb hts hown hK hW (C := RX7) (T := TX7) (xF_mo0) inlX7 tyX7 tyX7_ok nmX7 rfl (by decide) 12 (by decide) (by decide +kernel) xw_843 rfl rfl rfl rfl xMa0 dX7_takeSign_21 (fun H locs hW => ?_)
    refine lv_aload_n hx hb dX7_takeSign_24 rfl (lv_at hl 0 rfl) ?_
    refine lv_dup hx hb dX7_takeSign_25 rfl ?_
    refine r_get hx hb hts hown hK hW (C := RX7) (T := TX7) (xF_mo0) inlX7 rfl (by decide) 11 (by decide) (by decide +kernel) xw_842 rfl (x := f 11) rfl dX7_takeSign_26 ?_
    refine lv_aload_n hx hb dX7_takeSign_29 rfl (lv_at hl 0 rfl) ?_
    refine r_get hx hb hts hown hK hW (C := RX7) (T := TX7) (xF_mo0) inlX7 rfl (by decide) 12 (by decide) (by decide +kernel) xw_843 rfl (x := 1) rfl dX7_takeSign_30 ?_
    refine lv_if_eq (tgt := 40) hx hb dX7_takeSign_33 (by decide) (fun c_2 => absurd c_2 (by decide)) (fun c_2 => ?_)
    refine lv_iconst (v := 0) hx hb dX7_takeSign_36 (by decide) ?_
    refine lv_goto (tgt := 41) hx hb dX7_takeSign_37 (by decide) ?_
    refine lv_iadd hx hb dX7_takeSign_41 ?_
    refine r_put hx hb hts hown hK hW (C := RX7) (T := TX7) (xF_mo0) inlX7 tyX7 tyX7_ok nmX7 rfl (by decide) 11 (by decide) (by decide +kernel) xw_842 rfl rfl rfl rfl xMa0 dX7_takeSign_42 (fun H locs hW => ?_)
    obtain rfl : (va_up (va_up f 12 1) 11 ((f 11) + 0)) = f' := by (rw [← ho0]) <;> (simp [MtS, c_1, c_2])
    rw [hQ0]
    exact x_vret hx hb hret hlocks hW rfl dX7_takeSign_45
  · skip
    refine lv_aload_n hx hb dX7_takeSign_8 rfl (lv_at hl 0 rfl) ?_
    refine x_callV hx hb hml hown hts hK hW hl.1 (c_X7_next l X G  (hk := (by assumption)) (hres := rfl)) (xF_mo0).1 (xF_mo0).2.1 (by decide) rfl xw_850 xw_851 xw_852 xw_5 xw_853 hdV_yX7_next ⟨Nat.le_of_ble_eq_true rfl, Nat.le_of_ble_eq_true rfl⟩ rfl (Nat.le_of_ble_eq_true rfl) ⟨Nat.le_refl _, Nat.le_refl _⟩ dX7_takeSign_9 (fun H locs hW => ?_)
    refine lv_iload_n hx hb dX7_takeSign_12 rfl (lv_at hl 1 rfl) ?_
    refine lv_icmp_eq (tgt := 20) hx hb dX7_takeSign_13 (by decide) (fun c_3 => ?_) (fun c_3 => ?_)
    · skip
      refine lv_iconst (v := 0) hx hb dX7_takeSign_20 (by decide) ?_
      refine r_put hx hb hts hown hK hW (C := RX7) (T := TX7) (xF_mo0) inlX7 tyX7 tyX7_ok nmX7 rfl (by decide) 12 (by decide) (by decide +kernel) xw_843 rfl rfl rfl rfl xMa0 dX7_takeSign_21 (fun H locs hW => ?_)
      refine lv_aload_n hx hb dX7_takeSign_24 rfl (lv_at hl 0 rfl) ?_
      refine lv_dup hx hb dX7_takeSign_25 rfl ?_
      refine r_get hx hb hts hown hK hW (C := RX7) (T := TX7) (xF_mo0) inlX7 rfl (by decide) 11 (by decide) (by decide +kernel) xw_842 rfl (x := f 11) rfl dX7_takeSign_26 ?_
      refine lv_aload_n hx hb dX7_takeSign_29 rfl (lv_at hl 0 rfl) ?_
      refine r_get hx hb hts hown hK hW (C := RX7) (T := TX7) (xF_mo0) inlX7 rfl (by decide) 12 (by decide) (by decide +kernel) xw_843 rfl (x := 0) rfl dX7_takeSign_30 ?_
      refine lv_if_eq (tgt := 40) hx hb dX7_takeSign_33 (by decide) (fun c_4 => ?_) (fun c_4 => absurd rfl c_4)
      refine lv_iconst (v := 1) hx hb dX7_takeSign_40 (by decide) ?_
      refine lv_iadd hx hb dX7_takeSign_41 ?_
      refine r_put hx hb hts hown hK hW (C := RX7) (T := TX7) (xF_mo0) inlX7 tyX7 tyX7_ok nmX7 rfl (by decide) 11 (by decide) (by decide +kernel) xw_842 rfl rfl rfl rfl xMa0 dX7_takeSign_42 (fun H locs hW => ?_)
      obtain rfl : (va_up (va_up f 12 0) 11 ((f 11) + 1)) = f' := by (rw [← ho0]) <;> (simp [MtS, c_1, c_3, c_4])
      rw [hQ0]
      exact x_vret hx hb hret hlocks hW rfl dX7_takeSign_45
    · skip
      refine lv_iconst (v := 1) hx hb dX7_takeSign_16 (by decide) ?_
      refine lv_goto (tgt := 21) hx hb dX7_takeSign_17 (by decide) ?_
      refine r_put hx hb hts hown hK hW (C := RX7) (T := TX7) (xF_mo0) inlX7 tyX7 tyX7_ok nmX7 rfl (by decide) 12 (by decide) (by decide +kernel) xw_843 rfl rfl rfl rfl xMa0 dX7_takeSign_21 (fun H locs hW => ?_)
      refine lv_aload_n hx hb dX7_takeSign_24 rfl (lv_at hl 0 rfl) ?_
      refine lv_dup hx hb dX7_takeSign_25 rfl ?_
      refine r_get hx hb hts hown hK hW (C := RX7) (T := TX7) (xF_mo0) inlX7 rfl (by decide) 11 (by decide) (by decide +kernel) xw_842 rfl (x := f 11) rfl dX7_takeSign_26 ?_
      refine lv_aload_n hx hb dX7_takeSign_29 rfl (lv_at hl 0 rfl) ?_
      refine r_get hx hb hts hown hK hW (C := RX7) (T := TX7) (xF_mo0) inlX7 rfl (by decide) 12 (by decide) (by decide +kernel) xw_843 rfl (x := 1) rfl dX7_takeSign_30 ?_
      refine lv_if_eq (tgt := 40) hx hb dX7_takeSign_33 (by decide) (fun c_5 => absurd c_5 (by decide)) (fun c_5 => ?_)
      refine lv_iconst (v := 0) hx hb dX7_takeSign_36 (by decide) ?_
      refine lv_goto (tgt := 41) hx hb dX7_takeSign_37 (by decide) ?_
      refine lv_iadd hx hb dX7_takeSign_41 ?_
      refine r_put hx hb hts hown hK hW (C := RX7) (T := TX7) (xF_mo0) inlX7 tyX7 tyX7_ok nmX7 rfl (by decide) 11 (by decide) (by decide +kernel) xw_842 rfl rfl rfl rfl xMa0 dX7_takeSign_42 (fun H locs hW => ?_)
      obtain rfl : (va_up (va_up f 12 1) 11 ((f 11) + 0)) = f' := by (rw [← ho0]) <;> (simp [MtS, c_1, c_3, c_5])
      rw [hQ0]
      exact x_vret hx hb hret hlocks hW rfl dX7_takeSign_45
set_option maxHeartbeats 4000000 in
set_option maxRecDepth 100000 in
theorem c_X7_enter (l : Launch) (X : xX) (G : xG) {f sg pb pc pd pe pg ph pp pq pt pu : Nat → Int32} {L O Y : Nat → Nat → Int32} {v : Int32} (h14 : f 14 = nI (f 14).toNatClampNeg) (h14b : (f 14).toNatClampNeg < 92) {f' : Nat → Int32} (ho0 : ((Men v (f, pu)).1) = f') {pu' : Nat → Int32} (ho1 : ((Men v (f, pu)).2) = pu') : XC l yX7_enter cX7_enter 2 none 0 0 0 0 X xsh [.ref (xB X + xkey 12 0 0), .int v] 603 603 (xval (xB X) (va_up G 12 (xMa f sg L O Y pb pc pd pe pg ph pp pq pt pu))) (xval (xB X) (va_up G 12 (xMa f' sg L O Y pb pc pd pe pg ph pp pq pt pu'))) none := by
  refine XC.of RX7 "enter" [(0, .ref (xB X + xkey 12 0 0)), (1, .int v)] (by decide) rfl rfl (Nat.le_of_ble_eq_true rfl) rfl ?_
  intro p e s m args below meth c ls hx hb hret hml hts hown hlocks hnm hK hW hl
  have hW : XR X G 12 (xMa f sg L O Y pb pc pd pe pg ph pp pq pt pu) s.heap [] := hW
  obtain ⟨Q0, hQ0⟩ : ∃ z, z = MQ below (xQ X xsh 603 (xval (xB X) (va_up G 12 (xMa f' sg L O Y pb pc pd pe pg ph pp pq pt pu'))) none) args s 0 0 (fun q => xB X ≤ q) := ⟨_, rfl⟩
  rw [← hQ0]
  refine lv_aload_n hx hb dX7_enter_0 rfl (lv_at hl 0 rfl) ?_
  refine r_getr (C := RX7) (T := TX7) hx hb hts hown hK hW (xF_mo0).1 (xF_mo0).2.1 inlX7 rfl (by decide) 17 (by decide) (show xro (xkey 12 0 0) 17 = some (xkey 12 11 0) from by decide +kernel) xw_89 rfl dX7_enter_1 ?_
  refine lv_aload_n hx hb dX7_enter_4 rfl (lv_at hl 0 rfl) ?_
  refine r_get hx hb hts hown hK hW (C := RX7) (T := TX7) (xF_mo0) inlX7 rfl (by decide) 14 (by decide) (by decide +kernel) xw_845 rfl (x := f 14) rfl dX7_enter_5 ?_
  refine lv_iload_n hx hb dX7_enter_8 rfl (lv_at hl 1 rfl) ?_
  refine r_iast hx hb hK hW (N := 92) (xF_mo11) ((f 14).toNatClampNeg) h14b (by decide) h14 (xr_model 11 (by decide) (by decide) ((f 14).toNatClampNeg)) xMa14 dX7_enter_9 (fun H locs hW => ?_)
  refine lv_aload_n hx hb dX7_enter_10 rfl (lv_at hl 0 rfl) ?_
  refine lv_dup hx hb dX7_enter_11 rfl ?_
  refine r_get hx hb hts hown hK hW (C := RX7) (T := TX7) (xF_mo0) inlX7 rfl (by decide) 14 (by decide) (by decide +kernel) xw_845 rfl (x := f 14) rfl dX7_enter_12 ?_
  refine lv_iconst (v := 1) hx hb dX7_enter_15 (by decide) ?_
  refine lv_iadd hx hb dX7_enter_16 ?_
  refine r_put hx hb hts hown hK hW (C := RX7) (T := TX7) (xF_mo0) inlX7 tyX7 tyX7_ok nmX7 rfl (by decide) 14 (by decide) (by decide +kernel) xw_845 rfl rfl rfl rfl xMa0 dX7_enter_17 (fun H locs hW => ?_)
  obtain rfl : (va_up f 14 ((f 14) + 1)) = f' := by (rw [← ho0]) <;> (rfl)
  obtain rfl : (va_up pu ((f 14).toNatClampNeg) v) = pu' := by (rw [← ho1]) <;> (rfl)
  rw [hQ0]
  exact x_vret hx hb hret hlocks hW rfl dX7_enter_20
set_option maxHeartbeats 4000000 in
set_option maxRecDepth 100000 in
theorem c_X7_takeNumber (l : Launch) (X : xX) (G : xG) {f sg pb pc pd pe pg ph pp pq pt pu : Nat → Int32} {L O Y : Nat → Nat → Int32} {j : Nat} (h : Mk j f) {f' : Nat → Int32} (ho0 : ((MtN pp (f, pu)).1) = f') {pu' : Nat → Int32} (ho1 : ((MtN pp (f, pu)).2) = pu') : XC l yX7_takeNumber cX7_takeNumber 2 none 1 22 0 0 X xsh [.ref (xB X + xkey 12 0 0)] 603 603 (xval (xB X) (va_up G 12 (xMa f sg L O Y pb pc pd pe pg ph pp pq pt pu))) (xval (xB X) (va_up G 12 (xMa f' sg L O Y pb pc pd pe pg ph pp pq pt pu'))) none := by
  refine XC.of RX7 "takeNumber" [(0, .ref (xB X + xkey 12 0 0))] (by decide) rfl rfl (Nat.le_of_ble_eq_true rfl) rfl ?_
  intro p e s m args below meth c ls hx hb hret hml hts hown hlocks hnm hK hW hl
  have hW : XR X G 12 (xMa f sg L O Y pb pc pd pe pg ph pp pq pt pu) s.heap [] := hW
  obtain ⟨Q0, hQ0⟩ : ∃ z, z = MQ below (xQ X xsh 603 (xval (xB X) (va_up G 12 (xMa f' sg L O Y pb pc pd pe pg ph pp pq pt pu'))) none) args s 0 0 (fun q => xB X ≤ q) := ⟨_, rfl⟩
  rw [← hQ0]
  refine lv_aload_n hx hb dX7_takeNumber_0 rfl (lv_at hl 0 rfl) ?_
  refine lv_aload_n hx hb dX7_takeNumber_1 rfl (lv_at hl 0 rfl) ?_
  refine r_get hx hb hts hown hK hW (C := RX7) (T := TX7) (xF_mo0) inlX7 rfl (by decide) 12 (by decide) (by decide +kernel) xw_843 rfl (x := f 12) rfl dX7_takeNumber_2 ?_
  refine lv_if_ne (tgt := 22) hx hb dX7_takeNumber_5 (by decide) (fun c_1 => ?_) (fun c_1 => ?_)
  · skip
    refine lv_iconst (v := 1) hx hb dX7_takeNumber_22 (by decide) ?_
    refine lv_goto (tgt := 27) hx hb dX7_takeNumber_23 (by decide) ?_
    refine r_put hx hb hts hown hK hW (C := RX7) (T := TX7) (xF_mo0) inlX7 tyX7 tyX7_ok nmX7 rfl (by decide) 12 (by decide) (by decide +kernel) xw_843 rfl rfl rfl rfl xMa0 dX7_takeNumber_27 (fun H locs hW => ?_)
    refine lv_aload_n hx hb dX7_takeNumber_30 rfl (lv_at hl 0 rfl) ?_
    refine r_get hx hb hts hown hK hW (C := RX7) (T := TX7) (xF_mo0) inlX7 rfl (by decide) 12 (by decide) (by decide +kernel) xw_843 rfl (x := 1) rfl dX7_takeNumber_31 ?_
    refine lv_if_eq (tgt := 38) hx hb dX7_takeNumber_34 (by decide) (fun c_2 => absurd c_2 (by decide)) (fun c_2 => ?_)
    obtain rfl : (va_up f 12 1) = f' := by (rw [← ho0]) <;> (first | (simp [MtN, c_1, c_2]; done) | (have e9 : (fa, va) = MnL pp 80 (va_up (va_up f 12 0) 11 (f 11 + 1), Mnx pp (va_up f 12 0) - 48) := (by rw [← hsp_56]; simp [MnL, c_1, c_2]); unfold MtN; dsimp only; rw [if_pos c_1, if_neg c_2, ← e9]))
    obtain rfl : pu = pu' := by (rw [← ho1]) <;> (first | (simp [MtN, c_1, c_2]; done) | (have e9 : (fa, va) = MnL pp 80 (va_up (va_up f 12 0) 11 (f 11 + 1), Mnx pp (va_up f 12 0) - 48) := (by rw [← hsp_56]; simp [MnL, c_1, c_2]); unfold MtN; dsimp only; rw [if_pos c_1, if_neg c_2, ← e9]))
    rw [hQ0]
    exact x_vret hx hb hret hlocks hW rfl dX7_takeNumber_37
  · skip
    refine lv_aload_n hx hb dX7_takeNumber_8 rfl (lv_at hl 0 rfl) ?_
    refine x_callV hx hb hml hown hts hK hW hl.1 (c_X7_next l X G  (hk := (show MkN f from h.n)) (hres := rfl)) (xF_mo0).1 (xF_mo0).2.1 (by decide) rfl xw_850 xw_851 xw_852 xw_5 xw_853 hdV_yX7_next ⟨Nat.le_of_ble_eq_true rfl, Nat.le_of_ble_eq_true rfl⟩ rfl (Nat.le_of_ble_eq_true rfl) ⟨Nat.le_refl _, Nat.le_refl _⟩ dX7_takeNumber_9 (fun H locs hW => ?_)
    refine lv_bipush (v := 48) hx hb dX7_takeNumber_12 (by decide) ?_
    refine lv_bipush (v := 57) hx hb dX7_takeNumber_14 (by decide) ?_
    refine x_callS hx hb hml hown hts hK hW hl.1 (c_X7_in l X _ (v := Mnx pp f) (lo := 48) (hi := 57) (hres := rfl)) xw_159 xw_160 xw_5 xw_161 hdS_yX7_in ⟨Nat.le_of_ble_eq_true rfl, Nat.le_of_ble_eq_true rfl⟩ rfl (Nat.le_of_ble_eq_true rfl) ⟨Nat.le_refl _, Nat.le_refl _⟩ dX7_takeNumber_16 (fun H locs hW => ?_)
    refine lv_if_ne (tgt := 26) hx hb dX7_takeNumber_19 (by decide) (fun c_3 => ?_) (fun c_3 => ?_)
    · skip
      refine lv_iconst (v := 0) hx hb dX7_takeNumber_26 (by decide) ?_
      refine r_put hx hb hts hown hK hW (C := RX7) (T := TX7) (xF_mo0) inlX7 tyX7 tyX7_ok nmX7 rfl (by decide) 12 (by decide) (by decide +kernel) xw_843 rfl rfl rfl rfl xMa0 dX7_takeNumber_27 (fun H locs hW => ?_)
      refine lv_aload_n hx hb dX7_takeNumber_30 rfl (lv_at hl 0 rfl) ?_
      refine r_get hx hb hts hown hK hW (C := RX7) (T := TX7) (xF_mo0) inlX7 rfl (by decide) 12 (by decide) (by decide +kernel) xw_843 rfl (x := 0) rfl dX7_takeNumber_31 ?_
      refine lv_if_eq (tgt := 38) hx hb dX7_takeNumber_34 (by decide) (fun c_4 => ?_) (fun c_4 => absurd rfl c_4)
      refine lv_aload_n hx hb dX7_takeNumber_38 rfl (lv_at hl 0 rfl) ?_
      refine x_callV hx hb hml hown hts hK hW hl.1 (c_X7_next l X G  (hk := (show MkN (va_up f 12 0) from h.n)) (hres := rfl)) (xF_mo0).1 (xF_mo0).2.1 (by decide) rfl xw_850 xw_851 xw_852 xw_5 xw_853 hdV_yX7_next ⟨Nat.le_of_ble_eq_true rfl, Nat.le_of_ble_eq_true rfl⟩ rfl (Nat.le_of_ble_eq_true rfl) ⟨Nat.le_refl _, Nat.le_refl _⟩ dX7_takeNumber_39 (fun H locs hW => ?_)
      refine lv_bipush (v := 48) hx hb dX7_takeNumber_42 (by decide) ?_
      refine lv_isub hx hb dX7_takeNumber_44 ?_
      refine lv_istore_n (lv' := [(1, .int ((Mnx pp (va_up f 12 0)) - 48)), (0, .ref (xB X + xkey 12 0 0))]) hx hb dX7_takeNumber_45 rfl hl (by decide) rfl (fun ls hl => ?_)
      refine lv_aload_n hx hb dX7_takeNumber_46 rfl (lv_at hl 1 rfl) ?_
      refine lv_dup hx hb dX7_takeNumber_47 rfl ?_
      refine r_get hx hb hts hown hK hW (C := RX7) (T := TX7) (xF_mo0) inlX7 rfl (by decide) 11 (by decide) (by decide +kernel) xw_842 rfl (x := f 11) rfl dX7_takeNumber_48 ?_
      refine lv_iconst (v := 1) hx hb dX7_takeNumber_51 (by decide) ?_
      refine lv_iadd hx hb dX7_takeNumber_52 ?_
      refine r_put hx hb hts hown hK hW (C := RX7) (T := TX7) (xF_mo0) inlX7 tyX7 tyX7_ok nmX7 rfl (by decide) 11 (by decide) (by decide +kernel) xw_842 rfl rfl rfl rfl xMa0 dX7_takeNumber_53 (fun H locs hW => ?_)
      have loop_56 : ∀ (k_56 i : Nat) (fa : Nat → Int32) (va : Int32), (¬ fa 12 = 0 ∨ (fa 10).toNatClampNeg ≤ (fa 11).toNatClampNeg + k_56) → Mk (j + 1) fa → MnL pp k_56 (fa, va) = MnL pp 80 ((va_up (va_up f 12 0) 11 ((f 11) + 1)), (Mnx pp (va_up f 12 0)) - 48) → ∀ (H : Heap) (locs : List Loc) (ls : Array Slot), XR X G 12 (xMa fa sg L O Y pb pc pd pe pg ph pp pq pt pu) H locs → lv_has ls 2 [(0, .ref (xB X + xkey 12 0 0)), (1, .int va)] → W p l e { frames := 1, cells := 0, slots := 0, locals := 22 } s m args below meth c H locs 0 0 Q0 (F0 m 56 ls []) := by
        intro k_56
        induction k_56 with
        | zero =>
          intro i fa va hik_56 hv0_56 hsp_56 H locs ls hW hl
          refine lv_aload_n hx hb dX7_takeNumber_56 rfl (lv_at hl 0 rfl) ?_
          refine r_get hx hb hts hown hK hW (C := RX7) (T := TX7) (xF_mo0) inlX7 rfl (by decide) 12 (by decide) (by decide +kernel) xw_843 rfl (x := fa 12) rfl dX7_takeNumber_57 ?_
          refine lv_if_ne (tgt := 156) hx hb dX7_takeNumber_60 (by decide) (fun c_5 => ?_) (fun c_5 => ?_)
          · skip
            refine lv_aload_n hx hb dX7_takeNumber_156 rfl (lv_at hl 0 rfl) ?_
            refine lv_iload_n hx hb dX7_takeNumber_157 rfl (lv_at hl 1 rfl) ?_
            refine x_callV hx hb hml hown hts hK hW hl.1 (c_X7_enter l X G (v := va) (h14 := hv0_56.2.2.2.2.2.1) (h14b := (by have := hv0_56.2.2.2.2.2.2; have := hv0_56.2.2.2.1; have := hv0_56.2.1; omega)) (ho0 := rfl) (ho1 := rfl)) (xF_mo0).1 (xF_mo0).2.1 (by decide) rfl xw_862 xw_863 xw_864 xw_5 xw_865 hdV_yX7_enter ⟨Nat.le_of_ble_eq_true rfl, Nat.le_of_ble_eq_true rfl⟩ rfl (Nat.le_of_ble_eq_true rfl) ⟨Nat.le_refl _, Nat.le_refl _⟩ dX7_takeNumber_158 (fun H locs hW => ?_)
            have hW : XR X G 12 (xMa ((Men va (fa, pu)).1) sg L O Y pb pc pd pe pg ph pp pq pt ((Men va (fa, pu)).2)) H locs := hW
            obtain rfl : ((Men va (fa, pu)).1) = f' := by (rw [← ho0]) <;> (first | (simp [MtN, c_1, c_3, c_4, c_5]; done) | (have e9 : (fa, va) = MnL pp 80 (va_up (va_up f 12 0) 11 (f 11 + 1), Mnx pp (va_up f 12 0) - 48) := (by rw [← hsp_56]; simp [MnL, c_1, c_3, c_4, c_5]); unfold MtN; dsimp only; rw [if_pos c_1, if_neg c_3, ← e9]))
            obtain rfl : ((Men va (fa, pu)).2) = pu' := by (rw [← ho1]) <;> (first | (simp [MtN, c_1, c_3, c_4, c_5]; done) | (have e9 : (fa, va) = MnL pp 80 (va_up (va_up f 12 0) 11 (f 11 + 1), Mnx pp (va_up f 12 0) - 48) := (by rw [← hsp_56]; simp [MnL, c_1, c_3, c_4, c_5]); unfold MtN; dsimp only; rw [if_pos c_1, if_neg c_3, ← e9]))
            rw [hQ0]
            exact x_vret hx hb hret hlocks hW rfl dX7_takeNumber_161
          · skip
            refine lv_iload_n hx hb dX7_takeNumber_63 rfl (lv_at hl 1 rfl) ?_
            refine lv_if_le (tgt := 156) hx hb dX7_takeNumber_64 (by decide) (fun c_6 => ?_) (fun c_6 => ?_)
            · skip
              refine lv_aload_n hx hb dX7_takeNumber_156 rfl (lv_at hl 0 rfl) ?_
              refine lv_iload_n hx hb dX7_takeNumber_157 rfl (lv_at hl 1 rfl) ?_
              refine x_callV hx hb hml hown hts hK hW hl.1 (c_X7_enter l X G (v := va) (h14 := hv0_56.2.2.2.2.2.1) (h14b := (by have := hv0_56.2.2.2.2.2.2; have := hv0_56.2.2.2.1; have := hv0_56.2.1; omega)) (ho0 := rfl) (ho1 := rfl)) (xF_mo0).1 (xF_mo0).2.1 (by decide) rfl xw_862 xw_863 xw_864 xw_5 xw_865 hdV_yX7_enter ⟨Nat.le_of_ble_eq_true rfl, Nat.le_of_ble_eq_true rfl⟩ rfl (Nat.le_of_ble_eq_true rfl) ⟨Nat.le_refl _, Nat.le_refl _⟩ dX7_takeNumber_158 (fun H locs hW => ?_)
              have hW : XR X G 12 (xMa ((Men va (fa, pu)).1) sg L O Y pb pc pd pe pg ph pp pq pt ((Men va (fa, pu)).2)) H locs := hW
              obtain rfl : ((Men va (fa, pu)).1) = f' := by (rw [← ho0]) <;> (first | (simp [MtN, c_1, c_3, c_4, c_5, c_6]; done) | (have e9 : (fa, va) = MnL pp 80 (va_up (va_up f 12 0) 11 (f 11 + 1), Mnx pp (va_up f 12 0) - 48) := (by rw [← hsp_56]; simp [MnL, c_1, c_3, c_4, c_5, c_6]); unfold MtN; dsimp only; rw [if_pos c_1, if_neg c_3, ← e9]))
              obtain rfl : ((Men va (fa, pu)).2) = pu' := by (rw [← ho1]) <;> (first | (simp [MtN, c_1, c_3, c_4, c_5, c_6]; done) | (have e9 : (fa, va) = MnL pp 80 (va_up (va_up f 12 0) 11 (f 11 + 1), Mnx pp (va_up f 12 0) - 48) := (by rw [← hsp_56]; simp [MnL, c_1, c_3, c_4, c_5, c_6]); unfold MtN; dsimp only; rw [if_pos c_1, if_neg c_3, ← e9]))
              rw [hQ0]
              exact x_vret hx hb hret hlocks hW rfl dX7_takeNumber_161
            · skip
              refine lv_aload_n hx hb dX7_takeNumber_67 rfl (lv_at hl 0 rfl) ?_
              refine x_callV hx hb hml hown hts hK hW hl.1 (c_X7_next l X G  (hk := (show MkN fa from hv0_56.n)) (hres := rfl)) (xF_mo0).1 (xF_mo0).2.1 (by decide) rfl xw_850 xw_851 xw_852 xw_5 xw_853 hdV_yX7_next ⟨Nat.le_of_ble_eq_true rfl, Nat.le_of_ble_eq_true rfl⟩ rfl (Nat.le_of_ble_eq_true rfl) ⟨Nat.le_refl _, Nat.le_refl _⟩ dX7_takeNumber_68 (fun H locs hW => ?_)
              refine lv_bipush (v := 48) hx hb dX7_takeNumber_71 (by decide) ?_
              refine lv_bipush (v := 57) hx hb dX7_takeNumber_73 (by decide) ?_
              refine x_callS hx hb hml hown hts hK hW hl.1 (c_X7_in l X _ (v := Mnx pp fa) (lo := 48) (hi := 57) (hres := rfl)) xw_159 xw_160 xw_5 xw_161 hdS_yX7_in ⟨Nat.le_of_ble_eq_true rfl, Nat.le_of_ble_eq_true rfl⟩ rfl (Nat.le_of_ble_eq_true rfl) ⟨Nat.le_refl _, Nat.le_refl _⟩ dX7_takeNumber_75 (fun H locs hW => ?_)
              refine lv_if_eq (tgt := 156) hx hb dX7_takeNumber_78 (by decide) (fun c_7 => ?_) (fun c_7 => absurd (xnodig (hik_56.resolve_left (fun z => z c_5)) hv0_56) c_7)
              refine lv_aload_n hx hb dX7_takeNumber_156 rfl (lv_at hl 0 rfl) ?_
              refine lv_iload_n hx hb dX7_takeNumber_157 rfl (lv_at hl 1 rfl) ?_
              refine x_callV hx hb hml hown hts hK hW hl.1 (c_X7_enter l X G (v := va) (h14 := hv0_56.2.2.2.2.2.1) (h14b := (by have := hv0_56.2.2.2.2.2.2; have := hv0_56.2.2.2.1; have := hv0_56.2.1; omega)) (ho0 := rfl) (ho1 := rfl)) (xF_mo0).1 (xF_mo0).2.1 (by decide) rfl xw_862 xw_863 xw_864 xw_5 xw_865 hdV_yX7_enter ⟨Nat.le_of_ble_eq_true rfl, Nat.le_of_ble_eq_true rfl⟩ rfl (Nat.le_of_ble_eq_true rfl) ⟨Nat.le_refl _, Nat.le_refl _⟩ dX7_takeNumber_158 (fun H locs hW => ?_)
              have hW : XR X G 12 (xMa ((Men va (fa, pu)).1) sg L O Y pb pc pd pe pg ph pp pq pt ((Men va (fa, pu)).2)) H locs := hW
              obtain rfl : ((Men va (fa, pu)).1) = f' := by (rw [← ho0]) <;> (first | (simp [MtN, c_1, c_3, c_4, c_5, c_6, c_7]; done) | (have e9 : (fa, va) = MnL pp 80 (va_up (va_up f 12 0) 11 (f 11 + 1), Mnx pp (va_up f 12 0) - 48) := (by rw [← hsp_56]; simp [MnL, c_1, c_3, c_4, c_5, c_6, c_7]); unfold MtN; dsimp only; rw [if_pos c_1, if_neg c_3, ← e9]))
              obtain rfl : ((Men va (fa, pu)).2) = pu' := by (rw [← ho1]) <;> (first | (simp [MtN, c_1, c_3, c_4, c_5, c_6, c_7]; done) | (have e9 : (fa, va) = MnL pp 80 (va_up (va_up f 12 0) 11 (f 11 + 1), Mnx pp (va_up f 12 0) - 48) := (by rw [← hsp_56]; simp [MnL, c_1, c_3, c_4, c_5, c_6, c_7]); unfold MtN; dsimp only; rw [if_pos c_1, if_neg c_3, ← e9]))
              rw [hQ0]
              exact x_vret hx hb hret hlocks hW rfl dX7_takeNumber_161
        | succ k_56 ih_56 =>
          intro i fa va hik_56 hv0_56 hsp_56 H locs ls hW hl
          refine lv_aload_n hx hb dX7_takeNumber_56 rfl (lv_at hl 0 rfl) ?_
          refine r_get hx hb hts hown hK hW (C := RX7) (T := TX7) (xF_mo0) inlX7 rfl (by decide) 12 (by decide) (by decide +kernel) xw_843 rfl (x := fa 12) rfl dX7_takeNumber_57 ?_
          refine lv_if_ne (tgt := 156) hx hb dX7_takeNumber_60 (by decide) (fun c_8 => ?_) (fun c_8 => ?_)
          · skip
            refine lv_aload_n hx hb dX7_takeNumber_156 rfl (lv_at hl 0 rfl) ?_
            refine lv_iload_n hx hb dX7_takeNumber_157 rfl (lv_at hl 1 rfl) ?_
            refine x_callV hx hb hml hown hts hK hW hl.1 (c_X7_enter l X G (v := va) (h14 := hv0_56.2.2.2.2.2.1) (h14b := (by have := hv0_56.2.2.2.2.2.2; have := hv0_56.2.2.2.1; have := hv0_56.2.1; omega)) (ho0 := rfl) (ho1 := rfl)) (xF_mo0).1 (xF_mo0).2.1 (by decide) rfl xw_862 xw_863 xw_864 xw_5 xw_865 hdV_yX7_enter ⟨Nat.le_of_ble_eq_true rfl, Nat.le_of_ble_eq_true rfl⟩ rfl (Nat.le_of_ble_eq_true rfl) ⟨Nat.le_refl _, Nat.le_refl _⟩ dX7_takeNumber_158 (fun H locs hW => ?_)
            have hW : XR X G 12 (xMa ((Men va (fa, pu)).1) sg L O Y pb pc pd pe pg ph pp pq pt ((Men va (fa, pu)).2)) H locs := hW
            obtain rfl : ((Men va (fa, pu)).1) = f' := by (rw [← ho0]) <;> (first | (simp [MtN, c_1, c_3, c_4, c_8]; done) | (have e9 : (fa, va) = MnL pp 80 (va_up (va_up f 12 0) 11 (f 11 + 1), Mnx pp (va_up f 12 0) - 48) := (by rw [← hsp_56]; simp [MnL, c_1, c_3, c_4, c_8]); unfold MtN; dsimp only; rw [if_pos c_1, if_neg c_3, ← e9]))
            obtain rfl : ((Men va (fa, pu)).2) = pu' := by (rw [← ho1]) <;> (first | (simp [MtN, c_1, c_3, c_4, c_8]; done) | (have e9 : (fa, va) = MnL pp 80 (va_up (va_up f 12 0) 11 (f 11 + 1), Mnx pp (va_up f 12 0) - 48) := (by rw [← hsp_56]; simp [MnL, c_1, c_3, c_4, c_8]); unfold MtN; dsimp only; rw [if_pos c_1, if_neg c_3, ← e9]))
            rw [hQ0]
            exact x_vret hx hb hret hlocks hW rfl dX7_takeNumber_161
          · skip
            refine lv_iload_n hx hb dX7_takeNumber_63 rfl (lv_at hl 1 rfl) ?_
            refine lv_if_le (tgt := 156) hx hb dX7_takeNumber_64 (by decide) (fun c_9 => ?_) (fun c_9 => ?_)
            · skip
              refine lv_aload_n hx hb dX7_takeNumber_156 rfl (lv_at hl 0 rfl) ?_
              refine lv_iload_n hx hb dX7_takeNumber_157 rfl (lv_at hl 1 rfl) ?_
              refine x_callV hx hb hml hown hts hK hW hl.1 (c_X7_enter l X G (v := va) (h14 := hv0_56.2.2.2.2.2.1) (h14b := (by have := hv0_56.2.2.2.2.2.2; have := hv0_56.2.2.2.1; have := hv0_56.2.1; omega)) (ho0 := rfl) (ho1 := rfl)) (xF_mo0).1 (xF_mo0).2.1 (by decide) rfl xw_862 xw_863 xw_864 xw_5 xw_865 hdV_yX7_enter ⟨Nat.le_of_ble_eq_true rfl, Nat.le_of_ble_eq_true rfl⟩ rfl (Nat.le_of_ble_eq_true rfl) ⟨Nat.le_refl _, Nat.le_refl _⟩ dX7_takeNumber_158 (fun H locs hW => ?_)
              have hW : XR X G 12 (xMa ((Men va (fa, pu)).1) sg L O Y pb pc pd pe pg ph pp pq pt ((Men va (fa, pu)).2)) H locs := hW
              obtain rfl : ((Men va (fa, pu)).1) = f' := by (rw [← ho0]) <;> (first | (simp [MtN, c_1, c_3, c_4, c_8, c_9]; done) | (have e9 : (fa, va) = MnL pp 80 (va_up (va_up f 12 0) 11 (f 11 + 1), Mnx pp (va_up f 12 0) - 48) := (by rw [← hsp_56]; simp [MnL, c_1, c_3, c_4, c_8, c_9]); unfold MtN; dsimp only; rw [if_pos c_1, if_neg c_3, ← e9]))
              obtain rfl : ((Men va (fa, pu)).2) = pu' := by (rw [← ho1]) <;> (first | (simp [MtN, c_1, c_3, c_4, c_8, c_9]; done) | (have e9 : (fa, va) = MnL pp 80 (va_up (va_up f 12 0) 11 (f 11 + 1), Mnx pp (va_up f 12 0) - 48) := (by rw [← hsp_56]; simp [MnL, c_1, c_3, c_4, c_8, c_9]); unfold MtN; dsimp only; rw [if_pos c_1, if_neg c_3, ← e9]))
              rw [hQ0]
              exact x_vret hx hb hret hlocks hW rfl dX7_takeNumber_161
            · skip
              refine lv_aload_n hx hb dX7_takeNumber_67 rfl (lv_at hl 0 rfl) ?_
              refine x_callV hx hb hml hown hts hK hW hl.1 (c_X7_next l X G  (hk := (show MkN fa from hv0_56.n)) (hres := rfl)) (xF_mo0).1 (xF_mo0).2.1 (by decide) rfl xw_850 xw_851 xw_852 xw_5 xw_853 hdV_yX7_next ⟨Nat.le_of_ble_eq_true rfl, Nat.le_of_ble_eq_true rfl⟩ rfl (Nat.le_of_ble_eq_true rfl) ⟨Nat.le_refl _, Nat.le_refl _⟩ dX7_takeNumber_68 (fun H locs hW => ?_)
              refine lv_bipush (v := 48) hx hb dX7_takeNumber_71 (by decide) ?_
              refine lv_bipush (v := 57) hx hb dX7_takeNumber_73 (by decide) ?_
              refine x_callS hx hb hml hown hts hK hW hl.1 (c_X7_in l X _ (v := Mnx pp fa) (lo := 48) (hi := 57) (hres := rfl)) xw_159 xw_160 xw_5 xw_161 hdS_yX7_in ⟨Nat.le_of_ble_eq_true rfl, Nat.le_of_ble_eq_true rfl⟩ rfl (Nat.le_of_ble_eq_true rfl) ⟨Nat.le_refl _, Nat.le_refl _⟩ dX7_takeNumber_75 (fun H locs hW => ?_)
              refine lv_if_eq (tgt := 156) hx hb dX7_takeNumber_78 (by decide) (fun c_10 => ?_) (fun c_10 => ?_)
              · skip
                refine lv_aload_n hx hb dX7_takeNumber_156 rfl (lv_at hl 0 rfl) ?_
                refine lv_iload_n hx hb dX7_takeNumber_157 rfl (lv_at hl 1 rfl) ?_
                refine x_callV hx hb hml hown hts hK hW hl.1 (c_X7_enter l X G (v := va) (h14 := hv0_56.2.2.2.2.2.1) (h14b := (by have := hv0_56.2.2.2.2.2.2; have := hv0_56.2.2.2.1; have := hv0_56.2.1; omega)) (ho0 := rfl) (ho1 := rfl)) (xF_mo0).1 (xF_mo0).2.1 (by decide) rfl xw_862 xw_863 xw_864 xw_5 xw_865 hdV_yX7_enter ⟨Nat.le_of_ble_eq_true rfl, Nat.le_of_ble_eq_true rfl⟩ rfl (Nat.le_of_ble_eq_true rfl) ⟨Nat.le_refl _, Nat.le_refl _⟩ dX7_takeNumber_158 (fun H locs hW => ?_)
                have hW : XR X G 12 (xMa ((Men va (fa, pu)).1) sg L O Y pb pc pd pe pg ph pp pq pt ((Men va (fa, pu)).2)) H locs := hW
                obtain rfl : ((Men va (fa, pu)).1) = f' := by (rw [← ho0]) <;> (first | (simp [MtN, c_1, c_3, c_4, c_8, c_9, c_10]; done) | (have e9 : (fa, va) = MnL pp 80 (va_up (va_up f 12 0) 11 (f 11 + 1), Mnx pp (va_up f 12 0) - 48) := (by rw [← hsp_56]; simp [MnL, c_1, c_3, c_4, c_8, c_9, c_10]); unfold MtN; dsimp only; rw [if_pos c_1, if_neg c_3, ← e9]))
                obtain rfl : ((Men va (fa, pu)).2) = pu' := by (rw [← ho1]) <;> (first | (simp [MtN, c_1, c_3, c_4, c_8, c_9, c_10]; done) | (have e9 : (fa, va) = MnL pp 80 (va_up (va_up f 12 0) 11 (f 11 + 1), Mnx pp (va_up f 12 0) - 48) := (by rw [← hsp_56]; simp [MnL, c_1, c_3, c_4, c_8, c_9, c_10]); unfold MtN; dsimp only; rw [if_pos c_1, if_neg c_3, ← e9]))
                rw [hQ0]
                exact x_vret hx hb hret hlocks hW rfl dX7_takeNumber_161
              · skip
                refine lv_aload_n hx hb dX7_takeNumber_81 rfl (lv_at hl 0 rfl) ?_
                refine lv_bipush (v := 10) hx hb dX7_takeNumber_82 (by decide) ?_
                refine lv_iload_n hx hb dX7_takeNumber_84 rfl (lv_at hl 1 rfl) ?_
                refine lv_imul hx hb dX7_takeNumber_85 ?_
                refine lv_aload_n hx hb dX7_takeNumber_86 rfl (lv_at hl 0 rfl) ?_
                refine x_callV hx hb hml hown hts hK hW hl.1 (c_X7_next l X G  (hk := (show MkN fa from hv0_56.n)) (hres := rfl)) (xF_mo0).1 (xF_mo0).2.1 (by decide) rfl xw_850 xw_851 xw_852 xw_5 xw_853 hdV_yX7_next ⟨Nat.le_of_ble_eq_true rfl, Nat.le_of_ble_eq_true rfl⟩ rfl (Nat.le_of_ble_eq_true rfl) ⟨Nat.le_refl _, Nat.le_refl _⟩ dX7_takeNumber_87 (fun H locs hW => ?_)
                refine lv_iadd hx hb dX7_takeNumber_90 ?_
                refine lv_bipush (v := 48) hx hb dX7_takeNumber_91 (by decide) ?_
                refine lv_isub hx hb dX7_takeNumber_93 ?_
                refine lv_sipush (v := 999) hx hb dX7_takeNumber_94 (by decide) ?_
                refine lv_icmp_le (tgt := 104) hx hb dX7_takeNumber_97 (by decide) (fun c_11 => ?_) (fun c_11 => ?_)
                · skip
                  refine lv_iconst (v := 0) hx hb dX7_takeNumber_104 (by decide) ?_
                  refine r_put hx hb hts hown hK hW (C := RX7) (T := TX7) (xF_mo0) inlX7 tyX7 tyX7_ok nmX7 rfl (by decide) 12 (by decide) (by decide +kernel) xw_843 rfl rfl rfl rfl xMa0 dX7_takeNumber_105 (fun H locs hW => ?_)
                  refine lv_aload_n hx hb dX7_takeNumber_108 rfl (lv_at hl 0 rfl) ?_
                  refine r_get hx hb hts hown hK hW (C := RX7) (T := TX7) (xF_mo0) inlX7 rfl (by decide) 12 (by decide) (by decide +kernel) xw_843 rfl (x := 0) rfl dX7_takeNumber_109 ?_
                  refine lv_if_eq (tgt := 119) hx hb dX7_takeNumber_112 (by decide) (fun c_12 => ?_) (fun c_12 => absurd rfl c_12)
                  refine lv_bipush (v := 10) hx hb dX7_takeNumber_119 (by decide) ?_
                  refine lv_iload_n hx hb dX7_takeNumber_121 rfl (lv_at hl 1 rfl) ?_
                  refine lv_imul hx hb dX7_takeNumber_122 ?_
                  refine lv_aload_n hx hb dX7_takeNumber_123 rfl (lv_at hl 0 rfl) ?_
                  refine x_callV hx hb hml hown hts hK hW hl.1 (c_X7_next l X G  (hk := (show MkN (va_up fa 12 0) from hv0_56.n)) (hres := rfl)) (xF_mo0).1 (xF_mo0).2.1 (by decide) rfl xw_850 xw_851 xw_852 xw_5 xw_853 hdV_yX7_next ⟨Nat.le_of_ble_eq_true rfl, Nat.le_of_ble_eq_true rfl⟩ rfl (Nat.le_of_ble_eq_true rfl) ⟨Nat.le_refl _, Nat.le_refl _⟩ dX7_takeNumber_124 (fun H locs hW => ?_)
                  refine lv_iadd hx hb dX7_takeNumber_127 ?_
                  refine lv_bipush (v := 48) hx hb dX7_takeNumber_128 (by decide) ?_
                  refine lv_isub hx hb dX7_takeNumber_130 ?_
                  refine lv_istore_n (lv' := [(1, .int (((10 * va) + (Mnx pp (va_up fa 12 0))) - 48)), (0, .ref (xB X + xkey 12 0 0))]) hx hb dX7_takeNumber_131 rfl hl (by decide) rfl (fun ls hl => ?_)
                  refine lv_aload_n hx hb dX7_takeNumber_132 rfl (lv_at hl 1 rfl) ?_
                  refine lv_dup hx hb dX7_takeNumber_133 rfl ?_
                  refine r_get hx hb hts hown hK hW (C := RX7) (T := TX7) (xF_mo0) inlX7 rfl (by decide) 11 (by decide) (by decide +kernel) xw_842 rfl (x := fa 11) rfl dX7_takeNumber_134 ?_
                  refine lv_aload_n hx hb dX7_takeNumber_137 rfl (lv_at hl 1 rfl) ?_
                  refine r_get hx hb hts hown hK hW (C := RX7) (T := TX7) (xF_mo0) inlX7 rfl (by decide) 12 (by decide) (by decide +kernel) xw_843 rfl (x := 0) rfl dX7_takeNumber_138 ?_
                  refine lv_if_eq (tgt := 148) hx hb dX7_takeNumber_141 (by decide) (fun c_13 => ?_) (fun c_13 => absurd rfl c_13)
                  refine lv_iconst (v := 1) hx hb dX7_takeNumber_148 (by decide) ?_
                  refine lv_iadd hx hb dX7_takeNumber_149 ?_
                  refine r_put hx hb hts hown hK hW (C := RX7) (T := TX7) (xF_mo0) inlX7 tyX7 tyX7_ok nmX7 rfl (by decide) 11 (by decide) (by decide +kernel) xw_842 rfl rfl rfl rfl xMa0 dX7_takeNumber_150 (fun H locs hW => ?_)
                  refine lv_goto (tgt := 56) hx hb dX7_takeNumber_153 (by decide) ?_
                  refine ih_56 (0) (va_up (va_up fa 12 0) 11 ((fa 11) + 1)) (((10 * va) + (Mnx pp (va_up fa 12 0))) - 48) (Or.inr (by have e := (Mk_a hv0_56 (hv0_56.n.lt (p := pp) (xdig0 c_10))).2; have := hik_56.resolve_left (fun z => z c_8); show (fa 10).toNatClampNeg ≤ _; omega)) ((Mk_a hv0_56 (hv0_56.n.lt (p := pp) (xdig0 c_10))).1.le (by omega)) ?_ H locs ls hW (lv_sub hl [1, 0] rfl)
                  rw [← hsp_56]; simp [MnL, c_1, c_3, c_4, c_8, c_9, Int32.not_le.mp c_9, c_10, c_11, Int32.not_lt.mpr c_11, c_12, c_13]
                · skip
                  refine lv_iconst (v := 1) hx hb dX7_takeNumber_100 (by decide) ?_
                  refine lv_goto (tgt := 105) hx hb dX7_takeNumber_101 (by decide) ?_
                  refine r_put hx hb hts hown hK hW (C := RX7) (T := TX7) (xF_mo0) inlX7 tyX7 tyX7_ok nmX7 rfl (by decide) 12 (by decide) (by decide +kernel) xw_843 rfl rfl rfl rfl xMa0 dX7_takeNumber_105 (fun H locs hW => ?_)
                  refine lv_aload_n hx hb dX7_takeNumber_108 rfl (lv_at hl 0 rfl) ?_
                  refine r_get hx hb hts hown hK hW (C := RX7) (T := TX7) (xF_mo0) inlX7 rfl (by decide) 12 (by decide) (by decide +kernel) xw_843 rfl (x := 1) rfl dX7_takeNumber_109 ?_
                  refine lv_if_eq (tgt := 119) hx hb dX7_takeNumber_112 (by decide) (fun c_14 => absurd c_14 (by decide)) (fun c_14 => ?_)
                  refine lv_iload_n hx hb dX7_takeNumber_115 rfl (lv_at hl 1 rfl) ?_
                  refine lv_goto (tgt := 131) hx hb dX7_takeNumber_116 (by decide) ?_
                  refine lv_istore_n (lv' := [(1, .int va), (0, .ref (xB X + xkey 12 0 0))]) hx hb dX7_takeNumber_131 rfl hl (by decide) rfl (fun ls hl => ?_)
                  refine lv_aload_n hx hb dX7_takeNumber_132 rfl (lv_at hl 1 rfl) ?_
                  refine lv_dup hx hb dX7_takeNumber_133 rfl ?_
                  refine r_get hx hb hts hown hK hW (C := RX7) (T := TX7) (xF_mo0) inlX7 rfl (by decide) 11 (by decide) (by decide +kernel) xw_842 rfl (x := fa 11) rfl dX7_takeNumber_134 ?_
                  refine lv_aload_n hx hb dX7_takeNumber_137 rfl (lv_at hl 1 rfl) ?_
                  refine r_get hx hb hts hown hK hW (C := RX7) (T := TX7) (xF_mo0) inlX7 rfl (by decide) 12 (by decide) (by decide +kernel) xw_843 rfl (x := 1) rfl dX7_takeNumber_138 ?_
                  refine lv_if_eq (tgt := 148) hx hb dX7_takeNumber_141 (by decide) (fun c_15 => absurd c_15 (by decide)) (fun c_15 => ?_)
                  refine lv_iconst (v := 0) hx hb dX7_takeNumber_144 (by decide) ?_
                  refine lv_goto (tgt := 149) hx hb dX7_takeNumber_145 (by decide) ?_
                  refine lv_iadd hx hb dX7_takeNumber_149 ?_
                  refine r_put hx hb hts hown hK hW (C := RX7) (T := TX7) (xF_mo0) inlX7 tyX7 tyX7_ok nmX7 rfl (by decide) 11 (by decide) (by decide +kernel) xw_842 rfl rfl rfl rfl xMa0 dX7_takeNumber_150 (fun H locs hW => ?_)
                  refine lv_goto (tgt := 56) hx hb dX7_takeNumber_153 (by decide) ?_
                  refine ih_56 (0) (va_up (va_up fa 12 1) 11 ((fa 11) + 0)) va (Or.inl (show ¬ (1 : Int32) = 0 by decide)) (Mk_w hv0_56) ?_ H locs ls hW (lv_sub hl [1, 0] rfl)
                  rw [← hsp_56]; simp [MnL, c_1, c_3, c_4, c_8, c_9, Int32.not_le.mp c_9, c_10, c_11, Int32.not_le.mp c_11, c_14, c_15]
      exact loop_56 80 0 (va_up (va_up f 12 0) 11 ((f 11) + 1)) ((Mnx pp (va_up f 12 0)) - 48) (Or.inr (by have e := (Mk_a h (h.n.lt (p := pp) (xdig0 c_3))).2; have := h.2.1; show (f 10).toNatClampNeg ≤ _; omega)) (Mk_a h (h.n.lt (p := pp) (xdig0 c_3))).1 rfl _ _ _ hW (lv_sub hl [1, 0] rfl)
    · skip
      refine lv_iconst (v := 1) hx hb dX7_takeNumber_22 (by decide) ?_
      refine lv_goto (tgt := 27) hx hb dX7_takeNumber_23 (by decide) ?_
      refine r_put hx hb hts hown hK hW (C := RX7) (T := TX7) (xF_mo0) inlX7 tyX7 tyX7_ok nmX7 rfl (by decide) 12 (by decide) (by decide +kernel) xw_843 rfl rfl rfl rfl xMa0 dX7_takeNumber_27 (fun H locs hW => ?_)
      refine lv_aload_n hx hb dX7_takeNumber_30 rfl (lv_at hl 0 rfl) ?_
      refine r_get hx hb hts hown hK hW (C := RX7) (T := TX7) (xF_mo0) inlX7 rfl (by decide) 12 (by decide) (by decide +kernel) xw_843 rfl (x := 1) rfl dX7_takeNumber_31 ?_
      refine lv_if_eq (tgt := 38) hx hb dX7_takeNumber_34 (by decide) (fun c_16 => absurd c_16 (by decide)) (fun c_16 => ?_)
      obtain rfl : (va_up f 12 1) = f' := by (rw [← ho0]) <;> (first | (simp [MtN, c_1, c_3, c_16]; done) | (have e9 : (fa, va) = MnL pp 80 (va_up (va_up f 12 0) 11 (f 11 + 1), Mnx pp (va_up f 12 0) - 48) := (by rw [← hsp_56]; simp [MnL, c_1, c_3, c_16]); unfold MtN; dsimp only; rw [if_pos c_1, if_neg c_3, ← e9]))
      obtain rfl : pu = pu' := by (rw [← ho1]) <;> (first | (simp [MtN, c_1, c_3, c_16]; done) | (have e9 : (fa, va) = MnL pp 80 (va_up (va_up f 12 0) 11 (f 11 + 1), Mnx pp (va_up f 12 0) - 48) := (by rw [← hsp_56]; simp [MnL, c_1, c_3, c_16]); unfold MtN; dsimp only; rw [if_pos c_1, if_neg c_3, ← e9]))
      rw [hQ0]
      exact x_vret hx hb hret hlocks hW rfl dX7_takeNumber_37
set_option maxHeartbeats 4000000 in
set_option maxRecDepth 100000 in
theorem c_X7_takeWalker (l : Launch) (X : xX) (G : xG) {f sg pb pc pd pe pg ph pp pq pt pu : Nat → Int32} {L O Y : Nat → Nat → Int32} {j : Nat} (h : Mk j f) {f' : Nat → Int32} (ho0 : ((MtW pp (f, pu)).1) = f') {pu' : Nat → Int32} (ho1 : ((MtW pp (f, pu)).2) = pu') : XC l yX7_takeWalker cX7_takeWalker 1 none 2 43 0 0 X xsh [.ref (xB X + xkey 12 0 0)] 603 603 (xval (xB X) (va_up G 12 (xMa f sg L O Y pb pc pd pe pg ph pp pq pt pu))) (xval (xB X) (va_up G 12 (xMa f' sg L O Y pb pc pd pe pg ph pp pq pt pu'))) none := by
  refine XC.of RX7 "takeWalker" [(0, .ref (xB X + xkey 12 0 0))] (by decide) rfl rfl (Nat.le_of_ble_eq_true rfl) rfl ?_
  intro p e s m args below meth c ls hx hb hret hml hts hown hlocks hnm hK hW hl
  have hW : XR X G 12 (xMa f sg L O Y pb pc pd pe pg ph pp pq pt pu) s.heap [] := hW
  obtain ⟨Q0, hQ0⟩ : ∃ z, z = MQ below (xQ X xsh 603 (xval (xB X) (va_up G 12 (xMa f' sg L O Y pb pc pd pe pg ph pp pq pt pu'))) none) args s 0 0 (fun q => xB X ≤ q) := ⟨_, rfl⟩
  rw [← hQ0]
  refine lv_aload_n hx hb dX7_takeWalker_0 rfl (lv_at hl 0 rfl) ?_
  refine x_callV hx hb hml hown hts hK hW hl.1 (c_X7_takeNumber l X G (j := j) (h := h) (ho0 := rfl) (ho1 := rfl)) (xF_mo0).1 (xF_mo0).2.1 (by decide) rfl xw_858 xw_859 xw_860 xw_5 xw_861 hdV_yX7_takeNumber ⟨Nat.le_of_ble_eq_true rfl, Nat.le_of_ble_eq_true rfl⟩ rfl (Nat.le_of_ble_eq_true rfl) ⟨Nat.le_refl _, Nat.le_refl _⟩ dX7_takeWalker_1 (fun H locs hW => ?_)
  have hW : XR X G 12 (xMa ((MtN pp (f, pu)).1) sg L O Y pb pc pd pe pg ph pp pq pt ((MtN pp (f, pu)).2)) H locs := hW
  refine lv_aload_n hx hb dX7_takeWalker_4 rfl (lv_at hl 0 rfl) ?_
  refine lv_bipush (v := 47) hx hb dX7_takeWalker_5 (by decide) ?_
  refine x_callV hx hb hml hown hts hK hW hl.1 (c_X7_takeSign l X G (c9 := 47) (hk := (Mk_N (q := (f, pu)) h).1.n) (ho0 := rfl)) (xF_mo0).1 (xF_mo0).2.1 (by decide) rfl xw_866 xw_867 xw_868 xw_5 xw_869 hdV_yX7_takeSign ⟨Nat.le_of_ble_eq_true rfl, Nat.le_of_ble_eq_true rfl⟩ rfl (Nat.le_of_ble_eq_true rfl) ⟨Nat.le_refl _, Nat.le_refl _⟩ dX7_takeWalker_7 (fun H locs hW => ?_)
  have hW : XR X G 12 (xMa (MtS pp 47 ((MtN pp (f, pu)).1)) sg L O Y pb pc pd pe pg ph pp pq pt ((MtN pp (f, pu)).2)) H locs := hW
  refine lv_aload_n hx hb dX7_takeWalker_10 rfl (lv_at hl 0 rfl) ?_
  refine x_callV hx hb hml hown hts hK hW hl.1 (c_X7_takeNumber l X G (j := j) (h := (Mk_S (Mk_N (q := (f, pu)) h).1 (by decide)).1) (ho0 := rfl) (ho1 := rfl)) (xF_mo0).1 (xF_mo0).2.1 (by decide) rfl xw_858 xw_859 xw_860 xw_5 xw_861 hdV_yX7_takeNumber ⟨Nat.le_of_ble_eq_true rfl, Nat.le_of_ble_eq_true rfl⟩ rfl (Nat.le_of_ble_eq_true rfl) ⟨Nat.le_refl _, Nat.le_refl _⟩ dX7_takeWalker_11 (fun H locs hW => ?_)
  have hW : XR X G 12 (xMa ((MtN pp ((MtS pp 47 ((MtN pp (f, pu)).1)), ((MtN pp (f, pu)).2))).1) sg L O Y pb pc pd pe pg ph pp pq pt ((MtN pp ((MtS pp 47 ((MtN pp (f, pu)).1)), ((MtN pp (f, pu)).2))).2)) H locs := hW
  have loop_14 : ∀ (k_14 i : Nat) (fa : Nat → Int32) (ua : Nat → Int32), (¬ fa 12 = 0 ∨ (fa 10).toNatClampNeg ≤ (fa 11).toNatClampNeg + k_14) → Mk j fa → MwL pp k_14 (fa, ua) = MwL pp 80 (((MtN pp ((MtS pp 47 ((MtN pp (f, pu)).1)), ((MtN pp (f, pu)).2))).1), ((MtN pp ((MtS pp 47 ((MtN pp (f, pu)).1)), ((MtN pp (f, pu)).2))).2)) → ∀ (H : Heap) (locs : List Loc) (ls : Array Slot), XR X G 12 (xMa fa sg L O Y pb pc pd pe pg ph pp pq pt ua) H locs → lv_has ls 1 [(0, .ref (xB X + xkey 12 0 0))] → W p l e { frames := 2, cells := 0, slots := 0, locals := 43 } s m args below meth c H locs 0 0 Q0 (F0 m 14 ls []) := by
    intro k_14
    induction k_14 with
    | zero =>
      intro i fa ua hik_14 hv0_14 hsp_14 H locs ls hW hl
      refine lv_aload_n hx hb dX7_takeWalker_14 rfl (lv_at hl 0 rfl) ?_
      refine r_get hx hb hts hown hK hW (C := RX7) (T := TX7) (xF_mo0) inlX7 rfl (by decide) 12 (by decide) (by decide +kernel) xw_843 rfl (x := fa 12) rfl dX7_takeWalker_15 ?_
      refine lv_if_ne (tgt := 85) hx hb dX7_takeWalker_18 (by decide) (fun c_1 => ?_) (fun c_1 => ?_)
      · skip
        obtain rfl : fa = f' := by (rw [← ho0]) <;> (have e9 : (fa, ua) = MtW pp (f, pu) := (by unfold MtW Mhd; rw [← hsp_14]; first | rfl | simp [MwL, c_1]); rw [← e9])
        obtain rfl : ua = pu' := by (rw [← ho1]) <;> (have e9 : (fa, ua) = MtW pp (f, pu) := (by unfold MtW Mhd; rw [← hsp_14]; first | rfl | simp [MwL, c_1]); rw [← e9])
        rw [hQ0]
        exact x_vret hx hb hret hlocks hW rfl dX7_takeWalker_85
      · skip
        refine lv_aload_n hx hb dX7_takeWalker_21 rfl (lv_at hl 0 rfl) ?_
        refine x_callV hx hb hml hown hts hK hW hl.1 (c_X7_next l X G  (hk := hv0_14.n) (hres := rfl)) (xF_mo0).1 (xF_mo0).2.1 (by decide) rfl xw_850 xw_851 xw_852 xw_5 xw_853 hdV_yX7_next ⟨Nat.le_of_ble_eq_true rfl, Nat.le_of_ble_eq_true rfl⟩ rfl (Nat.le_of_ble_eq_true rfl) ⟨Nat.le_refl _, Nat.le_refl _⟩ dX7_takeWalker_22 (fun H locs hW => ?_)
        refine lv_bipush (v := 62) hx hb dX7_takeWalker_25 (by decide) ?_
        refine lv_icmp_ne (tgt := 85) hx hb dX7_takeWalker_27 (by decide) (fun c_2 => ?_) (fun c_2 => absurd c_2 (xno62 (hik_14.resolve_left (fun z => z c_1)) hv0_14))
        obtain rfl : fa = f' := by (rw [← ho0]) <;> (have e9 : (fa, ua) = MtW pp (f, pu) := (by unfold MtW Mhd; rw [← hsp_14]; first | rfl | simp [MwL, c_1, c_2]); rw [← e9])
        obtain rfl : ua = pu' := by (rw [← ho1]) <;> (have e9 : (fa, ua) = MtW pp (f, pu) := (by unfold MtW Mhd; rw [← hsp_14]; first | rfl | simp [MwL, c_1, c_2]); rw [← e9])
        rw [hQ0]
        exact x_vret hx hb hret hlocks hW rfl dX7_takeWalker_85
    | succ k_14 ih_14 =>
      intro i fa ua hik_14 hv0_14 hsp_14 H locs ls hW hl
      refine lv_aload_n hx hb dX7_takeWalker_14 rfl (lv_at hl 0 rfl) ?_
      refine r_get hx hb hts hown hK hW (C := RX7) (T := TX7) (xF_mo0) inlX7 rfl (by decide) 12 (by decide) (by decide +kernel) xw_843 rfl (x := fa 12) rfl dX7_takeWalker_15 ?_
      refine lv_if_ne (tgt := 85) hx hb dX7_takeWalker_18 (by decide) (fun c_3 => ?_) (fun c_3 => ?_)
      · skip
        obtain rfl : fa = f' := by (rw [← ho0]) <;> (have e9 : (fa, ua) = MtW pp (f, pu) := (by unfold MtW Mhd; rw [← hsp_14]; first | rfl | simp [MwL, c_3]); rw [← e9])
        obtain rfl : ua = pu' := by (rw [← ho1]) <;> (have e9 : (fa, ua) = MtW pp (f, pu) := (by unfold MtW Mhd; rw [← hsp_14]; first | rfl | simp [MwL, c_3]); rw [← e9])
        rw [hQ0]
        exact x_vret hx hb hret hlocks hW rfl dX7_takeWalker_85
      · skip
        refine lv_aload_n hx hb dX7_takeWalker_21 rfl (lv_at hl 0 rfl) ?_
        refine x_callV hx hb hml hown hts hK hW hl.1 (c_X7_next l X G  (hk := hv0_14.n) (hres := rfl)) (xF_mo0).1 (xF_mo0).2.1 (by decide) rfl xw_850 xw_851 xw_852 xw_5 xw_853 hdV_yX7_next ⟨Nat.le_of_ble_eq_true rfl, Nat.le_of_ble_eq_true rfl⟩ rfl (Nat.le_of_ble_eq_true rfl) ⟨Nat.le_refl _, Nat.le_refl _⟩ dX7_takeWalker_22 (fun H locs hW => ?_)
        refine lv_bipush (v := 62) hx hb dX7_takeWalker_25 (by decide) ?_
        refine lv_icmp_ne (tgt := 85) hx hb dX7_takeWalker_27 (by decide) (fun c_4 => ?_) (fun c_4 => ?_)
        · skip
          obtain rfl : fa = f' := by (rw [← ho0]) <;> (have e9 : (fa, ua) = MtW pp (f, pu) := (by unfold MtW Mhd; rw [← hsp_14]; first | rfl | simp [MwL, c_3, c_4]); rw [← e9])
          obtain rfl : ua = pu' := by (rw [← ho1]) <;> (have e9 : (fa, ua) = MtW pp (f, pu) := (by unfold MtW Mhd; rw [← hsp_14]; first | rfl | simp [MwL, c_3, c_4]); rw [← e9])
          rw [hQ0]
          exact x_vret hx hb hret hlocks hW rfl dX7_takeWalker_85
        · skip
          refine lv_aload_n hx hb dX7_takeWalker_30 rfl (lv_at hl 0 rfl) ?_
          refine lv_dup hx hb dX7_takeWalker_31 rfl ?_
          refine r_get hx hb hts hown hK hW (C := RX7) (T := TX7) (xF_mo0) inlX7 rfl (by decide) 11 (by decide) (by decide +kernel) xw_842 rfl (x := fa 11) rfl dX7_takeWalker_32 ?_
          refine lv_iconst (v := 1) hx hb dX7_takeWalker_35 (by decide) ?_
          refine lv_iadd hx hb dX7_takeWalker_36 ?_
          refine r_put hx hb hts hown hK hW (C := RX7) (T := TX7) (xF_mo0) inlX7 tyX7 tyX7_ok nmX7 rfl (by decide) 11 (by decide) (by decide +kernel) xw_842 rfl rfl rfl rfl xMa0 dX7_takeWalker_37 (fun H locs hW => ?_)
          refine lv_aload_n hx hb dX7_takeWalker_40 rfl (lv_at hl 0 rfl) ?_
          refine x_callV hx hb hml hown hts hK hW hl.1 (c_X7_takeNumber l X G (j := (j + 1)) (h := (Mk_b hv0_14 (hv0_14.n.lt (p := pp) (by rw [c_4]; decide))).1) (ho0 := rfl) (ho1 := rfl)) (xF_mo0).1 (xF_mo0).2.1 (by decide) rfl xw_858 xw_859 xw_860 xw_5 xw_861 hdV_yX7_takeNumber ⟨Nat.le_of_ble_eq_true rfl, Nat.le_of_ble_eq_true rfl⟩ rfl (Nat.le_of_ble_eq_true rfl) ⟨Nat.le_refl _, Nat.le_refl _⟩ dX7_takeWalker_41 (fun H locs hW => ?_)
          have hW : XR X G 12 (xMa ((MtN pp ((va_up fa 11 ((fa 11) + 1)), ua)).1) sg L O Y pb pc pd pe pg ph pp pq pt ((MtN pp ((va_up fa 11 ((fa 11) + 1)), ua)).2)) H locs := hW
          have hm9 := Mk_N (p := pp) (q := (va_up fa 11 (fa 11 + 1), ua)) (Mk_b hv0_14 (hv0_14.n.lt (p := pp) (by rw [c_4]; decide))).1
          refine lv_aload_n hx hb dX7_takeWalker_44 rfl (lv_at hl 0 rfl) ?_
          refine r_get hx hb hts hown hK hW (C := RX7) (T := TX7) (xF_mo0) inlX7 rfl (by decide) 12 (by decide) (by decide +kernel) xw_843 rfl (x := ((MtN pp ((va_up fa 11 ((fa 11) + 1)), ua)).1) 12) rfl dX7_takeWalker_45 ?_
          refine lv_if_ne (tgt := 77) hx hb dX7_takeWalker_48 (by decide) (fun c_5 => ?_) (fun c_5 => ?_)
          · skip
            refine lv_aload_n hx hb dX7_takeWalker_77 rfl (lv_at hl 0 rfl) ?_
            refine lv_iconst (v := 0) hx hb dX7_takeWalker_78 (by decide) ?_
            refine x_callV hx hb hml hown hts hK hW hl.1 (c_X7_enter l X G (v := 0) (h14 := hm9.1.2.2.2.2.2.1) (h14b := (by have h1 := hm9.1.2.2.2.2.2.2; have h2 := hm9.1.2.2.2.1; have h3 := hm9.1.2.1; omega)) (ho0 := rfl) (ho1 := rfl)) (xF_mo0).1 (xF_mo0).2.1 (by decide) rfl xw_862 xw_863 xw_864 xw_5 xw_865 hdV_yX7_enter ⟨Nat.le_of_ble_eq_true rfl, Nat.le_of_ble_eq_true rfl⟩ rfl (Nat.le_of_ble_eq_true rfl) ⟨Nat.le_refl _, Nat.le_refl _⟩ dX7_takeWalker_79 (fun H locs hW => ?_)
            have hW : XR X G 12 (xMa ((Men 0 (((MtN pp ((va_up fa 11 ((fa 11) + 1)), ua)).1), ((MtN pp ((va_up fa 11 ((fa 11) + 1)), ua)).2))).1) sg L O Y pb pc pd pe pg ph pp pq pt ((Men 0 (((MtN pp ((va_up fa 11 ((fa 11) + 1)), ua)).1), ((MtN pp ((va_up fa 11 ((fa 11) + 1)), ua)).2))).2)) H locs := hW
            have hg9 : Mg1 pp (fa, ua) = (((Men 0 (((MtN pp ((va_up fa 11 ((fa 11) + 1)), ua)).1), ((MtN pp ((va_up fa 11 ((fa 11) + 1)), ua)).2))).1), ((Men 0 (((MtN pp ((va_up fa 11 ((fa 11) + 1)), ua)).1), ((MtN pp ((va_up fa 11 ((fa 11) + 1)), ua)).2))).2)) := by unfold Mg1; dsimp only; rw [if_neg c_5]; done
            refine lv_goto (tgt := 14) hx hb dX7_takeWalker_82 (by decide) ?_
            refine ih_14 (0) ((Men 0 (((MtN pp ((va_up fa 11 ((fa 11) + 1)), ua)).1), ((MtN pp ((va_up fa 11 ((fa 11) + 1)), ua)).2))).1) ((Men 0 (((MtN pp ((va_up fa 11 ((fa 11) + 1)), ua)).1), ((MtN pp ((va_up fa 11 ((fa 11) + 1)), ua)).2))).2) (Or.inr (by have e := (Mk_g (q := (fa, ua)) hv0_14 c_4).2.2.2; have e2 := (Mk_g (q := (fa, ua)) hv0_14 c_4).2.1; have e3 := hik_14.resolve_left (fun z => z c_3); rw [hg9] at e e2; rw [e2]; dsimp only at e ⊢; omega)) (by have e := (Mk_g (p := pp) (q := (fa, ua)) hv0_14 c_4).1; rw [hg9] at e; exact e) ?_ H locs ls hW (lv_sub hl [0] rfl)
            rw [← hsp_14]; simp only [MwL]; rw [if_pos c_3, if_pos c_4, hg9]
          · skip
            refine lv_aload_n hx hb dX7_takeWalker_51 rfl (lv_at hl 0 rfl) ?_
            refine x_callV hx hb hml hown hts hK hW hl.1 (c_X7_next l X G  (hk := hm9.1.n) (hres := rfl)) (xF_mo0).1 (xF_mo0).2.1 (by decide) rfl xw_850 xw_851 xw_852 xw_5 xw_853 hdV_yX7_next ⟨Nat.le_of_ble_eq_true rfl, Nat.le_of_ble_eq_true rfl⟩ rfl (Nat.le_of_ble_eq_true rfl) ⟨Nat.le_refl _, Nat.le_refl _⟩ dX7_takeWalker_52 (fun H locs hW => ?_)
            refine lv_bipush (v := 42) hx hb dX7_takeWalker_55 (by decide) ?_
            refine lv_icmp_ne (tgt := 77) hx hb dX7_takeWalker_57 (by decide) (fun c_6 => ?_) (fun c_6 => ?_)
            · skip
              refine lv_aload_n hx hb dX7_takeWalker_77 rfl (lv_at hl 0 rfl) ?_
              refine lv_iconst (v := 0) hx hb dX7_takeWalker_78 (by decide) ?_
              refine x_callV hx hb hml hown hts hK hW hl.1 (c_X7_enter l X G (v := 0) (h14 := hm9.1.2.2.2.2.2.1) (h14b := (by have h1 := hm9.1.2.2.2.2.2.2; have h2 := hm9.1.2.2.2.1; have h3 := hm9.1.2.1; omega)) (ho0 := rfl) (ho1 := rfl)) (xF_mo0).1 (xF_mo0).2.1 (by decide) rfl xw_862 xw_863 xw_864 xw_5 xw_865 hdV_yX7_enter ⟨Nat.le_of_ble_eq_true rfl, Nat.le_of_ble_eq_true rfl⟩ rfl (Nat.le_of_ble_eq_true rfl) ⟨Nat.le_refl _, Nat.le_refl _⟩ dX7_takeWalker_79 (fun H locs hW => ?_)
              have hW : XR X G 12 (xMa ((Men 0 (((MtN pp ((va_up fa 11 ((fa 11) + 1)), ua)).1), ((MtN pp ((va_up fa 11 ((fa 11) + 1)), ua)).2))).1) sg L O Y pb pc pd pe pg ph pp pq pt ((Men 0 (((MtN pp ((va_up fa 11 ((fa 11) + 1)), ua)).1), ((MtN pp ((va_up fa 11 ((fa 11) + 1)), ua)).2))).2)) H locs := hW
              have hg9 : Mg1 pp (fa, ua) = (((Men 0 (((MtN pp ((va_up fa 11 ((fa 11) + 1)), ua)).1), ((MtN pp ((va_up fa 11 ((fa 11) + 1)), ua)).2))).1), ((Men 0 (((MtN pp ((va_up fa 11 ((fa 11) + 1)), ua)).1), ((MtN pp ((va_up fa 11 ((fa 11) + 1)), ua)).2))).2)) := by unfold Mg1; dsimp only; rw [if_pos c_5, if_neg c_6]; done
              refine lv_goto (tgt := 14) hx hb dX7_takeWalker_82 (by decide) ?_
              refine ih_14 (0) ((Men 0 (((MtN pp ((va_up fa 11 ((fa 11) + 1)), ua)).1), ((MtN pp ((va_up fa 11 ((fa 11) + 1)), ua)).2))).1) ((Men 0 (((MtN pp ((va_up fa 11 ((fa 11) + 1)), ua)).1), ((MtN pp ((va_up fa 11 ((fa 11) + 1)), ua)).2))).2) (Or.inr (by have e := (Mk_g (q := (fa, ua)) hv0_14 c_4).2.2.2; have e2 := (Mk_g (q := (fa, ua)) hv0_14 c_4).2.1; have e3 := hik_14.resolve_left (fun z => z c_3); rw [hg9] at e e2; rw [e2]; dsimp only at e ⊢; omega)) (by have e := (Mk_g (p := pp) (q := (fa, ua)) hv0_14 c_4).1; rw [hg9] at e; exact e) ?_ H locs ls hW (lv_sub hl [0] rfl)
              rw [← hsp_14]; simp only [MwL]; rw [if_pos c_3, if_pos c_4, hg9]
            · skip
              refine lv_aload_n hx hb dX7_takeWalker_60 rfl (lv_at hl 0 rfl) ?_
              refine lv_dup hx hb dX7_takeWalker_61 rfl ?_
              refine r_get hx hb hts hown hK hW (C := RX7) (T := TX7) (xF_mo0) inlX7 rfl (by decide) 11 (by decide) (by decide +kernel) xw_842 rfl (x := ((MtN pp ((va_up fa 11 ((fa 11) + 1)), ua)).1) 11) rfl dX7_takeWalker_62 ?_
              refine lv_iconst (v := 1) hx hb dX7_takeWalker_65 (by decide) ?_
              refine lv_iadd hx hb dX7_takeWalker_66 ?_
              refine r_put hx hb hts hown hK hW (C := RX7) (T := TX7) (xF_mo0) inlX7 tyX7 tyX7_ok nmX7 rfl (by decide) 11 (by decide) (by decide +kernel) xw_842 rfl rfl rfl rfl xMa0 dX7_takeWalker_67 (fun H locs hW => ?_)
              refine lv_aload_n hx hb dX7_takeWalker_70 rfl (lv_at hl 0 rfl) ?_
              refine x_callV hx hb hml hown hts hK hW hl.1 (c_X7_takeNumber l X G (j := (j + 2)) (h := (Mk_b hm9.1 (hm9.1.n.lt (p := pp) (by rw [c_6]; decide))).1) (ho0 := rfl) (ho1 := rfl)) (xF_mo0).1 (xF_mo0).2.1 (by decide) rfl xw_858 xw_859 xw_860 xw_5 xw_861 hdV_yX7_takeNumber ⟨Nat.le_of_ble_eq_true rfl, Nat.le_of_ble_eq_true rfl⟩ rfl (Nat.le_of_ble_eq_true rfl) ⟨Nat.le_refl _, Nat.le_refl _⟩ dX7_takeWalker_71 (fun H locs hW => ?_)
              have hW : XR X G 12 (xMa ((MtN pp ((va_up ((MtN pp ((va_up fa 11 ((fa 11) + 1)), ua)).1) 11 ((((MtN pp ((va_up fa 11 ((fa 11) + 1)), ua)).1) 11) + 1)), ((MtN pp ((va_up fa 11 ((fa 11) + 1)), ua)).2))).1) sg L O Y pb pc pd pe pg ph pp pq pt ((MtN pp ((va_up ((MtN pp ((va_up fa 11 ((fa 11) + 1)), ua)).1) 11 ((((MtN pp ((va_up fa 11 ((fa 11) + 1)), ua)).1) 11) + 1)), ((MtN pp ((va_up fa 11 ((fa 11) + 1)), ua)).2))).2)) H locs := hW
              have hg9 : Mg1 pp (fa, ua) = (((MtN pp ((va_up ((MtN pp ((va_up fa 11 ((fa 11) + 1)), ua)).1) 11 ((((MtN pp ((va_up fa 11 ((fa 11) + 1)), ua)).1) 11) + 1)), ((MtN pp ((va_up fa 11 ((fa 11) + 1)), ua)).2))).1), ((MtN pp ((va_up ((MtN pp ((va_up fa 11 ((fa 11) + 1)), ua)).1) 11 ((((MtN pp ((va_up fa 11 ((fa 11) + 1)), ua)).1) 11) + 1)), ((MtN pp ((va_up fa 11 ((fa 11) + 1)), ua)).2))).2)) := by unfold Mg1; dsimp only; rw [if_pos c_5, if_pos c_6]; done
              refine lv_goto (tgt := 14) hx hb dX7_takeWalker_74 (by decide) ?_
              refine ih_14 (0) ((MtN pp ((va_up ((MtN pp ((va_up fa 11 ((fa 11) + 1)), ua)).1) 11 ((((MtN pp ((va_up fa 11 ((fa 11) + 1)), ua)).1) 11) + 1)), ((MtN pp ((va_up fa 11 ((fa 11) + 1)), ua)).2))).1) ((MtN pp ((va_up ((MtN pp ((va_up fa 11 ((fa 11) + 1)), ua)).1) 11 ((((MtN pp ((va_up fa 11 ((fa 11) + 1)), ua)).1) 11) + 1)), ((MtN pp ((va_up fa 11 ((fa 11) + 1)), ua)).2))).2) (Or.inr (by have e := (Mk_g (q := (fa, ua)) hv0_14 c_4).2.2.2; have e2 := (Mk_g (q := (fa, ua)) hv0_14 c_4).2.1; have e3 := hik_14.resolve_left (fun z => z c_3); rw [hg9] at e e2; rw [e2]; dsimp only at e ⊢; omega)) (by have e := (Mk_g (p := pp) (q := (fa, ua)) hv0_14 c_4).1; rw [hg9] at e; exact e) ?_ H locs ls hW (lv_sub hl [0] rfl)
              rw [← hsp_14]; simp only [MwL]; rw [if_pos c_3, if_pos c_4, hg9]
  exact loop_14 80 0 ((MtN pp ((MtS pp 47 ((MtN pp (f, pu)).1)), ((MtN pp (f, pu)).2))).1) ((MtN pp ((MtS pp 47 ((MtN pp (f, pu)).1)), ((MtN pp (f, pu)).2))).2) (Or.inr (by have e := (Mk_N (p := pp) (q := Mhd pp 47 (f, pu)) (Mk_S (Mk_N (q := (f, pu)) h).1 (by decide)).1).1.2.1; show _ ≤ _ + 80; exact Nat.le_trans e (Nat.le_add_left _ _))) (Mk_N (p := pp) (q := Mhd pp 47 (f, pu)) (Mk_S (Mk_N (q := (f, pu)) h).1 (by decide)).1).1 rfl _ _ _ hW (lv_sub hl [0] rfl)
set_option maxHeartbeats 4000000 in
set_option maxRecDepth 100000 in
theorem c_X7_takeMend (l : Launch) (X : xX) (G : xG) {f sg pb pc pd pe pg ph pp pq pt pu : Nat → Int32} {L O Y : Nat → Nat → Int32} {j : Nat} (h : Mk j f) {f' : Nat → Int32} (ho0 : ((MtM pp (f, pu)).1) = f') {pu' : Nat → Int32} (ho1 : ((MtM pp (f, pu)).2) = pu') : XC l yX7_takeMend cX7_takeMend 1 none 2 43 0 0 X xsh [.ref (xB X + xkey 12 0 0)] 603 603 (xval (xB X) (va_up G 12 (xMa f sg L O Y pb pc pd pe pg ph pp pq pt pu))) (xval (xB X) (va_up G 12 (xMa f' sg L O Y pb pc pd pe pg ph pp pq pt pu'))) none := by
  refine XC.of RX7 "takeMend" [(0, .ref (xB X + xkey 12 0 0))] (by decide) rfl rfl (Nat.le_of_ble_eq_true rfl) rfl ?_
  intro p e s m args below meth c ls hx hb hret hml hts hown hlocks hnm hK hW hl
  have hW : XR X G 12 (xMa f sg L O Y pb pc pd pe pg ph pp pq pt pu) s.heap [] := hW
  obtain ⟨Q0, hQ0⟩ : ∃ z, z = MQ below (xQ X xsh 603 (xval (xB X) (va_up G 12 (xMa f' sg L O Y pb pc pd pe pg ph pp pq pt pu'))) none) args s 0 0 (fun q => xB X ≤ q) := ⟨_, rfl⟩
  rw [← hQ0]
  refine lv_aload_n hx hb dX7_takeMend_0 rfl (lv_at hl 0 rfl) ?_
  refine x_callV hx hb hml hown hts hK hW hl.1 (c_X7_takeNumber l X G (j := j) (h := h) (ho0 := rfl) (ho1 := rfl)) (xF_mo0).1 (xF_mo0).2.1 (by decide) rfl xw_858 xw_859 xw_860 xw_5 xw_861 hdV_yX7_takeNumber ⟨Nat.le_of_ble_eq_true rfl, Nat.le_of_ble_eq_true rfl⟩ rfl (Nat.le_of_ble_eq_true rfl) ⟨Nat.le_refl _, Nat.le_refl _⟩ dX7_takeMend_1 (fun H locs hW => ?_)
  have hW : XR X G 12 (xMa ((MtN pp (f, pu)).1) sg L O Y pb pc pd pe pg ph pp pq pt ((MtN pp (f, pu)).2)) H locs := hW
  refine lv_aload_n hx hb dX7_takeMend_4 rfl (lv_at hl 0 rfl) ?_
  refine lv_bipush (v := 61) hx hb dX7_takeMend_5 (by decide) ?_
  refine x_callV hx hb hml hown hts hK hW hl.1 (c_X7_takeSign l X G (c9 := 61) (hk := (Mk_N (q := (f, pu)) h).1.n) (ho0 := rfl)) (xF_mo0).1 (xF_mo0).2.1 (by decide) rfl xw_866 xw_867 xw_868 xw_5 xw_869 hdV_yX7_takeSign ⟨Nat.le_of_ble_eq_true rfl, Nat.le_of_ble_eq_true rfl⟩ rfl (Nat.le_of_ble_eq_true rfl) ⟨Nat.le_refl _, Nat.le_refl _⟩ dX7_takeMend_7 (fun H locs hW => ?_)
  have hW : XR X G 12 (xMa (MtS pp 61 ((MtN pp (f, pu)).1)) sg L O Y pb pc pd pe pg ph pp pq pt ((MtN pp (f, pu)).2)) H locs := hW
  have hs9 := Mk_S (p := pp) (c := 61) (Mk_N (p := pp) (q := (f, pu)) h).1 (by decide)
  refine lv_aload_n hx hb dX7_takeMend_10 rfl (lv_at hl 0 rfl) ?_
  refine lv_aload_n hx hb dX7_takeMend_11 rfl (lv_at hl 0 rfl) ?_
  refine r_get hx hb hts hown hK hW (C := RX7) (T := TX7) (xF_mo0) inlX7 rfl (by decide) 12 (by decide) (by decide +kernel) xw_843 rfl (x := (MtS pp 61 ((MtN pp (f, pu)).1)) 12) rfl dX7_takeMend_12 ?_
  refine lv_if_ne (tgt := 32) hx hb dX7_takeMend_15 (by decide) (fun c_1 => ?_) (fun c_1 => ?_)
  · skip
    refine lv_iconst (v := 1) hx hb dX7_takeMend_32 (by decide) ?_
    refine lv_goto (tgt := 37) hx hb dX7_takeMend_33 (by decide) ?_
    refine r_put hx hb hts hown hK hW (C := RX7) (T := TX7) (xF_mo0) inlX7 tyX7 tyX7_ok nmX7 rfl (by decide) 12 (by decide) (by decide +kernel) xw_843 rfl rfl rfl rfl xMa0 dX7_takeMend_37 (fun H locs hW => ?_)
    refine lv_aload_n hx hb dX7_takeMend_40 rfl (lv_at hl 0 rfl) ?_
    refine r_get hx hb hts hown hK hW (C := RX7) (T := TX7) (xF_mo0) inlX7 rfl (by decide) 12 (by decide) (by decide +kernel) xw_843 rfl (x := 1) rfl dX7_takeMend_41 ?_
    refine lv_if_ne (tgt := 68) hx hb dX7_takeMend_44 (by decide) (fun c_2 => ?_) (fun c_2 => absurd c_2 (by decide))
    obtain rfl : (va_up (MtS pp 61 ((MtN pp (f, pu)).1)) 12 1) = f' := by (rw [← ho0]) <;> (first | (unfold MtM; rw [if_pos c_1, if_neg c_2]; done) | (unfold MtM Mhd; simp [c_1, c_2]))
    obtain rfl : ((MtN pp (f, pu)).2) = pu' := by (rw [← ho1]) <;> (first | (unfold MtM; rw [if_pos c_1, if_neg c_2]; done) | (unfold MtM Mhd; simp [c_1, c_2]))
    rw [hQ0]
    exact x_vret hx hb hret hlocks hW rfl dX7_takeMend_68
  · skip
    refine lv_aload_n hx hb dX7_takeMend_18 rfl (lv_at hl 0 rfl) ?_
    refine x_callV hx hb hml hown hts hK hW hl.1 (c_X7_next l X G  (hk := hs9.1.n) (hres := rfl)) (xF_mo0).1 (xF_mo0).2.1 (by decide) rfl xw_850 xw_851 xw_852 xw_5 xw_853 hdV_yX7_next ⟨Nat.le_of_ble_eq_true rfl, Nat.le_of_ble_eq_true rfl⟩ rfl (Nat.le_of_ble_eq_true rfl) ⟨Nat.le_refl _, Nat.le_refl _⟩ dX7_takeMend_19 (fun H locs hW => ?_)
    refine lv_bipush (v := 48) hx hb dX7_takeMend_22 (by decide) ?_
    refine lv_bipush (v := 50) hx hb dX7_takeMend_24 (by decide) ?_
    refine x_callS hx hb hml hown hts hK hW hl.1 (c_X7_in l X _ (v := Mnx pp (MtS pp 61 ((MtN pp (f, pu)).1))) (lo := 48) (hi := 50) (hres := rfl)) xw_159 xw_160 xw_5 xw_161 hdS_yX7_in ⟨Nat.le_of_ble_eq_true rfl, Nat.le_of_ble_eq_true rfl⟩ rfl (Nat.le_of_ble_eq_true rfl) ⟨Nat.le_refl _, Nat.le_refl _⟩ dX7_takeMend_26 (fun H locs hW => ?_)
    refine lv_if_ne (tgt := 36) hx hb dX7_takeMend_29 (by decide) (fun c_3 => ?_) (fun c_3 => ?_)
    · skip
      refine lv_iconst (v := 0) hx hb dX7_takeMend_36 (by decide) ?_
      refine r_put hx hb hts hown hK hW (C := RX7) (T := TX7) (xF_mo0) inlX7 tyX7 tyX7_ok nmX7 rfl (by decide) 12 (by decide) (by decide +kernel) xw_843 rfl rfl rfl rfl xMa0 dX7_takeMend_37 (fun H locs hW => ?_)
      refine lv_aload_n hx hb dX7_takeMend_40 rfl (lv_at hl 0 rfl) ?_
      refine r_get hx hb hts hown hK hW (C := RX7) (T := TX7) (xF_mo0) inlX7 rfl (by decide) 12 (by decide) (by decide +kernel) xw_843 rfl (x := 0) rfl dX7_takeMend_41 ?_
      refine lv_if_ne (tgt := 68) hx hb dX7_takeMend_44 (by decide) (fun c_4 => absurd rfl c_4) (fun c_4 => ?_)
      refine lv_aload_n hx hb dX7_takeMend_47 rfl (lv_at hl 0 rfl) ?_
      refine lv_aload_n hx hb dX7_takeMend_48 rfl (lv_at hl 0 rfl) ?_
      refine x_callV hx hb hml hown hts hK hW hl.1 (c_X7_next l X G  (hk := (show MkN (va_up (MtS pp 61 ((MtN pp (f, pu)).1)) 12 0) from hs9.1.n)) (hres := rfl)) (xF_mo0).1 (xF_mo0).2.1 (by decide) rfl xw_850 xw_851 xw_852 xw_5 xw_853 hdV_yX7_next ⟨Nat.le_of_ble_eq_true rfl, Nat.le_of_ble_eq_true rfl⟩ rfl (Nat.le_of_ble_eq_true rfl) ⟨Nat.le_refl _, Nat.le_refl _⟩ dX7_takeMend_49 (fun H locs hW => ?_)
      refine lv_bipush (v := 48) hx hb dX7_takeMend_52 (by decide) ?_
      refine lv_isub hx hb dX7_takeMend_54 ?_
      refine x_callV hx hb hml hown hts hK hW hl.1 (c_X7_enter l X G (v := (Mnx pp (va_up (MtS pp 61 ((MtN pp (f, pu)).1)) 12 0)) - 48) (h14 := (show (va_up (MtS pp 61 ((MtN pp (f, pu)).1)) 12 0) 14 = nI ((va_up (MtS pp 61 ((MtN pp (f, pu)).1)) 12 0) 14).toNatClampNeg from hs9.1.2.2.2.2.2.1)) (h14b := (by have h1 := hs9.1.2.2.2.2.2.2; have h2 := hs9.1.2.2.2.1; have h3 := hs9.1.2.1; show ((MtS pp 61 (MtN pp (f, pu)).1) 14).toNatClampNeg < 92; omega)) (ho0 := rfl) (ho1 := rfl)) (xF_mo0).1 (xF_mo0).2.1 (by decide) rfl xw_862 xw_863 xw_864 xw_5 xw_865 hdV_yX7_enter ⟨Nat.le_of_ble_eq_true rfl, Nat.le_of_ble_eq_true rfl⟩ rfl (Nat.le_of_ble_eq_true rfl) ⟨Nat.le_refl _, Nat.le_refl _⟩ dX7_takeMend_55 (fun H locs hW => ?_)
      have hW : XR X G 12 (xMa ((Men ((Mnx pp (va_up (MtS pp 61 ((MtN pp (f, pu)).1)) 12 0)) - 48) ((va_up (MtS pp 61 ((MtN pp (f, pu)).1)) 12 0), ((MtN pp (f, pu)).2))).1) sg L O Y pb pc pd pe pg ph pp pq pt ((Men ((Mnx pp (va_up (MtS pp 61 ((MtN pp (f, pu)).1)) 12 0)) - 48) ((va_up (MtS pp 61 ((MtN pp (f, pu)).1)) 12 0), ((MtN pp (f, pu)).2))).2)) H locs := hW
      refine lv_aload_n hx hb dX7_takeMend_58 rfl (lv_at hl 0 rfl) ?_
      refine lv_dup hx hb dX7_takeMend_59 rfl ?_
      refine r_get hx hb hts hown hK hW (C := RX7) (T := TX7) (xF_mo0) inlX7 rfl (by decide) 11 (by decide) (by decide +kernel) xw_842 rfl (x := ((Men ((Mnx pp (va_up (MtS pp 61 ((MtN pp (f, pu)).1)) 12 0)) - 48) ((va_up (MtS pp 61 ((MtN pp (f, pu)).1)) 12 0), ((MtN pp (f, pu)).2))).1) 11) rfl dX7_takeMend_60 ?_
      refine lv_iconst (v := 1) hx hb dX7_takeMend_63 (by decide) ?_
      refine lv_iadd hx hb dX7_takeMend_64 ?_
      refine r_put hx hb hts hown hK hW (C := RX7) (T := TX7) (xF_mo0) inlX7 tyX7 tyX7_ok nmX7 rfl (by decide) 11 (by decide) (by decide +kernel) xw_842 rfl rfl rfl rfl xMa0 dX7_takeMend_65 (fun H locs hW => ?_)
      obtain rfl : (va_up ((Men ((Mnx pp (va_up (MtS pp 61 ((MtN pp (f, pu)).1)) 12 0)) - 48) ((va_up (MtS pp 61 ((MtN pp (f, pu)).1)) 12 0), ((MtN pp (f, pu)).2))).1) 11 ((((Men ((Mnx pp (va_up (MtS pp 61 ((MtN pp (f, pu)).1)) 12 0)) - 48) ((va_up (MtS pp 61 ((MtN pp (f, pu)).1)) 12 0), ((MtN pp (f, pu)).2))).1) 11) + 1)) = f' := by (rw [← ho0]) <;> (first | (unfold MtM; rw [if_pos c_1, if_neg c_2]; done) | (unfold MtM Mhd; simp [c_1, c_3, c_4]))
      obtain rfl : ((Men ((Mnx pp (va_up (MtS pp 61 ((MtN pp (f, pu)).1)) 12 0)) - 48) ((va_up (MtS pp 61 ((MtN pp (f, pu)).1)) 12 0), ((MtN pp (f, pu)).2))).2) = pu' := by (rw [← ho1]) <;> (first | (unfold MtM; rw [if_pos c_1, if_neg c_2]; done) | (unfold MtM Mhd; simp [c_1, c_3, c_4]))
      rw [hQ0]
      exact x_vret hx hb hret hlocks hW rfl dX7_takeMend_68
    · skip
      refine lv_iconst (v := 1) hx hb dX7_takeMend_32 (by decide) ?_
      refine lv_goto (tgt := 37) hx hb dX7_takeMend_33 (by decide) ?_
      refine r_put hx hb hts hown hK hW (C := RX7) (T := TX7) (xF_mo0) inlX7 tyX7 tyX7_ok nmX7 rfl (by decide) 12 (by decide) (by decide +kernel) xw_843 rfl rfl rfl rfl xMa0 dX7_takeMend_37 (fun H locs hW => ?_)
      refine lv_aload_n hx hb dX7_takeMend_40 rfl (lv_at hl 0 rfl) ?_
      refine r_get hx hb hts hown hK hW (C := RX7) (T := TX7) (xF_mo0) inlX7 rfl (by decide) 12 (by decide) (by decide +kernel) xw_843 rfl (x := 1) rfl dX7_takeMend_41 ?_
      refine lv_if_ne (tgt := 68) hx hb dX7_takeMend_44 (by decide) (fun c_5 => ?_) (fun c_5 => absurd c_5 (by decide))
      obtain rfl : (va_up (MtS pp 61 ((MtN pp (f, pu)).1)) 12 1) = f' := by (rw [← ho0]) <;> (first | (unfold MtM; rw [if_pos c_1, if_neg c_2]; done) | (unfold MtM Mhd; simp [c_1, c_3, c_5]))
      obtain rfl : ((MtN pp (f, pu)).2) = pu' := by (rw [← ho1]) <;> (first | (unfold MtM; rw [if_pos c_1, if_neg c_2]; done) | (unfold MtM Mhd; simp [c_1, c_3, c_5]))
      rw [hQ0]
      exact x_vret hx hb hret hlocks hW rfl dX7_takeMend_68
set_option maxHeartbeats 4000000 in
set_option maxRecDepth 100000 in
theorem c_X7_takeOrder (l : Launch) (X : xX) (G : xG) {f sg pb pc pd pe pg ph pp pq pt pu : Nat → Int32} {L O Y : Nat → Nat → Int32}  (h : Mk 0 f) (h0 : f 12 = 0) (h13 : f 13 = nI (f 13).toNatClampNeg) (h13b : (f 13).toNatClampNeg ≤ 27) {f' : Nat → Int32} (ho0 : ((Mord pp (f, pq, pt, pu)).1) = f') {pq' : Nat → Int32} (ho1 : ((Mord pp (f, pq, pt, pu)).2.1) = pq') {pt' : Nat → Int32} (ho2 : ((Mord pp (f, pq, pt, pu)).2.2.1) = pt') {pu' : Nat → Int32} (ho3 : ((Mord pp (f, pq, pt, pu)).2.2.2) = pu') : XC l yX7_takeOrder cX7_takeOrder 2 none 3 63 0 0 X xsh [.ref (xB X + xkey 12 0 0)] 603 603 (xval (xB X) (va_up G 12 (xMa f sg L O Y pb pc pd pe pg ph pp pq pt pu))) (xval (xB X) (va_up G 12 (xMa f' sg L O Y pb pc pd pe pg ph pp pq' pt' pu'))) none := by
  refine XC.of RX7 "takeOrder" [(0, .ref (xB X + xkey 12 0 0))] (by decide) rfl rfl (Nat.le_of_ble_eq_true rfl) rfl ?_
  intro p e s m args below meth c ls hx hb hret hml hts hown hlocks hnm hK hW hl
  have hW : XR X G 12 (xMa f sg L O Y pb pc pd pe pg ph pp pq pt pu) s.heap [] := hW
  obtain ⟨Q0, hQ0⟩ : ∃ z, z = MQ below (xQ X xsh 603 (xval (xB X) (va_up G 12 (xMa f' sg L O Y pb pc pd pe pg ph pp pq' pt' pu'))) none) args s 0 0 (fun q => xB X ≤ q) := ⟨_, rfl⟩
  rw [← hQ0]
  refine lv_aload_n hx hb dX7_takeOrder_0 rfl (lv_at hl 0 rfl) ?_
  refine x_callV hx hb hml hown hts hK hW hl.1 (c_X7_next l X G  (hk := h.n) (hres := rfl)) (xF_mo0).1 (xF_mo0).2.1 (by decide) rfl xw_850 xw_851 xw_852 xw_5 xw_853 hdV_yX7_next ⟨Nat.le_of_ble_eq_true rfl, Nat.le_of_ble_eq_true rfl⟩ rfl (Nat.le_of_ble_eq_true rfl) ⟨Nat.le_refl _, Nat.le_refl _⟩ dX7_takeOrder_1 (fun H locs hW => ?_)
  refine lv_istore_n (lv' := [(1, .int (Mnx pp f)), (0, .ref (xB X + xkey 12 0 0))]) hx hb dX7_takeOrder_4 rfl hl (by decide) rfl (fun ls hl => ?_)
  refine lv_aload_n hx hb dX7_takeOrder_5 rfl (lv_at hl 1 rfl) ?_
  refine lv_dup hx hb dX7_takeOrder_6 rfl ?_
  refine r_get hx hb hts hown hK hW (C := RX7) (T := TX7) (xF_mo0) inlX7 rfl (by decide) 11 (by decide) (by decide +kernel) xw_842 rfl (x := f 11) rfl dX7_takeOrder_7 ?_
  refine lv_iconst (v := 1) hx hb dX7_takeOrder_10 (by decide) ?_
  refine lv_iadd hx hb dX7_takeOrder_11 ?_
  refine r_put hx hb hts hown hK hW (C := RX7) (T := TX7) (xF_mo0) inlX7 tyX7 tyX7_ok nmX7 rfl (by decide) 11 (by decide) (by decide +kernel) xw_842 rfl rfl rfl rfl xMa0 dX7_takeOrder_12 (fun H locs hW => ?_)
  refine lv_aload_n hx hb dX7_takeOrder_15 rfl (lv_at hl 1 rfl) ?_
  refine r_getr (C := RX7) (T := TX7) hx hb hts hown hK hW (xF_mo0).1 (xF_mo0).2.1 inlX7 rfl (by decide) 16 (by decide) (show xro (xkey 12 0 0) 16 = some (xkey 12 10 0) from by decide +kernel) xw_88 rfl dX7_takeOrder_16 ?_
  refine lv_aload_n hx hb dX7_takeOrder_19 rfl (lv_at hl 1 rfl) ?_
  refine r_get hx hb hts hown hK hW (C := RX7) (T := TX7) (xF_mo0) inlX7 rfl (by decide) 13 (by decide) (by decide +kernel) xw_844 rfl (x := f 13) rfl dX7_takeOrder_20 ?_
  refine lv_aload_n hx hb dX7_takeOrder_23 rfl (lv_at hl 1 rfl) ?_
  refine r_get hx hb hts hown hK hW (C := RX7) (T := TX7) (xF_mo0) inlX7 rfl (by decide) 14 (by decide) (by decide +kernel) xw_845 rfl (x := f 14) rfl dX7_takeOrder_24 ?_
  refine r_iast hx hb hK hW (N := 30) (xF_mo10) ((f 13).toNatClampNeg) (by omega) (by decide) h13 (xr_model 10 (by decide) (by decide) ((f 13).toNatClampNeg)) xMa13 dX7_takeOrder_27 (fun H locs hW => ?_)
  refine lv_iload_n hx hb dX7_takeOrder_28 rfl (lv_at hl 0 rfl) ?_
  by_cases c_1 : Mnx pp f = 99
  · skip
    refine lv_lookup (off := 57) (tgt := 86) hx hb dX7_takeOrder_29 (by decide) (by rw [c_1]; decide) (by decide) ?_
    have hb9 := (Mk_b h (h.n.lt (p := pp) (by rw [c_1]; decide))).1
    refine lv_aload_n hx hb dX7_takeOrder_86 rfl (lv_at hl 1 rfl) ?_
    refine x_callV hx hb hml hown hts hK hW hl.1 (c_X7_takeNumber l X G (j := 1) (h := hb9) (ho0 := rfl) (ho1 := rfl)) (xF_mo0).1 (xF_mo0).2.1 (by decide) rfl xw_858 xw_859 xw_860 xw_5 xw_861 hdV_yX7_takeNumber ⟨Nat.le_of_ble_eq_true rfl, Nat.le_of_ble_eq_true rfl⟩ rfl (Nat.le_of_ble_eq_true rfl) ⟨Nat.le_refl _, Nat.le_refl _⟩ dX7_takeOrder_87 (fun H locs hW => ?_)
    have hW : XR X G 12 (xMa ((MtN pp ((va_up f 11 ((f 11) + 1)), pu)).1) sg L O Y pb pc pd pe pg ph pp pq (va_up pt ((f 13).toNatClampNeg) (f 14)) ((MtN pp ((va_up f 11 ((f 11) + 1)), pu)).2)) H locs := hW
    refine lv_goto (tgt := 108) hx hb dX7_takeOrder_90 (by decide) ?_
    have e13 : ((MtN pp ((va_up f 11 ((f 11) + 1)), pu)).1) 13 = f 13 := (Mk_N (p := pp) (q := (va_up f 11 (f 11 + 1), pu)) hb9).2.2.1
    refine lv_aload_n hx hb dX7_takeOrder_108 rfl (lv_at hl 1 rfl) ?_
    refine r_get hx hb hts hown hK hW (C := RX7) (T := TX7) (xF_mo0) inlX7 rfl (by decide) 12 (by decide) (by decide +kernel) xw_843 rfl (x := ((MtN pp ((va_up f 11 ((f 11) + 1)), pu)).1) 12) rfl dX7_takeOrder_109 ?_
    refine lv_if_ne (tgt := 148) hx hb dX7_takeOrder_112 (by decide) (fun c_2 => ?_) (fun c_2 => ?_)
    · skip
      obtain rfl : ((MtN pp ((va_up f 11 ((f 11) + 1)), pu)).1) = f' := by (rw [← ho0]) <;> (unfold Mord; rw [show Mbody pp (Mnx pp f) (va_up f 11 (f 11 + 1), pu) = MtN pp (va_up f 11 (f 11 + 1), pu) by unfold Mbody; first | (rw [if_pos c_1]; done) | (rw [if_pos c_1]; rfl)]; unfold Mtail; simp [c_2])
      obtain rfl : pq = pq' := by (rw [← ho1]) <;> (unfold Mord; rw [show Mbody pp (Mnx pp f) (va_up f 11 (f 11 + 1), pu) = MtN pp (va_up f 11 (f 11 + 1), pu) by unfold Mbody; first | (rw [if_pos c_1]; done) | (rw [if_pos c_1]; rfl)]; unfold Mtail; simp [c_2])
      obtain rfl : (va_up pt ((f 13).toNatClampNeg) (f 14)) = pt' := by (rw [← ho2]) <;> (unfold Mord; rw [show Mbody pp (Mnx pp f) (va_up f 11 (f 11 + 1), pu) = MtN pp (va_up f 11 (f 11 + 1), pu) by unfold Mbody; first | (rw [if_pos c_1]; done) | (rw [if_pos c_1]; rfl)]; unfold Mtail; simp [c_2])
      obtain rfl : ((MtN pp ((va_up f 11 ((f 11) + 1)), pu)).2) = pu' := by (rw [← ho3]) <;> (unfold Mord; rw [show Mbody pp (Mnx pp f) (va_up f 11 (f 11 + 1), pu) = MtN pp (va_up f 11 (f 11 + 1), pu) by unfold Mbody; first | (rw [if_pos c_1]; done) | (rw [if_pos c_1]; rfl)]; unfold Mtail; simp [c_2])
      rw [hQ0]
      exact x_vret hx hb hret hlocks hW rfl dX7_takeOrder_148
    · skip
      refine lv_aload_n hx hb dX7_takeOrder_115 rfl (lv_at hl 1 rfl) ?_
      refine r_getr (C := RX7) (T := TX7) hx hb hts hown hK hW (xF_mo0).1 (xF_mo0).2.1 inlX7 rfl (by decide) 15 (by decide) (show xro (xkey 12 0 0) 15 = some (xkey 12 9 0) from by decide +kernel) xw_87 rfl dX7_takeOrder_116 ?_
      refine lv_aload_n hx hb dX7_takeOrder_119 rfl (lv_at hl 1 rfl) ?_
      refine r_get hx hb hts hown hK hW (C := RX7) (T := TX7) (xF_mo0) inlX7 rfl (by decide) 13 (by decide) (by decide +kernel) xw_844 rfl (x := ((MtN pp ((va_up f 11 ((f 11) + 1)), pu)).1) 13) rfl dX7_takeOrder_120 ?_
      refine lv_iload_n hx hb dX7_takeOrder_123 rfl (lv_at hl 0 rfl) ?_
      refine r_iast hx hb hK hW (N := 29) (xF_mo9) ((f 13).toNatClampNeg) (by omega) (by decide) (e13.trans h13) (xr_model 9 (by decide) (by decide) ((f 13).toNatClampNeg)) xMa12 dX7_takeOrder_124 (fun H locs hW => ?_)
      refine lv_aload_n hx hb dX7_takeOrder_125 rfl (lv_at hl 1 rfl) ?_
      refine lv_dup hx hb dX7_takeOrder_126 rfl ?_
      refine r_get hx hb hts hown hK hW (C := RX7) (T := TX7) (xF_mo0) inlX7 rfl (by decide) 13 (by decide) (by decide +kernel) xw_844 rfl (x := ((MtN pp ((va_up f 11 ((f 11) + 1)), pu)).1) 13) rfl dX7_takeOrder_127 ?_
      refine lv_iconst (v := 1) hx hb dX7_takeOrder_130 (by decide) ?_
      refine lv_iadd hx hb dX7_takeOrder_131 ?_
      refine r_put hx hb hts hown hK hW (C := RX7) (T := TX7) (xF_mo0) inlX7 tyX7 tyX7_ok nmX7 rfl (by decide) 13 (by decide) (by decide +kernel) xw_844 rfl rfl rfl rfl xMa0 dX7_takeOrder_132 (fun H locs hW => ?_)
      refine lv_aload_n hx hb dX7_takeOrder_135 rfl (lv_at hl 1 rfl) ?_
      refine r_getr (C := RX7) (T := TX7) hx hb hts hown hK hW (xF_mo0).1 (xF_mo0).2.1 inlX7 rfl (by decide) 16 (by decide) (show xro (xkey 12 0 0) 16 = some (xkey 12 10 0) from by decide +kernel) xw_88 rfl dX7_takeOrder_136 ?_
      refine lv_aload_n hx hb dX7_takeOrder_139 rfl (lv_at hl 1 rfl) ?_
      refine r_get hx hb hts hown hK hW (C := RX7) (T := TX7) (xF_mo0) inlX7 rfl (by decide) 13 (by decide) (by decide +kernel) xw_844 rfl (x := (((MtN pp ((va_up f 11 ((f 11) + 1)), pu)).1) 13) + 1) rfl dX7_takeOrder_140 ?_
      refine lv_aload_n hx hb dX7_takeOrder_143 rfl (lv_at hl 1 rfl) ?_
      refine r_get hx hb hts hown hK hW (C := RX7) (T := TX7) (xF_mo0) inlX7 rfl (by decide) 14 (by decide) (by decide +kernel) xw_845 rfl (x := ((MtN pp ((va_up f 11 ((f 11) + 1)), pu)).1) 14) rfl dX7_takeOrder_144 ?_
      refine r_iast hx hb hK hW (N := 30) (xF_mo10) (((f 13) + 1).toNatClampNeg) (by rw [(xinc h13 (by omega)).1]; omega) (by decide) ((congrArg (· + 1) e13).trans (xinc h13 (by omega)).2) (xr_model 10 (by decide) (by decide) (((f 13) + 1).toNatClampNeg)) xMa13 dX7_takeOrder_147 (fun H locs hW => ?_)
      obtain rfl : (va_up ((MtN pp ((va_up f 11 ((f 11) + 1)), pu)).1) 13 ((((MtN pp ((va_up f 11 ((f 11) + 1)), pu)).1) 13) + 1)) = f' := by (rw [← ho0]) <;> (unfold Mord; rw [show Mbody pp (Mnx pp f) (va_up f 11 (f 11 + 1), pu) = MtN pp (va_up f 11 (f 11 + 1), pu) by unfold Mbody; first | (rw [if_pos c_1]; done) | (rw [if_pos c_1]; rfl)]; unfold Mtail; simp [c_2])
      obtain rfl : (va_up pq ((f 13).toNatClampNeg) (Mnx pp f)) = pq' := by (rw [← ho1]) <;> (unfold Mord; rw [show Mbody pp (Mnx pp f) (va_up f 11 (f 11 + 1), pu) = MtN pp (va_up f 11 (f 11 + 1), pu) by unfold Mbody; first | (rw [if_pos c_1]; done) | (rw [if_pos c_1]; rfl)]; unfold Mtail; simp [c_2])
      obtain rfl : (va_up (va_up pt ((f 13).toNatClampNeg) (f 14)) (((f 13) + 1).toNatClampNeg) (((MtN pp ((va_up f 11 ((f 11) + 1)), pu)).1) 14)) = pt' := by (rw [← ho2]) <;> (unfold Mord; rw [show Mbody pp (Mnx pp f) (va_up f 11 (f 11 + 1), pu) = MtN pp (va_up f 11 (f 11 + 1), pu) by unfold Mbody; first | (rw [if_pos c_1]; done) | (rw [if_pos c_1]; rfl)]; unfold Mtail; simp [c_2])
      obtain rfl : ((MtN pp ((va_up f 11 ((f 11) + 1)), pu)).2) = pu' := by (rw [← ho3]) <;> (unfold Mord; rw [show Mbody pp (Mnx pp f) (va_up f 11 (f 11 + 1), pu) = MtN pp (va_up f 11 (f 11 + 1), pu) by unfold Mbody; first | (rw [if_pos c_1]; done) | (rw [if_pos c_1]; rfl)]; unfold Mtail; simp [c_2])
      rw [hQ0]
      exact x_vret hx hb hret hlocks hW rfl dX7_takeOrder_148
  · skip
    by_cases c_3 : Mnx pp f = 109
    · skip
      refine lv_lookup (off := 50) (tgt := 79) hx hb dX7_takeOrder_29 (by decide) (by rw [c_3]; decide) (by decide) ?_
      have hb9 := (Mk_b h (h.n.lt (p := pp) (by rw [c_3]; decide))).1
      refine lv_aload_n hx hb dX7_takeOrder_79 rfl (lv_at hl 1 rfl) ?_
      refine x_callV hx hb hml hown hts hK hW hl.1 (c_X7_takeMend l X G (j := 1) (h := hb9) (ho0 := rfl) (ho1 := rfl)) (xF_mo0).1 (xF_mo0).2.1 (by decide) rfl xw_870 xw_871 xw_872 xw_5 xw_873 hdV_yX7_takeMend ⟨Nat.le_of_ble_eq_true rfl, Nat.le_of_ble_eq_true rfl⟩ rfl (Nat.le_of_ble_eq_true rfl) ⟨Nat.le_refl _, Nat.le_refl _⟩ dX7_takeOrder_80 (fun H locs hW => ?_)
      have hW : XR X G 12 (xMa ((MtM pp ((va_up f 11 ((f 11) + 1)), pu)).1) sg L O Y pb pc pd pe pg ph pp pq (va_up pt ((f 13).toNatClampNeg) (f 14)) ((MtM pp ((va_up f 11 ((f 11) + 1)), pu)).2)) H locs := hW
      refine lv_goto (tgt := 108) hx hb dX7_takeOrder_83 (by decide) ?_
      have e13 : ((MtM pp ((va_up f 11 ((f 11) + 1)), pu)).1) 13 = f 13 := (Mk_M (p := pp) (q := (va_up f 11 (f 11 + 1), pu)) hb9).2.2.1
      refine lv_aload_n hx hb dX7_takeOrder_108 rfl (lv_at hl 1 rfl) ?_
      refine r_get hx hb hts hown hK hW (C := RX7) (T := TX7) (xF_mo0) inlX7 rfl (by decide) 12 (by decide) (by decide +kernel) xw_843 rfl (x := ((MtM pp ((va_up f 11 ((f 11) + 1)), pu)).1) 12) rfl dX7_takeOrder_109 ?_
      refine lv_if_ne (tgt := 148) hx hb dX7_takeOrder_112 (by decide) (fun c_4 => ?_) (fun c_4 => ?_)
      · skip
        obtain rfl : ((MtM pp ((va_up f 11 ((f 11) + 1)), pu)).1) = f' := by (rw [← ho0]) <;> (unfold Mord; rw [show Mbody pp (Mnx pp f) (va_up f 11 (f 11 + 1), pu) = MtM pp (va_up f 11 (f 11 + 1), pu) by unfold Mbody; first | (rw [if_neg c_1, if_pos c_3]; done) | (rw [if_neg c_1, if_pos c_3]; rfl)]; unfold Mtail; simp [c_4])
        obtain rfl : pq = pq' := by (rw [← ho1]) <;> (unfold Mord; rw [show Mbody pp (Mnx pp f) (va_up f 11 (f 11 + 1), pu) = MtM pp (va_up f 11 (f 11 + 1), pu) by unfold Mbody; first | (rw [if_neg c_1, if_pos c_3]; done) | (rw [if_neg c_1, if_pos c_3]; rfl)]; unfold Mtail; simp [c_4])
        obtain rfl : (va_up pt ((f 13).toNatClampNeg) (f 14)) = pt' := by (rw [← ho2]) <;> (unfold Mord; rw [show Mbody pp (Mnx pp f) (va_up f 11 (f 11 + 1), pu) = MtM pp (va_up f 11 (f 11 + 1), pu) by unfold Mbody; first | (rw [if_neg c_1, if_pos c_3]; done) | (rw [if_neg c_1, if_pos c_3]; rfl)]; unfold Mtail; simp [c_4])
        obtain rfl : ((MtM pp ((va_up f 11 ((f 11) + 1)), pu)).2) = pu' := by (rw [← ho3]) <;> (unfold Mord; rw [show Mbody pp (Mnx pp f) (va_up f 11 (f 11 + 1), pu) = MtM pp (va_up f 11 (f 11 + 1), pu) by unfold Mbody; first | (rw [if_neg c_1, if_pos c_3]; done) | (rw [if_neg c_1, if_pos c_3]; rfl)]; unfold Mtail; simp [c_4])
        rw [hQ0]
        exact x_vret hx hb hret hlocks hW rfl dX7_takeOrder_148
      · skip
        refine lv_aload_n hx hb dX7_takeOrder_115 rfl (lv_at hl 1 rfl) ?_
        refine r_getr (C := RX7) (T := TX7) hx hb hts hown hK hW (xF_mo0).1 (xF_mo0).2.1 inlX7 rfl (by decide) 15 (by decide) (show xro (xkey 12 0 0) 15 = some (xkey 12 9 0) from by decide +kernel) xw_87 rfl dX7_takeOrder_116 ?_
        refine lv_aload_n hx hb dX7_takeOrder_119 rfl (lv_at hl 1 rfl) ?_
        refine r_get hx hb hts hown hK hW (C := RX7) (T := TX7) (xF_mo0) inlX7 rfl (by decide) 13 (by decide) (by decide +kernel) xw_844 rfl (x := ((MtM pp ((va_up f 11 ((f 11) + 1)), pu)).1) 13) rfl dX7_takeOrder_120 ?_
        refine lv_iload_n hx hb dX7_takeOrder_123 rfl (lv_at hl 0 rfl) ?_
        refine r_iast hx hb hK hW (N := 29) (xF_mo9) ((f 13).toNatClampNeg) (by omega) (by decide) (e13.trans h13) (xr_model 9 (by decide) (by decide) ((f 13).toNatClampNeg)) xMa12 dX7_takeOrder_124 (fun H locs hW => ?_)
        refine lv_aload_n hx hb dX7_takeOrder_125 rfl (lv_at hl 1 rfl) ?_
        refine lv_dup hx hb dX7_takeOrder_126 rfl ?_
        refine r_get hx hb hts hown hK hW (C := RX7) (T := TX7) (xF_mo0) inlX7 rfl (by decide) 13 (by decide) (by decide +kernel) xw_844 rfl (x := ((MtM pp ((va_up f 11 ((f 11) + 1)), pu)).1) 13) rfl dX7_takeOrder_127 ?_
        refine lv_iconst (v := 1) hx hb dX7_takeOrder_130 (by decide) ?_
        refine lv_iadd hx hb dX7_takeOrder_131 ?_
        refine r_put hx hb hts hown hK hW (C := RX7) (T := TX7) (xF_mo0) inlX7 tyX7 tyX7_ok nmX7 rfl (by decide) 13 (by decide) (by decide +kernel) xw_844 rfl rfl rfl rfl xMa0 dX7_takeOrder_132 (fun H locs hW => ?_)
        refine lv_aload_n hx hb dX7_takeOrder_135 rfl (lv_at hl 1 rfl) ?_
        refine r_getr (C := RX7) (T := TX7) hx hb hts hown hK hW (xF_mo0).1 (xF_mo0).2.1 inlX7 rfl (by decide) 16 (by decide) (show xro (xkey 12 0 0) 16 = some (xkey 12 10 0) from by decide +kernel) xw_88 rfl dX7_takeOrder_136 ?_
        refine lv_aload_n hx hb dX7_takeOrder_139 rfl (lv_at hl 1 rfl) ?_
        refine r_get hx hb hts hown hK hW (C := RX7) (T := TX7) (xF_mo0) inlX7 rfl (by decide) 13 (by decide) (by decide +kernel) xw_844 rfl (x := (((MtM pp ((va_up f 11 ((f 11) + 1)), pu)).1) 13) + 1) rfl dX7_takeOrder_140 ?_
        refine lv_aload_n hx hb dX7_takeOrder_143 rfl (lv_at hl 1 rfl) ?_
        refine r_get hx hb hts hown hK hW (C := RX7) (T := TX7) (xF_mo0) inlX7 rfl (by decide) 14 (by decide) (by decide +kernel) xw_845 rfl (x := ((MtM pp ((va_up f 11 ((f 11) + 1)), pu)).1) 14) rfl dX7_takeOrder_144 ?_
        refine r_iast hx hb hK hW (N := 30) (xF_mo10) (((f 13) + 1).toNatClampNeg) (by rw [(xinc h13 (by omega)).1]; omega) (by decide) ((congrArg (· + 1) e13).trans (xinc h13 (by omega)).2) (xr_model 10 (by decide) (by decide) (((f 13) + 1).toNatClampNeg)) xMa13 dX7_takeOrder_147 (fun H locs hW => ?_)
        obtain rfl : (va_up ((MtM pp ((va_up f 11 ((f 11) + 1)), pu)).1) 13 ((((MtM pp ((va_up f 11 ((f 11) + 1)), pu)).1) 13) + 1)) = f' := by (rw [← ho0]) <;> (unfold Mord; rw [show Mbody pp (Mnx pp f) (va_up f 11 (f 11 + 1), pu) = MtM pp (va_up f 11 (f 11 + 1), pu) by unfold Mbody; first | (rw [if_neg c_1, if_pos c_3]; done) | (rw [if_neg c_1, if_pos c_3]; rfl)]; unfold Mtail; simp [c_4])
        obtain rfl : (va_up pq ((f 13).toNatClampNeg) (Mnx pp f)) = pq' := by (rw [← ho1]) <;> (unfold Mord; rw [show Mbody pp (Mnx pp f) (va_up f 11 (f 11 + 1), pu) = MtM pp (va_up f 11 (f 11 + 1), pu) by unfold Mbody; first | (rw [if_neg c_1, if_pos c_3]; done) | (rw [if_neg c_1, if_pos c_3]; rfl)]; unfold Mtail; simp [c_4])
        obtain rfl : (va_up (va_up pt ((f 13).toNatClampNeg) (f 14)) (((f 13) + 1).toNatClampNeg) (((MtM pp ((va_up f 11 ((f 11) + 1)), pu)).1) 14)) = pt' := by (rw [← ho2]) <;> (unfold Mord; rw [show Mbody pp (Mnx pp f) (va_up f 11 (f 11 + 1), pu) = MtM pp (va_up f 11 (f 11 + 1), pu) by unfold Mbody; first | (rw [if_neg c_1, if_pos c_3]; done) | (rw [if_neg c_1, if_pos c_3]; rfl)]; unfold Mtail; simp [c_4])
        obtain rfl : ((MtM pp ((va_up f 11 ((f 11) + 1)), pu)).2) = pu' := by (rw [← ho3]) <;> (unfold Mord; rw [show Mbody pp (Mnx pp f) (va_up f 11 (f 11 + 1), pu) = MtM pp (va_up f 11 (f 11 + 1), pu) by unfold Mbody; first | (rw [if_neg c_1, if_pos c_3]; done) | (rw [if_neg c_1, if_pos c_3]; rfl)]; unfold Mtail; simp [c_4])
        rw [hQ0]
        exact x_vret hx hb hret hlocks hW rfl dX7_takeOrder_148
    · skip
      by_cases c_5 : Mnx pp f = 116
      · skip
        refine lv_lookup (off := 57) (tgt := 86) hx hb dX7_takeOrder_29 (by decide) (by rw [c_5]; decide) (by decide) ?_
        have hb9 := (Mk_b h (h.n.lt (p := pp) (by rw [c_5]; decide))).1
        refine lv_aload_n hx hb dX7_takeOrder_86 rfl (lv_at hl 1 rfl) ?_
        refine x_callV hx hb hml hown hts hK hW hl.1 (c_X7_takeNumber l X G (j := 1) (h := hb9) (ho0 := rfl) (ho1 := rfl)) (xF_mo0).1 (xF_mo0).2.1 (by decide) rfl xw_858 xw_859 xw_860 xw_5 xw_861 hdV_yX7_takeNumber ⟨Nat.le_of_ble_eq_true rfl, Nat.le_of_ble_eq_true rfl⟩ rfl (Nat.le_of_ble_eq_true rfl) ⟨Nat.le_refl _, Nat.le_refl _⟩ dX7_takeOrder_87 (fun H locs hW => ?_)
        have hW : XR X G 12 (xMa ((MtN pp ((va_up f 11 ((f 11) + 1)), pu)).1) sg L O Y pb pc pd pe pg ph pp pq (va_up pt ((f 13).toNatClampNeg) (f 14)) ((MtN pp ((va_up f 11 ((f 11) + 1)), pu)).2)) H locs := hW
        refine lv_goto (tgt := 108) hx hb dX7_takeOrder_90 (by decide) ?_
        have e13 : ((MtN pp ((va_up f 11 ((f 11) + 1)), pu)).1) 13 = f 13 := (Mk_N (p := pp) (q := (va_up f 11 (f 11 + 1), pu)) hb9).2.2.1
        refine lv_aload_n hx hb dX7_takeOrder_108 rfl (lv_at hl 1 rfl) ?_
        refine r_get hx hb hts hown hK hW (C := RX7) (T := TX7) (xF_mo0) inlX7 rfl (by decide) 12 (by decide) (by decide +kernel) xw_843 rfl (x := ((MtN pp ((va_up f 11 ((f 11) + 1)), pu)).1) 12) rfl dX7_takeOrder_109 ?_
        refine lv_if_ne (tgt := 148) hx hb dX7_takeOrder_112 (by decide) (fun c_6 => ?_) (fun c_6 => ?_)
        · skip
          obtain rfl : ((MtN pp ((va_up f 11 ((f 11) + 1)), pu)).1) = f' := by (rw [← ho0]) <;> (unfold Mord; rw [show Mbody pp (Mnx pp f) (va_up f 11 (f 11 + 1), pu) = MtN pp (va_up f 11 (f 11 + 1), pu) by unfold Mbody; first | (rw [if_neg c_1, if_neg c_3, if_pos c_5]; done) | (rw [if_neg c_1, if_neg c_3, if_pos c_5]; rfl)]; unfold Mtail; simp [c_6])
          obtain rfl : pq = pq' := by (rw [← ho1]) <;> (unfold Mord; rw [show Mbody pp (Mnx pp f) (va_up f 11 (f 11 + 1), pu) = MtN pp (va_up f 11 (f 11 + 1), pu) by unfold Mbody; first | (rw [if_neg c_1, if_neg c_3, if_pos c_5]; done) | (rw [if_neg c_1, if_neg c_3, if_pos c_5]; rfl)]; unfold Mtail; simp [c_6])
          obtain rfl : (va_up pt ((f 13).toNatClampNeg) (f 14)) = pt' := by (rw [← ho2]) <;> (unfold Mord; rw [show Mbody pp (Mnx pp f) (va_up f 11 (f 11 + 1), pu) = MtN pp (va_up f 11 (f 11 + 1), pu) by unfold Mbody; first | (rw [if_neg c_1, if_neg c_3, if_pos c_5]; done) | (rw [if_neg c_1, if_neg c_3, if_pos c_5]; rfl)]; unfold Mtail; simp [c_6])
          obtain rfl : ((MtN pp ((va_up f 11 ((f 11) + 1)), pu)).2) = pu' := by (rw [← ho3]) <;> (unfold Mord; rw [show Mbody pp (Mnx pp f) (va_up f 11 (f 11 + 1), pu) = MtN pp (va_up f 11 (f 11 + 1), pu) by unfold Mbody; first | (rw [if_neg c_1, if_neg c_3, if_pos c_5]; done) | (rw [if_neg c_1, if_neg c_3, if_pos c_5]; rfl)]; unfold Mtail; simp [c_6])
          rw [hQ0]
          exact x_vret hx hb hret hlocks hW rfl dX7_takeOrder_148
        · skip
          refine lv_aload_n hx hb dX7_takeOrder_115 rfl (lv_at hl 1 rfl) ?_
          refine r_getr (C := RX7) (T := TX7) hx hb hts hown hK hW (xF_mo0).1 (xF_mo0).2.1 inlX7 rfl (by decide) 15 (by decide) (show xro (xkey 12 0 0) 15 = some (xkey 12 9 0) from by decide +kernel) xw_87 rfl dX7_takeOrder_116 ?_
          refine lv_aload_n hx hb dX7_takeOrder_119 rfl (lv_at hl 1 rfl) ?_
          refine r_get hx hb hts hown hK hW (C := RX7) (T := TX7) (xF_mo0) inlX7 rfl (by decide) 13 (by decide) (by decide +kernel) xw_844 rfl (x := ((MtN pp ((va_up f 11 ((f 11) + 1)), pu)).1) 13) rfl dX7_takeOrder_120 ?_
          refine lv_iload_n hx hb dX7_takeOrder_123 rfl (lv_at hl 0 rfl) ?_
          refine r_iast hx hb hK hW (N := 29) (xF_mo9) ((f 13).toNatClampNeg) (by omega) (by decide) (e13.trans h13) (xr_model 9 (by decide) (by decide) ((f 13).toNatClampNeg)) xMa12 dX7_takeOrder_124 (fun H locs hW => ?_)
          refine lv_aload_n hx hb dX7_takeOrder_125 rfl (lv_at hl 1 rfl) ?_
          refine lv_dup hx hb dX7_takeOrder_126 rfl ?_
          refine r_get hx hb hts hown hK hW (C := RX7) (T := TX7) (xF_mo0) inlX7 rfl (by decide) 13 (by decide) (by decide +kernel) xw_844 rfl (x := ((MtN pp ((va_up f 11 ((f 11) + 1)), pu)).1) 13) rfl dX7_takeOrder_127 ?_
          refine lv_iconst (v := 1) hx hb dX7_takeOrder_130 (by decide) ?_
          refine lv_iadd hx hb dX7_takeOrder_131 ?_
          refine r_put hx hb hts hown hK hW (C := RX7) (T := TX7) (xF_mo0) inlX7 tyX7 tyX7_ok nmX7 rfl (by decide) 13 (by decide) (by decide +kernel) xw_844 rfl rfl rfl rfl xMa0 dX7_takeOrder_132 (fun H locs hW => ?_)
          refine lv_aload_n hx hb dX7_takeOrder_135 rfl (lv_at hl 1 rfl) ?_
          refine r_getr (C := RX7) (T := TX7) hx hb hts hown hK hW (xF_mo0).1 (xF_mo0).2.1 inlX7 rfl (by decide) 16 (by decide) (show xro (xkey 12 0 0) 16 = some (xkey 12 10 0) from by decide +kernel) xw_88 rfl dX7_takeOrder_136 ?_
          refine lv_aload_n hx hb dX7_takeOrder_139 rfl (lv_at hl 1 rfl) ?_
          refine r_get hx hb hts hown hK hW (C := RX7) (T := TX7) (xF_mo0) inlX7 rfl (by decide) 13 (by decide) (by decide +kernel) xw_844 rfl (x := (((MtN pp ((va_up f 11 ((f 11) + 1)), pu)).1) 13) + 1) rfl dX7_takeOrder_140 ?_
          refine lv_aload_n hx hb dX7_takeOrder_143 rfl (lv_at hl 1 rfl) ?_
          refine r_get hx hb hts hown hK hW (C := RX7) (T := TX7) (xF_mo0) inlX7 rfl (by decide) 14 (by decide) (by decide +kernel) xw_845 rfl (x := ((MtN pp ((va_up f 11 ((f 11) + 1)), pu)).1) 14) rfl dX7_takeOrder_144 ?_
          refine r_iast hx hb hK hW (N := 30) (xF_mo10) (((f 13) + 1).toNatClampNeg) (by rw [(xinc h13 (by omega)).1]; omega) (by decide) ((congrArg (· + 1) e13).trans (xinc h13 (by omega)).2) (xr_model 10 (by decide) (by decide) (((f 13) + 1).toNatClampNeg)) xMa13 dX7_takeOrder_147 (fun H locs hW => ?_)
          obtain rfl : (va_up ((MtN pp ((va_up f 11 ((f 11) + 1)), pu)).1) 13 ((((MtN pp ((va_up f 11 ((f 11) + 1)), pu)).1) 13) + 1)) = f' := by (rw [← ho0]) <;> (unfold Mord; rw [show Mbody pp (Mnx pp f) (va_up f 11 (f 11 + 1), pu) = MtN pp (va_up f 11 (f 11 + 1), pu) by unfold Mbody; first | (rw [if_neg c_1, if_neg c_3, if_pos c_5]; done) | (rw [if_neg c_1, if_neg c_3, if_pos c_5]; rfl)]; unfold Mtail; simp [c_6])
          obtain rfl : (va_up pq ((f 13).toNatClampNeg) (Mnx pp f)) = pq' := by (rw [← ho1]) <;> (unfold Mord; rw [show Mbody pp (Mnx pp f) (va_up f 11 (f 11 + 1), pu) = MtN pp (va_up f 11 (f 11 + 1), pu) by unfold Mbody; first | (rw [if_neg c_1, if_neg c_3, if_pos c_5]; done) | (rw [if_neg c_1, if_neg c_3, if_pos c_5]; rfl)]; unfold Mtail; simp [c_6])
          obtain rfl : (va_up (va_up pt ((f 13).toNatClampNeg) (f 14)) (((f 13) + 1).toNatClampNeg) (((MtN pp ((va_up f 11 ((f 11) + 1)), pu)).1) 14)) = pt' := by (rw [← ho2]) <;> (unfold Mord; rw [show Mbody pp (Mnx pp f) (va_up f 11 (f 11 + 1), pu) = MtN pp (va_up f 11 (f 11 + 1), pu) by unfold Mbody; first | (rw [if_neg c_1, if_neg c_3, if_pos c_5]; done) | (rw [if_neg c_1, if_neg c_3, if_pos c_5]; rfl)]; unfold Mtail; simp [c_6])
          obtain rfl : ((MtN pp ((va_up f 11 ((f 11) + 1)), pu)).2) = pu' := by (rw [← ho3]) <;> (unfold Mord; rw [show Mbody pp (Mnx pp f) (va_up f 11 (f 11 + 1), pu) = MtN pp (va_up f 11 (f 11 + 1), pu) by unfold Mbody; first | (rw [if_neg c_1, if_neg c_3, if_pos c_5]; done) | (rw [if_neg c_1, if_neg c_3, if_pos c_5]; rfl)]; unfold Mtail; simp [c_6])
          rw [hQ0]
          exact x_vret hx hb hret hlocks hW rfl dX7_takeOrder_148
      · skip
        by_cases c_7 : Mnx pp f = 119
        · skip
          refine lv_lookup (off := 43) (tgt := 72) hx hb dX7_takeOrder_29 (by decide) (by rw [c_7]; decide) (by decide) ?_
          have hb9 := (Mk_b h (h.n.lt (p := pp) (by rw [c_7]; decide))).1
          refine lv_aload_n hx hb dX7_takeOrder_72 rfl (lv_at hl 1 rfl) ?_
          refine x_callV hx hb hml hown hts hK hW hl.1 (c_X7_takeWalker l X G (j := 1) (h := hb9) (ho0 := rfl) (ho1 := rfl)) (xF_mo0).1 (xF_mo0).2.1 (by decide) rfl xw_854 xw_855 xw_856 xw_5 xw_857 hdV_yX7_takeWalker ⟨Nat.le_of_ble_eq_true rfl, Nat.le_of_ble_eq_true rfl⟩ rfl (Nat.le_of_ble_eq_true rfl) ⟨Nat.le_refl _, Nat.le_refl _⟩ dX7_takeOrder_73 (fun H locs hW => ?_)
          have hW : XR X G 12 (xMa ((MtW pp ((va_up f 11 ((f 11) + 1)), pu)).1) sg L O Y pb pc pd pe pg ph pp pq (va_up pt ((f 13).toNatClampNeg) (f 14)) ((MtW pp ((va_up f 11 ((f 11) + 1)), pu)).2)) H locs := hW
          refine lv_goto (tgt := 108) hx hb dX7_takeOrder_76 (by decide) ?_
          have e13 : ((MtW pp ((va_up f 11 ((f 11) + 1)), pu)).1) 13 = f 13 := (Mk_W (p := pp) (q := (va_up f 11 (f 11 + 1), pu)) hb9).2.2.1
          refine lv_aload_n hx hb dX7_takeOrder_108 rfl (lv_at hl 1 rfl) ?_
          refine r_get hx hb hts hown hK hW (C := RX7) (T := TX7) (xF_mo0) inlX7 rfl (by decide) 12 (by decide) (by decide +kernel) xw_843 rfl (x := ((MtW pp ((va_up f 11 ((f 11) + 1)), pu)).1) 12) rfl dX7_takeOrder_109 ?_
          refine lv_if_ne (tgt := 148) hx hb dX7_takeOrder_112 (by decide) (fun c_8 => ?_) (fun c_8 => ?_)
          · skip
            obtain rfl : ((MtW pp ((va_up f 11 ((f 11) + 1)), pu)).1) = f' := by (rw [← ho0]) <;> (unfold Mord; rw [show Mbody pp (Mnx pp f) (va_up f 11 (f 11 + 1), pu) = MtW pp (va_up f 11 (f 11 + 1), pu) by unfold Mbody; first | (rw [if_neg c_1, if_neg c_3, if_neg c_5, if_pos c_7]; done) | (rw [if_neg c_1, if_neg c_3, if_neg c_5, if_pos c_7]; rfl)]; unfold Mtail; simp [c_8])
            obtain rfl : pq = pq' := by (rw [← ho1]) <;> (unfold Mord; rw [show Mbody pp (Mnx pp f) (va_up f 11 (f 11 + 1), pu) = MtW pp (va_up f 11 (f 11 + 1), pu) by unfold Mbody; first | (rw [if_neg c_1, if_neg c_3, if_neg c_5, if_pos c_7]; done) | (rw [if_neg c_1, if_neg c_3, if_neg c_5, if_pos c_7]; rfl)]; unfold Mtail; simp [c_8])
            obtain rfl : (va_up pt ((f 13).toNatClampNeg) (f 14)) = pt' := by (rw [← ho2]) <;> (unfold Mord; rw [show Mbody pp (Mnx pp f) (va_up f 11 (f 11 + 1), pu) = MtW pp (va_up f 11 (f 11 + 1), pu) by unfold Mbody; first | (rw [if_neg c_1, if_neg c_3, if_neg c_5, if_pos c_7]; done) | (rw [if_neg c_1, if_neg c_3, if_neg c_5, if_pos c_7]; rfl)]; unfold Mtail; simp [c_8])
            obtain rfl : ((MtW pp ((va_up f 11 ((f 11) + 1)), pu)).2) = pu' := by (rw [← ho3]) <;> (unfold Mord; rw [show Mbody pp (Mnx pp f) (va_up f 11 (f 11 + 1), pu) = MtW pp (va_up f 11 (f 11 + 1), pu) by unfold Mbody; first | (rw [if_neg c_1, if_neg c_3, if_neg c_5, if_pos c_7]; done) | (rw [if_neg c_1, if_neg c_3, if_neg c_5, if_pos c_7]; rfl)]; unfold Mtail; simp [c_8])
            rw [hQ0]
            exact x_vret hx hb hret hlocks hW rfl dX7_takeOrder_148
          · skip
            refine lv_aload_n hx hb dX7_takeOrder_115 rfl (lv_at hl 1 rfl) ?_
            refine r_getr (C := RX7) (T := TX7) hx hb hts hown hK hW (xF_mo0).1 (xF_mo0).2.1 inlX7 rfl (by decide) 15 (by decide) (show xro (xkey 12 0 0) 15 = some (xkey 12 9 0) from by decide +kernel) xw_87 rfl dX7_takeOrder_116 ?_
            refine lv_aload_n hx hb dX7_takeOrder_119 rfl (lv_at hl 1 rfl) ?_
            refine r_get hx hb hts hown hK hW (C := RX7) (T := TX7) (xF_mo0) inlX7 rfl (by decide) 13 (by decide) (by decide +kernel) xw_844 rfl (x := ((MtW pp ((va_up f 11 ((f 11) + 1)), pu)).1) 13) rfl dX7_takeOrder_120 ?_
            refine lv_iload_n hx hb dX7_takeOrder_123 rfl (lv_at hl 0 rfl) ?_
            refine r_iast hx hb hK hW (N := 29) (xF_mo9) ((f 13).toNatClampNeg) (by omega) (by decide) (e13.trans h13) (xr_model 9 (by decide) (by decide) ((f 13).toNatClampNeg)) xMa12 dX7_takeOrder_124 (fun H locs hW => ?_)
            refine lv_aload_n hx hb dX7_takeOrder_125 rfl (lv_at hl 1 rfl) ?_
            refine lv_dup hx hb dX7_takeOrder_126 rfl ?_
            refine r_get hx hb hts hown hK hW (C := RX7) (T := TX7) (xF_mo0) inlX7 rfl (by decide) 13 (by decide) (by decide +kernel) xw_844 rfl (x := ((MtW pp ((va_up f 11 ((f 11) + 1)), pu)).1) 13) rfl dX7_takeOrder_127 ?_
            refine lv_iconst (v := 1) hx hb dX7_takeOrder_130 (by decide) ?_
            refine lv_iadd hx hb dX7_takeOrder_131 ?_
            refine r_put hx hb hts hown hK hW (C := RX7) (T := TX7) (xF_mo0) inlX7 tyX7 tyX7_ok nmX7 rfl (by decide) 13 (by decide) (by decide +kernel) xw_844 rfl rfl rfl rfl xMa0 dX7_takeOrder_132 (fun H locs hW => ?_)
            refine lv_aload_n hx hb dX7_takeOrder_135 rfl (lv_at hl 1 rfl) ?_
            refine r_getr (C := RX7) (T := TX7) hx hb hts hown hK hW (xF_mo0).1 (xF_mo0).2.1 inlX7 rfl (by decide) 16 (by decide) (show xro (xkey 12 0 0) 16 = some (xkey 12 10 0) from by decide +kernel) xw_88 rfl dX7_takeOrder_136 ?_
            refine lv_aload_n hx hb dX7_takeOrder_139 rfl (lv_at hl 1 rfl) ?_
            refine r_get hx hb hts hown hK hW (C := RX7) (T := TX7) (xF_mo0) inlX7 rfl (by decide) 13 (by decide) (by decide +kernel) xw_844 rfl (x := (((MtW pp ((va_up f 11 ((f 11) + 1)), pu)).1) 13) + 1) rfl dX7_takeOrder_140 ?_
            refine lv_aload_n hx hb dX7_takeOrder_143 rfl (lv_at hl 1 rfl) ?_
            refine r_get hx hb hts hown hK hW (C := RX7) (T := TX7) (xF_mo0) inlX7 rfl (by decide) 14 (by decide) (by decide +kernel) xw_845 rfl (x := ((MtW pp ((va_up f 11 ((f 11) + 1)), pu)).1) 14) rfl dX7_takeOrder_144 ?_
            refine r_iast hx hb hK hW (N := 30) (xF_mo10) (((f 13) + 1).toNatClampNeg) (by rw [(xinc h13 (by omega)).1]; omega) (by decide) ((congrArg (· + 1) e13).trans (xinc h13 (by omega)).2) (xr_model 10 (by decide) (by decide) (((f 13) + 1).toNatClampNeg)) xMa13 dX7_takeOrder_147 (fun H locs hW => ?_)
            obtain rfl : (va_up ((MtW pp ((va_up f 11 ((f 11) + 1)), pu)).1) 13 ((((MtW pp ((va_up f 11 ((f 11) + 1)), pu)).1) 13) + 1)) = f' := by (rw [← ho0]) <;> (unfold Mord; rw [show Mbody pp (Mnx pp f) (va_up f 11 (f 11 + 1), pu) = MtW pp (va_up f 11 (f 11 + 1), pu) by unfold Mbody; first | (rw [if_neg c_1, if_neg c_3, if_neg c_5, if_pos c_7]; done) | (rw [if_neg c_1, if_neg c_3, if_neg c_5, if_pos c_7]; rfl)]; unfold Mtail; simp [c_8])
            obtain rfl : (va_up pq ((f 13).toNatClampNeg) (Mnx pp f)) = pq' := by (rw [← ho1]) <;> (unfold Mord; rw [show Mbody pp (Mnx pp f) (va_up f 11 (f 11 + 1), pu) = MtW pp (va_up f 11 (f 11 + 1), pu) by unfold Mbody; first | (rw [if_neg c_1, if_neg c_3, if_neg c_5, if_pos c_7]; done) | (rw [if_neg c_1, if_neg c_3, if_neg c_5, if_pos c_7]; rfl)]; unfold Mtail; simp [c_8])
            obtain rfl : (va_up (va_up pt ((f 13).toNatClampNeg) (f 14)) (((f 13) + 1).toNatClampNeg) (((MtW pp ((va_up f 11 ((f 11) + 1)), pu)).1) 14)) = pt' := by (rw [← ho2]) <;> (unfold Mord; rw [show Mbody pp (Mnx pp f) (va_up f 11 (f 11 + 1), pu) = MtW pp (va_up f 11 (f 11 + 1), pu) by unfold Mbody; first | (rw [if_neg c_1, if_neg c_3, if_neg c_5, if_pos c_7]; done) | (rw [if_neg c_1, if_neg c_3, if_neg c_5, if_pos c_7]; rfl)]; unfold Mtail; simp [c_8])
            obtain rfl : ((MtW pp ((va_up f 11 ((f 11) + 1)), pu)).2) = pu' := by (rw [← ho3]) <;> (unfold Mord; rw [show Mbody pp (Mnx pp f) (va_up f 11 (f 11 + 1), pu) = MtW pp (va_up f 11 (f 11 + 1), pu) by unfold Mbody; first | (rw [if_neg c_1, if_neg c_3, if_neg c_5, if_pos c_7]; done) | (rw [if_neg c_1, if_neg c_3, if_neg c_5, if_pos c_7]; rfl)]; unfold Mtail; simp [c_8])
            rw [hQ0]
            exact x_vret hx hb hret hlocks hW rfl dX7_takeOrder_148
        · skip
          refine lv_lookup (off := 64) (tgt := 93) hx hb dX7_takeOrder_29 (by decide) (by show Op.lookupswitch.offset [(99, 57), (109, 50), (116, 57), (119, 43)] 64 _ = 64; rw [Op.lookupswitch.offset_cons, if_neg (x_nt2 c_1 (by decide)), Op.lookupswitch.offset_cons, if_neg (x_nt2 c_3 (by decide)), Op.lookupswitch.offset_cons, if_neg (x_nt2 c_5 (by decide)), Op.lookupswitch.offset_cons, if_neg (x_nt2 c_7 (by decide))]; rfl) (by decide) ?_
          refine lv_aload_n hx hb dX7_takeOrder_93 rfl (lv_at hl 1 rfl) ?_
          refine lv_dup hx hb dX7_takeOrder_94 rfl ?_
          refine r_get hx hb hts hown hK hW (C := RX7) (T := TX7) (xF_mo0) inlX7 rfl (by decide) 11 (by decide) (by decide +kernel) xw_842 rfl (x := (f 11) + 1) rfl dX7_takeOrder_95 ?_
          refine lv_iconst (v := 1) hx hb dX7_takeOrder_98 (by decide) ?_
          refine lv_isub hx hb dX7_takeOrder_99 ?_
          refine r_put hx hb hts hown hK hW (C := RX7) (T := TX7) (xF_mo0) inlX7 tyX7 tyX7_ok nmX7 rfl (by decide) 11 (by decide) (by decide +kernel) xw_842 rfl rfl rfl rfl xMa0 dX7_takeOrder_100 (fun H locs hW => ?_)
          refine lv_aload_n hx hb dX7_takeOrder_103 rfl (lv_at hl 1 rfl) ?_
          refine lv_iconst (v := 1) hx hb dX7_takeOrder_104 (by decide) ?_
          refine r_put hx hb hts hown hK hW (C := RX7) (T := TX7) (xF_mo0) inlX7 tyX7 tyX7_ok nmX7 rfl (by decide) 12 (by decide) (by decide +kernel) xw_843 rfl rfl rfl rfl xMa0 dX7_takeOrder_105 (fun H locs hW => ?_)
          refine lv_aload_n hx hb dX7_takeOrder_108 rfl (lv_at hl 1 rfl) ?_
          refine r_get hx hb hts hown hK hW (C := RX7) (T := TX7) (xF_mo0) inlX7 rfl (by decide) 12 (by decide) (by decide +kernel) xw_843 rfl (x := 1) rfl dX7_takeOrder_109 ?_
          refine lv_if_ne (tgt := 148) hx hb dX7_takeOrder_112 (by decide) (fun c_9 => ?_) (fun c_9 => absurd c_9 (by decide))
          obtain rfl : (va_up (va_up (va_up f 11 ((f 11) + 1)) 11 (((f 11) + 1) - 1)) 12 1) = f' := by (rw [← ho0]) <;> (unfold Mord; rw [show Mbody pp (Mnx pp f) (va_up f 11 (f 11 + 1), pu) = (va_up (va_up (va_up f 11 (f 11 + 1)) 11 (f 11 + 1 - 1)) 12 1, pu) by unfold Mbody; first | (rw [if_neg c_1, if_neg c_3, if_neg c_5, if_neg c_7]; done) | (rw [if_neg c_1, if_neg c_3, if_neg c_5, if_neg c_7]; rfl)]; unfold Mtail; (split <;> first | (rename_i h9; exact absurd (show (1 : Int32) = 0 from h9) (by decide)) | rfl))
          obtain rfl : pq = pq' := by (rw [← ho1]) <;> (unfold Mord; rw [show Mbody pp (Mnx pp f) (va_up f 11 (f 11 + 1), pu) = (va_up (va_up (va_up f 11 (f 11 + 1)) 11 (f 11 + 1 - 1)) 12 1, pu) by unfold Mbody; first | (rw [if_neg c_1, if_neg c_3, if_neg c_5, if_neg c_7]; done) | (rw [if_neg c_1, if_neg c_3, if_neg c_5, if_neg c_7]; rfl)]; unfold Mtail; (split <;> first | (rename_i h9; exact absurd (show (1 : Int32) = 0 from h9) (by decide)) | rfl))
          obtain rfl : (va_up pt ((f 13).toNatClampNeg) (f 14)) = pt' := by (rw [← ho2]) <;> (unfold Mord; rw [show Mbody pp (Mnx pp f) (va_up f 11 (f 11 + 1), pu) = (va_up (va_up (va_up f 11 (f 11 + 1)) 11 (f 11 + 1 - 1)) 12 1, pu) by unfold Mbody; first | (rw [if_neg c_1, if_neg c_3, if_neg c_5, if_neg c_7]; done) | (rw [if_neg c_1, if_neg c_3, if_neg c_5, if_neg c_7]; rfl)]; unfold Mtail; (split <;> first | (rename_i h9; exact absurd (show (1 : Int32) = 0 from h9) (by decide)) | rfl))
          obtain rfl : pu = pu' := by (rw [← ho3]) <;> (unfold Mord; rw [show Mbody pp (Mnx pp f) (va_up f 11 (f 11 + 1), pu) = (va_up (va_up (va_up f 11 (f 11 + 1)) 11 (f 11 + 1 - 1)) 12 1, pu) by unfold Mbody; first | (rw [if_neg c_1, if_neg c_3, if_neg c_5, if_neg c_7]; done) | (rw [if_neg c_1, if_neg c_3, if_neg c_5, if_neg c_7]; rfl)]; unfold Mtail; (split <;> first | (rename_i h9; exact absurd (show (1 : Int32) = 0 from h9) (by decide)) | rfl))
          rw [hQ0]
          exact x_vret hx hb hret hlocks hW rfl dX7_takeOrder_148
