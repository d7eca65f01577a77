/-! ===== class and model side by side: an order's pieces ===== -/
/-- all is well: place i, c numbers of this order, the model's begin at b -/
def TP (n b : Nat) (kd od : Int32) (w0 : Nat → Int32) (i c : Nat) (q : xPS) (m : xMP) : Prop :=
  i ≤ n ∧ (q.1 2 = nI n ∧ q.1 3 = nI i ∧ q.1 4 = nI c ∧ q.1 5 = kd) ∧ (m.1 10 = nI n ∧ m.1 11 = nI i ∧ m.1 12 = 0 ∧ m.1 13 = od ∧ m.1 14 = nI (b + c)) ∧ (∀ j, j < c → q.2 j = m.2 (b + j)) ∧ ∀ j, j < b → m.2 j = w0 j
/-- a number had a fourth digit: the model has seen it, the class sees it at its next sign -/
def TB (n : Nat) (sn : Nat → Int32) (q : xPS) (m : xMP) : Prop := ∃ i, i ≤ n ∧ q.1 2 = nI n ∧ q.1 3 = nI i ∧ m.1 10 = nI n ∧ m.1 11 = nI i ∧ m.1 12 = 1 ∧ ¬ Fin3 (Tx sn n i) 48 57 = 0
def TF (n : Nat) (q : xPS) (m : xMP) : Prop := ∃ i, i ≤ n ∧ q.1 2 = nI n ∧ q.1 3 = nI i ∧ m.1 10 = nI n ∧ m.1 11 = nI i ∧ m.1 12 = 1
def TR (B : Prop) (n b : Nat) (sn : Nat → Int32) (kd od : Int32) (w0 : Nat → Int32) (C : Nat → Nat → Prop) (r : xPS × Int32) (m : xMP) : Prop :=
  (r.2 = 1 ∧ ((∃ i c, C i c ∧ TP n b kd od w0 i c r.1 m) ∨ (B ∧ TB n sn r.1 m))) ∨ (r.2 = 0 ∧ TF n r.1 m)
theorem T_and {B D : Prop} {n b : Nat} {sn w0 : Nat → Int32} {kd od : Int32} {C E : Nat → Nat → Prop} {r : xPS × Int32} {m m' : xMP} {g : xPS → xPS × Int32} (h : TR B n b sn kd od w0 C r m) (h1 : ∀ i c, C i c → TP n b kd od w0 i c r.1 m → TR D n b sn kd od w0 E (g r.1) m') (h2 : B → TB n sn r.1 m → TR D n b sn kd od w0 E (g r.1) m') (h3 : TF n r.1 m → TF n r.1 m') : TR D n b sn kd od w0 E (Pand r g) m' := by
  unfold Pand
  rcases h with ⟨e, ⟨i, c, hc, hp⟩ | ⟨hB, hb⟩⟩ | ⟨e, hf⟩
  · rw [e, if_neg (by decide)]; exact h1 i c hc hp
  · rw [e, if_neg (by decide)]; exact h2 hB hb
  · rw [e, if_pos rfl]; exact Or.inr ⟨rfl, h3 hf⟩
theorem T_one {B : Prop} {n b : Nat} {sn w0 : Nat → Int32} {kd od : Int32} {C : Nat → Nat → Prop} {r : xPS × Int32} {m : xMP} (h : TR B n b sn kd od w0 C r m) : TR B n b sn kd od w0 C (Fone r) m := by
  unfold Fone
  rcases h with ⟨e, h⟩ | ⟨e, h⟩
  · rw [e, if_neg (by decide)]; exact Or.inl ⟨rfl, h⟩
  · rw [e, if_pos rfl]; exact Or.inr ⟨rfl, h⟩
theorem T_weak {B D : Prop} {n b : Nat} {sn w0 : Nat → Int32} {kd od : Int32} {C E : Nat → Nat → Prop} {r : xPS × Int32} {m : xMP} (h : TR B n b sn kd od w0 C r m) (hB : B → D) (hC : ∀ i c, C i c → E i c) : TR D n b sn kd od w0 E r m := by
  rcases h with ⟨e, ⟨i, c, hc, hp⟩ | ⟨hb, h⟩⟩ | h
  · exact Or.inl ⟨e, Or.inl ⟨i, c, hC i c hc, hp⟩⟩
  · exact Or.inl ⟨e, Or.inr ⟨hB hb, h⟩⟩
  · exact Or.inr h
theorem TF_S {n : Nat} {q : xPS} {m : xMP} {pp : Nat → Int32} {w : Int32} (h : TF n q m) : TF n q (MtS pp w m.1, m.2) := by
  obtain ⟨i, h1, h2, h3, h4, h5, h6⟩ := h
  have h7 : ¬ m.1 12 = 0 := by rw [h6]; decide
  refine ⟨i, h1, h2, h3, ?_, ?_, ?_⟩ <;> (show MtS pp w m.1 _ = _) <;> unfold MtS <;> rw [if_neg h7]
  · exact h4
  · show m.1 11 + 0 = _
    rw [xadd0]; exact h5
  · rfl
theorem TF_N {n : Nat} {q : xPS} {m : xMP} {pp : Nat → Int32} (h : TF n q m) : TF n q (MtN pp m) := by
  obtain ⟨i, h1, h2, h3, h4, h5, h6⟩ := h
  have h7 : ¬ m.1 12 = 0 := by rw [h6]; decide
  unfold MtN
  rw [if_neg h7]
  exact ⟨i, h1, h2, h3, h4, h5, rfl⟩
theorem TB.f {n : Nat} {sn : Nat → Int32} {q : xPS} {m : xMP} (h : TB n sn q m) : TF n q m := by
  obtain ⟨i, h1, h2, h3, h4, h5, h6, _⟩ := h
  exact ⟨i, h1, h2, h3, h4, h5, h6⟩
theorem TB.sign {n : Nat} {sn : Nat → Int32} {q : xPS} {m : xMP} (hn : n ≤ 80) (h : TB n sn q m) : ¬ Fin3 (Fsign sn q.1) 48 57 = 0 := by
  obtain ⟨i, h1, h2, h3, h4, h5, h6, h7⟩ := h
  rw [Fsign_T hn h2 h3 h1]
  exact h7
theorem TP.sign {n b : Nat} {sn w0 : Nat → Int32} {kd od : Int32} {i c : Nat} {q : xPS} {m : xMP} (hn : n ≤ 80) (h : TP n b kd od w0 i c q m) : Fsign sn q.1 = Tx sn n i := Fsign_T hn h.2.1.1 h.2.1.2.1 h.1
theorem TP.next {n b : Nat} {sn pp w0 : Nat → Int32} {kd od : Int32} {i c : Nat} {q : xPS} {m : xMP} (hn : n ≤ 80) (hA : ∀ j, j < n → sn j = pp j) (h : TP n b kd od w0 i c q m) : Mnx pp m.1 = Tx sn n i := Mnx_T hn hA h.2.2.1.1 h.2.2.1.2.1 h.1
/-- one place on, in both -/
theorem TP.inc {n b : Nat} {w0 : Nat → Int32} {kd od : Int32} {i c : Nat} {q : xPS} {m : xMP} (h : TP n b kd od w0 i c q m) (hi : i < n) : TP n b kd od w0 (i + 1) c (Pinc q.1, q.2) (va_up m.1 11 (m.1 11 + 1), m.2) := by
  obtain ⟨h1, ⟨a2, a3, a4, a5⟩, ⟨b0, b1, b2, b3, b4⟩, h4, h5⟩ := h
  exact ⟨hi, ⟨a2, (show q.1 3 + 1 = _ by rw [a3]; exact nI_1 i), a4, a5⟩, ⟨b0, (show m.1 11 + 1 = _ by rw [b1]; exact nI_1 i), b2, b3, b4⟩, h4, h5⟩
theorem TP.f0 {n b : Nat} {w0 : Nat → Int32} {kd od : Int32} {i c : Nat} {q : xPS} {m : xMP} (h : TP n b kd od w0 i c q m) : TP n b kd od w0 i c q (va_up m.1 12 0, m.2) := by
  obtain ⟨h1, h2, ⟨b0, b1, b2, b3, b4⟩, h4, h5⟩ := h
  exact ⟨h1, h2, ⟨b0, b1, rfl, b3, b4⟩, h4, h5⟩
theorem T_S {n b : Nat} {sn pp w0 : Nat → Int32} {kd od w : Int32} {i c : Nat} {q : xPS} {m : xMP} (hn : n ≤ 80) (hA : ∀ j, j < n → sn j = pp j) (hw : ¬ w = 0) (h : TP n b kd od w0 i c q m) :
    TR False n b sn kd od w0 (fun i' c' => i' = i + 1 ∧ c' = c) (Frs2 w sn q) (MtS pp w m.1, m.2) := by
  have hs := TP.sign (sn := sn) hn h
  have hx := TP.next hn hA h
  have h12 : m.1 12 = 0 := h.2.2.1.2.2.1
  unfold Frs2 Frs MtS
  rw [hs, hx, if_pos h12]
  by_cases e : Tx sn n i = w
  · rw [if_pos e, if_pos e]
    exact Or.inl ⟨rfl, Or.inl ⟨i + 1, c, ⟨rfl, rfl⟩, h.f0.inc (Tx_lt (by rw [e]; exact hw))⟩⟩
  · rw [if_neg e, if_neg e]
    exact Or.inr ⟨rfl, i, h.1, h.2.1.1, h.2.1.2.1, h.2.2.1.1, (show m.1 11 + 0 = _ by rw [xadd0]; exact h.2.2.1.2.1), rfl⟩
theorem TB_S {D : Prop} {n b : Nat} {sn pp w0 : Nat → Int32} {kd od w : Int32} {E : Nat → Nat → Prop} {q : xPS} {m : xMP} (hn : n ≤ 80) (hw : Fin3 w 48 57 = 0) (h : TB n sn q m) : TR D n b sn kd od w0 E (Frs2 w sn q) (MtS pp w m.1, m.2) := by
  have hs := h.sign hn
  have e : ¬ Fsign sn q.1 = w := fun z => hs (by rw [z]; exact hw)
  unfold Frs2 Frs
  rw [if_neg e]
  exact Or.inr ⟨rfl, TF_S h.f⟩
theorem T_keep {n b : Nat} {w0 : Nat → Int32} {kd od v : Int32} {i c : Nat} {q : xPS} {m : xMP} (hn : n ≤ 80) (hc : b + c < i) (h : TP n b kd od w0 i c q m) : TP n b kd od w0 i (c + 1) (Kcap v q) (Men v m) := by
  obtain ⟨h1, ⟨a2, a3, a4, a5⟩, ⟨b0, b1, b2, b3, b4⟩, h4, h5⟩ := h
  have hlt : q.1 4 < 80 := by rw [a4]; exact nI_lt (b := 80) (by omega) (by omega)
  unfold Kcap Pcap Ncap Men
  rw [if_pos hlt, if_pos hlt, a4, b4, nI_clamp (by omega), nI_clamp (by omega)]
  refine ⟨h1, ⟨a2, a3, nI_1 c, a5⟩, ⟨b0, b1, b2, b3, nI_1 (b + c)⟩, fun j hj => ?_, fun j hj => ?_⟩
  · show va_up q.2 c v j = va_up m.2 (b + c) v (b + j)
    by_cases e : j = c
    · rw [e, va_up_at, va_up_at]
    · rw [va_up_ne _ _ e, va_up_ne _ _ (by omega)]
      exact h4 j (by omega)
  · show va_up m.2 (b + c) v j = w0 j
    rw [va_up_ne _ _ (by omega)]
    exact h5 j hj
theorem Kcap_p {v : Int32} {q : xPS} : (Kcap v q).1 2 = q.1 2 ∧ (Kcap v q).1 3 = q.1 3 := by
  unfold Kcap Pcap
  dsimp only
  split <;> exact ⟨rfl, rfl⟩
/-- a number's digits are read: it is kept, or has one too many -/
theorem T_kept {n b : Nat} {sn w0 : Nat → Int32} {kd od : Int32} {i c : Nat} {q : xPS} {m : xMP} {r s : (Nat → Int32) × Int32} (hn : n ≤ 80) (hc : b + c ≤ i) (h : TP n b kd od w0 i c q m) (hz : ZNm n sn q.1 m.1 (i + 1) r s) :
    TR True n b sn kd od w0 (fun i' c' => i + 1 ≤ i' ∧ c' = c + 1) (Kcap r.2 (r.1, q.2), 1) (Men s.2 (s.1, m.2)) := by
  obtain ⟨h1, ⟨a2, a3, a4, a5⟩, ⟨b0, b1, b2, b3, b4⟩, h4, h5⟩ := h
  obtain ⟨z1, z2, z3, k, z4, z5, z6, z7, z8⟩ := hz
  rw [z1]
  rcases z8 with z8 | ⟨z8, z9⟩
  · have hP : TP n b kd od w0 k c (r.1, q.2) (s.1, m.2) := ⟨z5, ⟨(z2 2 (by decide)).trans a2, z6, (z2 4 (by decide)).trans a4, (z2 5 (by decide)).trans a5⟩, ⟨(z3 10 (by decide) (by decide)).trans b0, z7, z8, (z3 13 (by decide) (by decide)).trans b3, (z3 14 (by decide) (by decide)).trans b4⟩, h4, h5⟩
    exact Or.inl ⟨rfl, Or.inl ⟨k, c + 1, ⟨z4, rfl⟩, T_keep hn (by omega) hP⟩⟩
  · have hk := Kcap_p (v := s.2) (q := (r.1, q.2))
    exact Or.inl ⟨rfl, Or.inr ⟨trivial, k, z5, hk.1.trans ((z2 2 (by decide)).trans a2), hk.2.trans z6, (z3 10 (by decide) (by decide)).trans b0, z7, z8, z9⟩⟩
theorem T_N {n b : Nat} {sn pp w0 : Nat → Int32} {kd od : Int32} {i c : Nat} {q : xPS} {m : xMP} (hn : n ≤ 80) (hA : ∀ j, j < n → sn j = pp j) (hc : b + c ≤ i) (h : TP n b kd od w0 i c q m) :
    TR True n b sn kd od w0 (fun i' c' => i + 1 ≤ i' ∧ c' = c + 1) (Frn sn q) (MtN pp m) := by
  have hs := TP.sign (sn := sn) hn h
  have hx := TP.next hn hA h
  have h12 : m.1 12 = 0 := h.2.2.1.2.2.1
  have hx0 : Mnx pp (va_up m.1 12 0) = Mnx pp m.1 := rfl
  unfold Frn MtN
  rw [hx0, hs, hx, if_pos h12, Fdig_3]
  by_cases e : Fin3 (Tx sn n i) 48 57 = 0
  · rw [if_pos e, if_pos e]
    exact Or.inr ⟨rfl, i, h.1, h.2.1.1, h.2.1.2.1, h.2.2.1.1, h.2.2.1.2.1, rfl⟩
  · have hi := Tx_lt (xdig0 e)
    obtain ⟨d, hd, ed⟩ := xdigit e
    have p3 : Pinc q.1 3 = nI (i + 1) := by show q.1 3 + 1 = _; rw [h.2.1.2.1]; exact nI_1 i
    have f11 : (va_up (va_up m.1 12 0) 11 (m.1 11 + 1)) 11 = nI (i + 1) := by show m.1 11 + 1 = _; rw [h.2.2.1.2.1]; exact nI_1 i
    have hv : nI (48 + d) - 48 = nI d := by
      rw [← nI_add, Int32.add_comm]
      exact Int32.add_sub_cancel _ _
    rw [if_neg e, if_neg e]
    by_cases c48 : Tx sn n i = 48
    · have hm : MnL pp 80 (va_up (va_up m.1 12 0) 11 (m.1 11 + 1), Tx sn n i - 48) = (va_up (va_up m.1 12 0) 11 (m.1 11 + 1), 0) := by
        rw [c48]
        show (if (0 : Int32) = 0 then (if (48 : Int32) - 48 ≤ 0 then _ else _) else _) = _
        rw [if_pos rfl, if_pos (by decide)]
        rfl
      have hf : Fnum sn 1 (q.1, 0) = (Pinc q.1, 0) := by
        show (if Fdig (Fsign sn q.1) = 0 then (q.1, (0 : Int32)) else (Pinc q.1, 10 * 0 + (Fsign sn q.1 - 48))) = _
        rw [hs, Fdig_3, if_neg e, c48]
        rfl
      rw [if_pos c48, hm, hf]
      exact T_kept hn hc h (r := (Pinc q.1, 0)) (s := (va_up (va_up m.1 12 0) 11 (m.1 11 + 1), 0)) ⟨rfl, fun w hw => va_up_ne _ _ hw, fun w ha hb => (va_up_ne _ _ ha).trans (va_up_ne _ _ hb), i + 1, Nat.le_refl _, hi, p3, f11, Or.inl rfl⟩
    · have hd1 : 1 ≤ d := by
        rcases Nat.eq_zero_or_pos d with z | z
        · exact absurd (by rw [ed, z]; rfl) c48
        · exact z
      have hf : Fnum sn 3 (q.1, 0) = Fnum sn 2 (Pinc q.1, nI d) := by
        show (if Fdig (Fsign sn q.1) = 0 then (q.1, (0 : Int32)) else Fnum sn 2 (Pinc q.1, 10 * 0 + (Fsign sn q.1 - 48))) = _
        rw [hs, Fdig_3, if_neg e, ed, hv, show (10 : Int32) * 0 = 0 from by decide, Int32.zero_add]
      rw [if_neg c48, hf, ed, hv]
      have hz := ZN2 (k := 77) (p := Pinc q.1) (f := va_up (va_up m.1 12 0) 11 (m.1 11 + 1)) hn hA (show i + 1 ≤ n by omega) h.2.1.1 p3 h.2.2.1.1 f11 rfl hd1 hd
      obtain ⟨z1, z2, z3, z4⟩ := hz
      exact T_kept hn hc h ⟨z1, fun w hw => (z2 w hw).trans (va_up_ne _ _ hw), fun w ha hb => (z3 w ha hb).trans ((va_up_ne _ _ ha).trans (va_up_ne _ _ hb)), z4⟩
