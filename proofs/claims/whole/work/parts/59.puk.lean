/-! ===== class and model side by side: the orders of a text ===== -/
/-- order j, read by the class from place i (behind the order before it) to i', is what the model keeps of it -/
def SP (n : Nat) (sn : Nat → Int32) (z : xM4) (B j i i' : Nat) : Prop :=
  ∃ b c, (z.2.2.1 j = nI b ∧ z.2.2.1 (j + 1) = nI (b + c) ∧ b + c ≤ B) ∧ (i < i' ∧ i' ≤ n) ∧ TK (z.2.1 j) c ∧
   ∀ q : xPS, q.1 2 = nI n → q.1 3 = nI i → (Fnext sn q).2 = 1 ∧ (Fnext sn q).1.1 2 = nI n ∧ (Fnext sn q).1.1 3 = nI i' ∧ (Fnext sn q).1.1 4 = nI c ∧ (Fnext sn q).1.1 5 = z.2.1 j ∧ ∀ t, t < c → (Fnext sn q).1.2 t = z.2.2.2 (b + t)
def PA (n : Nat) (sn : Nat → Int32) (z : xM4) (B o e : Nat) : Prop := ∃ pos : Nat → Nat, pos 0 = 0 ∧ pos o = e ∧ ∀ j, j < o → SP n sn z B j (pos j) (pos (j + 1))
theorem SP.mono {n B B' j i i' : Nat} {sn : Nat → Int32} {z z' : xM4} (h : SP n sn z B j i i') (hs : z'.2.1 j = z.2.1 j) (hb : z'.2.2.1 j = z.2.2.1 j) (hb1 : z'.2.2.1 (j + 1) = z.2.2.1 (j + 1)) (hu : ∀ t, t < B → z'.2.2.2 t = z.2.2.2 t) (hB : B ≤ B') : SP n sn z' B' j i i' := by
  obtain ⟨b, c, ⟨h1, h2, h3⟩, h4, h5, h6⟩ := h
  refine ⟨b, c, ⟨hb.trans h1, hb1.trans h2, by omega⟩, h4, by rw [hs]; exact h5, fun q g2 g3 => ?_⟩
  obtain ⟨k1, k2, k3, k4, k5, k6⟩ := h6 q g2 g3
  exact ⟨k1, k2, k3, k4, k5.trans hs.symm, fun t ht => (k6 t ht).trans (hu (b + t) (by omega)).symm⟩
theorem PA.more {n B B' o e e' : Nat} {sn : Nat → Int32} {z z' : xM4} (h : PA n sn z B o e) (hs : ∀ j, j < o → z'.2.1 j = z.2.1 j) (hb : ∀ j, j ≤ o → z'.2.2.1 j = z.2.2.1 j ∨ o = 0) (hu : ∀ t, t < B → z'.2.2.2 t = z.2.2.2 t) (hB : B ≤ B') (hn : SP n sn z' B' o e e') : PA n sn z' B' (o + 1) e' := by
  obtain ⟨pos, p0, p1, p2⟩ := h
  refine ⟨va_up pos (o + 1) e', (va_up_ne _ _ (by omega)).trans p0, va_up_at, fun j hj => ?_⟩
  rw [va_up_ne _ _ (show j ≠ o + 1 by omega)]
  by_cases c : j = o
  · subst c
    rw [va_up_at, p1]
    exact hn
  · rw [va_up_ne _ _ (show j + 1 ≠ o + 1 by omega)]
    exact (p2 j (by omega)).mono (hs j (by omega)) ((hb j (by omega)).resolve_right (by omega)) ((hb (j + 1) (by omega)).resolve_right (by omega)) hu hB
/-- ahead of an order -/
def QB (n : Nat) (sn : Nat → Int32) (o b i e : Nat) (z : xM4) : Prop :=
  PA n sn z b o e ∧ (z.1 10 = nI n ∧ z.1 11 = nI i ∧ z.1 12 = 0 ∧ z.1 13 = nI o ∧ z.1 14 = nI b) ∧ (0 < o → z.2.2.1 o = nI b) ∧ (b ≤ i ∧ i ≤ n ∧ 2 * o ≤ i) ∧ ((o = 0 ∧ e = 0 ∧ i = 0) ∨ (0 < o ∧ 0 < e ∧ e + 1 = i ∧ Tx sn n e = 59))
/-- behind an order -/
def QA (n : Nat) (sn : Nat → Int32) (o b i : Nat) (z : xM4) : Prop :=
  PA n sn z b o i ∧ (z.1 10 = nI n ∧ z.1 11 = nI i ∧ z.1 12 = 0 ∧ z.1 13 = nI o ∧ z.1 14 = nI b) ∧ z.2.2.1 o = nI b ∧ (b ≤ i ∧ i ≤ n ∧ 2 * o ≤ i) ∧ 0 < o ∧ 0 < i
def QF (n i : Nat) (p : Nat → Int32) (z : xM4) : Prop := i ≤ n ∧ p 2 = nI n ∧ p 3 = nI i ∧ z.1 10 = nI n ∧ z.1 11 = nI i ∧ z.1 12 = 1
theorem Fnext_of {n i e o : Nat} {sn : Nat → Int32} {q : xPS} (hn : n ≤ 80) (he : (o = 0 ∧ e = 0 ∧ i = 0) ∨ (0 < o ∧ 0 < e ∧ e + 1 = i ∧ Tx sn n e = 59)) (h2 : q.1 2 = nI n) (h3 : q.1 3 = nI e) (hi : i ≤ n) :
    ∃ q' : xPS, q'.1 2 = nI n ∧ q'.1 3 = nI i ∧ Fnext sn q = Fone (Fro sn q') := by
  unfold Fnext
  rcases he with ⟨_, h4, h5⟩ | ⟨_, h4, h5, h6⟩
  · refine ⟨q, h2, by rw [h3, h4, h5], ?_⟩
    rw [if_pos (by rw [h3, h4]; exact z0nI.symm)]
  · refine ⟨(Pinc q.1, q.2), h2, (show q.1 3 + 1 = _ by rw [h3, nI_1, h5]), ?_⟩
    have hs := Fsign_T (sn := sn) hn h2 h3 (by omega)
    rw [if_neg (by rw [h3]; exact nI_ne0 (by omega) (by omega))]
    unfold Frs2 Frs Pand
    rw [hs, if_pos h6, if_neg (show ¬ (1 : Int32) = 0 from by decide)]
theorem Mtail_ok {c i : Int32} {b s : Nat → Int32} {r : xMP} (h : r.1 12 = 0) : Mtail c i b s r = (va_up r.1 13 (r.1 13 + 1), va_up s i.toNatClampNeg c, va_up b (i + 1).toNatClampNeg (r.1 14), r.2) := if_pos h
theorem Mtail_no {c i : Int32} {b s : Nat → Int32} {r : xMP} (h : ¬ r.1 12 = 0) : Mtail c i b s r = (r.1, s, b, r.2) := if_neg h
theorem T_ord {n o b i e : Nat} {sn pp : Nat → Int32} {z : xM4} {q : xPS} (hn : n ≤ 80) (hA : ∀ j, j < n → sn j = pp j) (hz : QB n sn o b i e z) (h2 : q.1 2 = nI n) (h3 : q.1 3 = nI i) :
    ((Fro sn q).2 = 1 ∧ ∃ i' b', i + 2 ≤ i' ∧ (Fro sn q).1.1 2 = nI n ∧ (Fro sn q).1.1 3 = nI i' ∧ QA n sn (o + 1) b' i' (Mord pp z)) ∨
    ((Fro sn q).2 = 1 ∧ ∃ i', QF n i' (Fro sn q).1.1 (Mord pp z) ∧ ¬ Fin3 (Tx sn n i') 48 57 = 0) ∨
    ((Fro sn q).2 = 0 ∧ ∃ i', QF n i' (Fro sn q).1.1 (Mord pp z)) := by
  obtain ⟨hp, ⟨z0, z1, z2, z3, z4⟩, hbe, ⟨hbi, hin, hoi⟩, hoe⟩ := hz
  have hx := Mnx_T hn hA z0 z1 hin
  have ho : (z.1 13).toNatClampNeg = o := by rw [z3]; exact nI_clamp (by omega)
  have ho1 : (z.1 13 + 1).toNatClampNeg = o + 1 := by rw [z3, nI_1]; exact nI_clamp (by omega)
  have hall : ∀ q : xPS, q.1 2 = nI n → q.1 3 = nI i → TR True n b sn (Tx sn n i) (nI o) z.2.2.2 (fun i' c' => i + 2 ≤ i' ∧ b + c' ≤ i' ∧ TK (Tx sn n i) c') (Fro sn q) (Mbody pp (Tx sn n i) (va_up z.1 11 (z.1 11 + 1), z.2.2.2)) := fun q g2 g3 => T_ro hn hA hin hbi g2 g3 z0 z1 z2 z3 z4
  have hq := hall q h2 h3
  unfold Mord
  rw [hx, ho]
  generalize Mbody pp (Tx sn n i) (va_up z.1 11 (z.1 11 + 1), z.2.2.2) = r at *
  rcases hq with ⟨f1, ⟨i', c', ⟨g1, g2, g3⟩, tp⟩ | ⟨_, tb⟩⟩ | ⟨f1, tf⟩
  · refine Or.inl ⟨f1, i', b + c', g1, tp.2.1.1, tp.2.1.2.1, ?_⟩
    have r12 : r.1 12 = 0 := tp.2.2.1.2.2.1
    obtain ⟨t1, t2, ⟨r10, r11, _, r13, r14⟩, _, hold⟩ := tp
    rw [Mtail_ok r12, ho, ho1]
    refine ⟨?_, ⟨r10, r11, r12, ?_, r14⟩, ?_, ⟨g2, t1, by omega⟩, by omega, by omega⟩
    · refine PA.more hp (fun j hj => va_up_ne _ _ (by omega)) (fun j hj => ?_) hold (Nat.le_add_right _ _) ?_
      · dsimp only
        rw [va_up_ne _ _ (show j ≠ o + 1 by omega)]
        by_cases c : j = o
        · subst c
          rw [va_up_at, z4]
          rcases Nat.eq_zero_or_pos j with c | c
          · exact Or.inr c
          · exact Or.inl (hbe c).symm
        · exact Or.inl (va_up_ne _ _ c)
      · refine ⟨b, c', ⟨?_, ?_, Nat.le_refl _⟩, ⟨by omega, t1⟩, ?_, fun q' k2 k3 => ?_⟩
        · dsimp only
          rw [va_up_ne _ _ (show o ≠ o + 1 by omega), va_up_at]; exact z4
        · dsimp only
          rw [va_up_at]; exact r14
        · dsimp only
          rw [va_up_at]; exact g3
        · obtain ⟨q'', l2, l3, l4⟩ := Fnext_of hn hoe k2 k3 hin
          rw [l4]
          dsimp only
          rw [va_up_at]
          rcases T_one (hall q'' l2 l3) with ⟨y1, ⟨i'', c'', ⟨_, y8, _⟩, yp⟩ | ⟨_, yb⟩⟩ | ⟨_, yf⟩
          · obtain ⟨y2, ⟨w2, w3, w4, w5⟩, ⟨v10, v11, _, v13, v14⟩, v15, _⟩ := yp
            have ei : i'' = i' := xnIinj (by omega) (by omega) (v11.symm.trans r11)
            have ec : c'' = c' := by
              have h14 : b + c'' = b + c' := xnIinj (by omega) (by omega) (v14.symm.trans r14)
              omega
            subst ei ec
            exact ⟨y1, w2, w3, w4, w5, v15⟩
          · exact absurd r12 yb.f.w
          · exact absurd r12 yf.w
    · show va_up r.1 13 (r.1 13 + 1) 13 = nI (o + 1)
      rw [va_up_at, r13]; exact nI_1 o
    · show va_up (va_up z.2.2.1 o (z.1 14)) (o + 1) (r.1 14) (o + 1) = nI (b + c')
      rw [va_up_at]; exact r14
  · refine Or.inr (Or.inl ⟨f1, ?_⟩)
    obtain ⟨i', y1, y2, y3, y4, y5, y6, y7⟩ := tb
    rw [Mtail_no (by rw [y6]; decide)]
    exact ⟨i', ⟨y1, y2, y3, y4, y5, y6⟩, y7⟩
  · refine Or.inr (Or.inr ⟨f1, ?_⟩)
    obtain ⟨i', y1, y2, y3, y4, y5, y6⟩ := tf
    rw [Mtail_no (by rw [y6]; decide)]
    exact ⟨i', y1, y2, y3, y4, y5, y6⟩
theorem MfLw {pp : Nat → Int32} {k : Nat} {z : xM4} (h : ¬ z.1 12 = 0) : MfL pp k z = z := by
  cases k with
  | zero => rfl
  | succ k => unfold MfL; rw [if_neg h]
theorem MtS_i {n i : Nat} {sn pp f : Nat → Int32} {w : Int32} (hn : n ≤ 80) (hA : ∀ j, j < n → sn j = pp j) (h10 : f 10 = nI n) (h11 : f 11 = nI i) (h12 : f 12 = 0) (hi : i ≤ n) :
    MtS pp w f = if Tx sn n i = w then va_up (va_up f 12 0) 11 (f 11 + 1) else va_up (va_up f 12 1) 11 (f 11 + 0) := by
  unfold MtS
  rw [if_pos h12, Mnx_T hn hA h10 h11 hi]
theorem T_ff {n : Nat} {sn pp : Nat → Int32} (hn : n ≤ 80) (hA : ∀ j, j < n → sn j = pp j) : ∀ (k o b i e : Nat) (z : xM4) (q : xPS), QB n sn o b i e z → q.1 2 = nI n → q.1 3 = nI i → 240 ≤ i + 3 * k →
    (Fff sn k q).2 = MfR (MfL pp k (Mord pp z)) ∧ (Fff sn k q).1.1 2 = nI n ∧ ((MfL pp k (Mord pp z)).1 12 = 0 → ∃ O B, PA n sn (MfL pp k (Mord pp z)) B O n ∧ (MfL pp k (Mord pp z)).1 13 = nI O ∧ 1 ≤ O ∧ O ≤ 40 ∧ B ≤ 80)
  | 0, o, b, i, e, z, q, hz, h2, h3, hk => by have := hz.2.2.2.1.2.1; omega
  | k + 1, o, b, i, e, z, q, hz, h2, h3, hk => by
    unfold Fff
    rcases T_ord hn hA hz h2 h3 with ⟨f1, i', b', g1, g2, g3, hA'⟩ | ⟨f1, i', ⟨g1, g2, g3, g4, g5, g6⟩, g7⟩ | ⟨f1, i', g1, g2, g3, g4, g5, g6⟩
    · have hq := hA'
      obtain ⟨hp, ⟨z0, z1, z2, z3, z4⟩, hbe, ⟨hbi, hin, hoi⟩, ho, hi'⟩ := hq
      rw [f1, if_neg (show ¬ (1 : Int32) = 0 from by decide), g2, g3]
      unfold MfL
      rw [if_pos z2, z0, z1]
      by_cases c : i' < n
      · have hlt : nI i' < nI n := nI_lt c (by omega)
        have hs := Fsign_T (sn := sn) hn g2 g3 hin
        have hm := MtS_i (w := 59) hn hA z0 z1 z2 hin
        rw [if_pos hlt, if_pos hlt]
        unfold Frs2 Frs
        rw [hs, hm]
        by_cases d : Tx sn n i' = 59
        · rw [if_pos d, if_pos d]
          have e1 : ¬ (1 : Int32) = 0 := by decide
          have e2 : (va_up (va_up (Mord pp z).1 12 0) 11 ((Mord pp z).1 11 + 1)) 12 = 0 := rfl
          dsimp only
          rw [if_neg e1, if_pos e2]
          have hB : QB n sn (o + 1) b' (i' + 1) i' (va_up (va_up (Mord pp z).1 12 0) 11 ((Mord pp z).1 11 + 1), (Mord pp z).2) :=
            ⟨hp, ⟨z0, (show (Mord pp z).1 11 + 1 = _ by rw [z1]; exact nI_1 i'), rfl, z3, z4⟩, fun _ => hbe, ⟨by omega, by omega, by omega⟩, Or.inr ⟨ho, hi', rfl, d⟩⟩
          exact T_ff hn hA k (o + 1) b' (i' + 1) i' _ _ hB g2 (show (Fro sn q).1.1 3 + 1 = _ by rw [g3]; exact nI_1 i') (by omega)
        · rw [if_neg d, if_neg d]
          have e2 : ¬ (va_up (va_up (Mord pp z).1 12 1) 11 ((Mord pp z).1 11 + 0)) 12 = 0 := show ¬ (1 : Int32) = 0 from by decide
          dsimp only
          rw [if_pos rfl, if_neg e2, MfLw e2]
          refine ⟨?_, g2, fun y => absurd y e2⟩
          unfold MfR
          rw [if_neg e2]
          show (Fro sn q).1.1 3 = (Mord pp z).1 11 + 0
          rw [xadd0, g3, z1]
      · have hnl : ¬ nI i' < nI n := xngt (by omega) (by omega)
        rw [if_neg hnl, if_neg hnl]
        refine ⟨?_, g2, fun _ => ⟨o + 1, b', ?_, z3, by omega, by omega, by omega⟩⟩
        · unfold MfR; rw [if_pos z2]
        · have : i' = n := by omega
          rw [this] at hp; exact hp
    · have w : ¬ (Mord pp z).1 12 = 0 := by rw [g6]; decide
      have hs := Fsign_T (sn := sn) hn g2 g3 g1
      have hlt : nI i' < nI n := nI_lt (Tx_lt (xdig0 g7)) (by omega)
      have hne : ¬ Fsign sn (Fro sn q).1.1 = 59 := fun y => g7 (by rw [← hs, y]; decide)
      rw [f1, if_neg (show ¬ (1 : Int32) = 0 from by decide), g2, g3, if_pos hlt, MfLw w]
      unfold Frs2 Frs
      rw [if_neg hne]
      dsimp only
      rw [if_pos rfl]
      refine ⟨?_, g2, fun y => absurd y w⟩
      unfold MfR
      rw [if_neg w, g5]; exact g3
    · have w : ¬ (Mord pp z).1 12 = 0 := by rw [g6]; decide
      rw [f1, if_pos rfl, MfLw w]
      refine ⟨?_, g2, fun y => absurd y w⟩
      unfold MfR
      rw [if_neg w, g5]; exact g3
/-- the fault is the same; where there is none, the model has kept what the class reads -/
theorem T_first {n : Nat} {sn pp u : Nat → Int32} {z : xM4} {p : Nat → Int32} (hn : n ≤ 80) (hA : ∀ j, j < n → sn j = pp j) (h2 : p 2 = nI n) (h10 : z.1 10 = nI n) :
    (Ffirst sn (p, u)).2 = MfR (Mfa pp z) ∧ (Ffirst sn (p, u)).1.1 2 = nI n ∧ ((Mfa pp z).1 12 = 0 → ∃ O B, PA n sn (Mfa pp z) B O n ∧ (Mfa pp z).1 13 = nI O ∧ 1 ≤ O ∧ O ≤ 40 ∧ B ≤ 80) := by
  unfold Ffirst Mfa
  refine T_ff hn hA 80 0 0 0 0 _ _ ⟨⟨fun _ => 0, rfl, rfl, fun j hj => absurd hj (Nat.not_lt_zero j)⟩, ⟨h10, z0nI, rfl, z0nI, z0nI⟩, fun y => absurd y (Nat.lt_irrefl 0), ⟨Nat.le_refl _, Nat.zero_le _, Nat.zero_le _⟩, Or.inl ⟨rfl, rfl, rfl⟩⟩ h2 z0nI (by omega)
