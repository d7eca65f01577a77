/-! ===== class and model side by side: goals, modes, an order ===== -/
theorem TB_keep {n : Nat} {sn : Nat → Int32} {q : xPS} {m : xMP} {v : Int32} (h : TB n sn q m) : TB n sn (Kcap v q) (Men v m) := by
  obtain ⟨i, h1, h2, h3, h4, h5, h6, h7⟩ := h
  have hk := Kcap_p (v := v) (q := q)
  exact ⟨i, h1, hk.1.trans h2, hk.2.trans h3, h4, h5, h6, h7⟩
theorem TF_e {n : Nat} {q : xPS} {m : xMP} {v : Int32} (h : TF n q m) : TF n q (Men v m) := by
  obtain ⟨i, h1, h2, h3, h4, h5, h6⟩ := h
  exact ⟨i, h1, h2, h3, h4, h5, h6⟩
theorem TF.w {n : Nat} {q : xPS} {m : xMP} (h : TF n q m) : ¬ m.1 12 = 0 := by
  obtain ⟨i, h1, h2, h3, h4, h5, h6⟩ := h
  rw [h6]; decide
theorem T_goal1 {n b : Nat} {sn pp w0 : Nat → Int32} {kd od : Int32} {i c : Nat} {q : xPS} {m : xMP} (hn : n ≤ 80) (hA : ∀ j, j < n → sn j = pp j) (hc : b + c ≤ i) (h : TP n b kd od w0 i c q m) (hs : Tx sn n i = 62) :
    TR True n b sn kd od w0 (fun i' c' => i + 2 ≤ i' ∧ b + c' ≤ i' ∧ c' = c + 2) (Fgoal1 sn q) (Mg1 pp m) := by
  have h1 := h.inc (Tx_lt (by rw [hs]; decide))
  have h2 := T_N (sn := sn) (pp := pp) hn hA (by omega) h1
  unfold Fgoal1 Mg1
  refine T_and h2 (fun i1 c1 hc1 hp => ?_) (fun _ hb => ?_) (fun hf => ?_)
  · have h12 : (MtN pp (va_up m.1 11 (m.1 11 + 1), m.2)).1 12 = 0 := hp.2.2.1.2.2.1
    have hs1 := TP.sign (sn := sn) hn hp
    have hx1 := TP.next hn hA hp
    rw [hs1, hx1, if_pos h12]
    by_cases e : Tx sn n i1 = 42
    · rw [if_pos e, if_pos e]
      have e2 : Frs2 42 sn (Frn sn (Pinc q.1, q.2)).1 = ((Pinc (Frn sn (Pinc q.1, q.2)).1.1, (Frn sn (Pinc q.1, q.2)).1.2), 1) := by
        unfold Frs2 Frs
        rw [hs1, if_pos e]
      have e3 : Pand (Frs2 42 sn (Frn sn (Pinc q.1, q.2)).1) (fun z => Fone (Frn sn z)) = Fone (Frn sn (Pinc (Frn sn (Pinc q.1, q.2)).1.1, (Frn sn (Pinc q.1, q.2)).1.2)) := by
        rw [e2]; unfold Pand; rw [if_neg (show ¬ (1 : Int32) = 0 from by decide)]
      rw [e3]
      exact T_weak (T_one (T_N hn hA (by omega) (hp.inc (Tx_lt (by rw [e]; decide))))) (fun z => z) (fun i' c' z => ⟨by omega, by omega, by omega⟩)
    · rw [if_neg e, if_neg e]
      exact Or.inl ⟨rfl, Or.inl ⟨i1, c1 + 1, ⟨by omega, by omega, by omega⟩, T_keep hn (by omega) hp⟩⟩
  · have hb2 := hb.f.w
    have hs1 := hb.sign hn
    rw [if_neg hb2, if_neg (fun z => hs1 (by rw [z]; decide))]
    exact Or.inl ⟨rfl, Or.inr ⟨trivial, TB_keep hb⟩⟩
  · rw [if_neg hf.w]
    exact TF_e hf
theorem MwLw {pp : Nat → Int32} {k : Nat} {q : xMP} (h : ¬ q.1 12 = 0) : MwL pp k q = q := by
  cases k with
  | zero => rfl
  | succ k => unfold MwL; rw [if_neg h]
theorem TB_goals {n b : Nat} {sn pp w0 : Nat → Int32} {kd od : Int32} {E : Nat → Nat → Prop} {q : xPS} {m : xMP} (hn : n ≤ 80) (k : Nat) (h : TB n sn q m) : TR True n b sn kd od w0 E (Fgoals sn k q) (MwL pp k m) := by
  rw [MwLw h.f.w]
  have hs := h.sign hn
  cases k with
  | zero => exact Or.inl ⟨rfl, Or.inr ⟨trivial, h⟩⟩
  | succ k =>
    unfold Fgoals
    rw [if_neg (fun z => hs (by rw [z]; decide))]
    exact Or.inl ⟨rfl, Or.inr ⟨trivial, h⟩⟩
theorem T_goals {n b : Nat} {sn pp w0 : Nat → Int32} {kd od : Int32} (hn : n ≤ 80) (hA : ∀ j, j < n → sn j = pp j) : ∀ (k i c : Nat) (q : xPS) (m : xMP), b + c ≤ i → TP n b kd od w0 i c q m →
    TR True n b sn kd od w0 (fun i' c' => i ≤ i' ∧ b + c' ≤ i' ∧ ∃ t, c' = c + 2 * t) (Fgoals sn k q) (MwL pp k m)
  | 0, i, c, q, m, hc, h => Or.inl ⟨rfl, Or.inl ⟨i, c, ⟨Nat.le_refl _, hc, 0, by omega⟩, h⟩⟩
  | k + 1, i, c, q, m, hc, h => by
    have hs := TP.sign (sn := sn) hn h
    have hx := TP.next hn hA h
    have h12 : m.1 12 = 0 := h.2.2.1.2.2.1
    unfold Fgoals MwL
    rw [hs, hx, if_pos h12]
    by_cases e : Tx sn n i = 62
    · rw [if_pos e, if_pos e]
      rcases T_goal1 hn hA hc h e with ⟨z, ⟨i1, c1, ⟨hi1, hc1, hc2⟩, hp⟩ | ⟨_, hb⟩⟩ | ⟨z, hf⟩
      · rw [z, if_neg (by decide)]
        exact T_weak (T_goals hn hA k i1 c1 _ _ hc1 hp) (fun z => z) (fun i' c' y => ⟨by omega, y.2.1, by obtain ⟨t, ht⟩ := y.2.2; exact ⟨t + 1, by omega⟩⟩)
      · rw [z, if_neg (by decide)]
        exact TB_goals hn k hb
      · rw [z, if_pos rfl, MwLw hf.w]
        exact Or.inr ⟨rfl, hf⟩
    · rw [if_neg e, if_neg e]
      exact Or.inl ⟨rfl, Or.inl ⟨i, c, ⟨Nat.le_refl _, hc, 0, by omega⟩, h⟩⟩
theorem TF_W {n : Nat} {q : xPS} {m : xMP} {pp : Nat → Int32} {k : Nat} (h : TF n q m) : TF n q (MwL pp k m) := by
  rw [MwLw h.w]
  exact h
theorem T_W {n b : Nat} {sn pp w0 : Nat → Int32} {kd od : Int32} {i c : Nat} {q : xPS} {m : xMP} (hn : n ≤ 80) (hA : ∀ j, j < n → sn j = pp j) (hc : b + c ≤ i) (h : TP n b kd od w0 i c q m) :
    TR True n b sn kd od w0 (fun i' c' => i + 1 ≤ i' ∧ b + c' ≤ i' ∧ ∃ t, c' = c + 2 + 2 * t) (Pand (Frn sn q) (fun z => Pand (Frs2 47 sn z) (fun z => Pand (Frn sn z) (fun z => Fone (Fgoals sn 80 z))))) (MtW pp m) := by
  unfold MtW Mhd
  refine T_and (T_N hn hA hc h) (fun i1 c1 h1 p1 => ?_) (fun _ hb => ?_) (fun hf => TF_W (TF_N (TF_S hf)))
  · refine T_and (T_S hn hA (show ¬ (47 : Int32) = 0 by decide) p1) (fun i2 c2 h2 p2 => ?_) (fun z => absurd z id) (fun hf => TF_W (TF_N hf))
    refine T_and (T_N hn hA (by omega) p2) (fun i3 c3 h3 p3 => ?_) (fun _ hb => T_one (TB_goals hn 80 hb)) (fun hf => TF_W hf)
    exact T_weak (T_one (T_goals hn hA 80 i3 c3 _ _ (by omega) p3)) (fun z => z) (fun i' c' y => ⟨by omega, y.2.1, by obtain ⟨t, ht⟩ := y.2.2; exact ⟨t, by omega⟩⟩)
  · refine T_and (TB_S (D := False) (E := fun _ _ => False) hn (by decide) hb) (fun _ _ z => absurd z id) (fun z => absurd z id) (fun hf => TF_W (TF_N hf))
theorem xmode {c : Int32} (h : ¬ Fin3 c 48 50 = 0) : ¬ c < 48 ∧ c ≤ 50 := by
  unfold Fin3 at h
  by_cases h1 : c < 48
  · rw [if_pos h1] at h; exact absurd rfl h
  · rw [if_neg h1] at h
    by_cases h2 : 50 < c
    · rw [if_pos h2] at h; exact absurd rfl h
    · exact ⟨h1, Int32.not_lt.mp h2⟩
theorem T_mode {n b : Nat} {sn pp w0 : Nat → Int32} {kd od : Int32} {i c : Nat} {q : xPS} {m : xMP} (hn : n ≤ 80) (hA : ∀ j, j < n → sn j = pp j) (hc : b + c < i) (h : TP n b kd od w0 i c q m) :
    TR False n b sn kd od w0 (fun i' c' => i' = i + 1 ∧ c' = c + 1) (Frm sn q) (if m.1 12 = 0 then (if Fin3 (Mnx pp m.1) 48 50 = 0 then (va_up m.1 12 1, m.2) else
      (va_up (Men (Mnx pp (va_up m.1 12 0) - 48) (va_up m.1 12 0, m.2)).1 11 ((Men (Mnx pp (va_up m.1 12 0) - 48) (va_up m.1 12 0, m.2)).1 11 + 1), (Men (Mnx pp (va_up m.1 12 0) - 48) (va_up m.1 12 0, m.2)).2)) else (va_up m.1 12 1, m.2)) := by
  have h12 : m.1 12 = 0 := h.2.2.1.2.2.1
  have hs := TP.sign (sn := sn) hn h
  have hx := TP.next hn hA h
  have hx0 : Mnx pp (va_up m.1 12 0) = Mnx pp m.1 := rfl
  unfold Frm
  rw [hs, hx0, hx, if_pos h12]
  by_cases e : Fin3 (Tx sn n i) 48 50 = 0
  · rw [if_pos e]
    have hfl : TF n q (va_up m.1 12 1, m.2) := ⟨i, h.1, h.2.1.1, h.2.1.2.1, h.2.2.1.1, h.2.2.1.2.1, rfl⟩
    by_cases e1 : Tx sn n i < 48
    · rw [if_pos e1]; exact Or.inr ⟨rfl, hfl⟩
    · rw [if_neg e1]
      by_cases e2 : Tx sn n i ≤ 50
      · exact absurd e (by unfold Fin3; rw [if_neg e1, if_neg (Int32.not_lt.mpr e2)]; decide)
      · rw [if_neg e2]; exact Or.inr ⟨rfl, hfl⟩
  · obtain ⟨e1, e2⟩ := xmode e
    rw [if_neg e, if_neg e1, if_pos e2]
    have hi2 : i < n := Tx_lt (fun z => e1 (by rw [z]; decide))
    generalize Tx sn n i - 48 = v
    have p3 := (T_keep (v := v) hn hc h.f0).inc hi2
    have ek : (Pinc (Pcap q.1), Ncap v q.1 q.2) = (Pinc (Kcap v q).1, (Kcap v q).2) := rfl
    rw [ek]
    exact Or.inl ⟨rfl, Or.inl ⟨i + 1, c + 1, ⟨rfl, rfl⟩, p3⟩⟩
theorem T_M {n b : Nat} {sn pp w0 : Nat → Int32} {kd od : Int32} {i c : Nat} {q : xPS} {m : xMP} (hn : n ≤ 80) (hA : ∀ j, j < n → sn j = pp j) (hc : b + c ≤ i) (h : TP n b kd od w0 i c q m) :
    TR True n b sn kd od w0 (fun i' c' => i + 1 ≤ i' ∧ b + c' ≤ i' ∧ c' = c + 2) (Pand (Frn sn q) (fun z => Pand (Frs2 61 sn z) (fun z => Fone (Frm sn z)))) (MtM pp m) := by
  have hw : ∀ z : xPS, TF n z (Mhd pp 61 m) → TF n z (MtM pp m) := fun z hf => by
    unfold MtM
    rw [if_neg hf.w]
    obtain ⟨i, h1, h2, h3, h4, h5, h6⟩ := hf
    exact ⟨i, h1, h2, h3, h4, h5, rfl⟩
  refine T_and (T_N hn hA hc h) (fun i1 c1 h1 p1 => ?_) (fun _ hb => ?_) (fun hf => hw _ (TF_S hf))
  · refine T_and (T_S hn hA (show ¬ (61 : Int32) = 0 by decide) p1) (fun i2 c2 h2 p2 => ?_) (fun z => absurd z id) (fun hf => hw _ hf)
    have p2' : TP n b kd od w0 i2 c2 (Frs2 61 sn (Frn sn q).1).1 (Mhd pp 61 m) := p2
    exact T_weak (T_one (T_mode hn hA (by omega) p2')) (fun z => absurd z id) (fun i' c' y => ⟨by omega, by omega, by omega⟩)
  · refine T_and (TB_S (D := False) (E := fun _ _ => False) hn (by decide) hb) (fun _ _ z => absurd z id) (fun z => absurd z id) (fun hf => hw _ hf)
def TK (kd : Int32) (c : Nat) : Prop := (kd = 99 ∧ 1 ≤ c) ∨ (kd = 116 ∧ 1 ≤ c) ∨ (kd = 109 ∧ 2 ≤ c) ∨ (kd = 119 ∧ ∃ t, c = 2 + 2 * t)
theorem T_ro {n b i : Nat} {sn pp f u : Nat → Int32} {od : Int32} {q : xPS} (hn : n ≤ 80) (hA : ∀ j, j < n → sn j = pp j) (hi : i ≤ n) (hb : b ≤ i) (h2 : q.1 2 = nI n) (h3 : q.1 3 = nI i) (h10 : f 10 = nI n) (h11 : f 11 = nI i) (h12 : f 12 = 0) (h13 : f 13 = od) (h14 : f 14 = nI b) :
    TR True n b sn (Tx sn n i) od u (fun i' c' => i + 2 ≤ i' ∧ b + c' ≤ i' ∧ TK (Tx sn n i) c') (Fro sn q) (Mbody pp (Tx sn n i) (va_up f 11 (f 11 + 1), u)) := by
  have hs := Fsign_T (sn := sn) hn h2 h3 hi
  unfold Fro Mbody
  rw [hs]
  have hP : i < n → TP n b (Tx sn n i) od u (i + 1) 0 (Pinc (va_up (va_up q.1 4 0) 5 (Tx sn n i)), q.2) (va_up f 11 (f 11 + 1), u) := fun hlt =>
    ⟨hlt, ⟨h2, (show q.1 3 + 1 = _ by rw [h3]; exact nI_1 i), z0nI, rfl⟩, ⟨h10, (show f 11 + 1 = _ by rw [h11]; exact nI_1 i), h12, h13, h14⟩, fun j hj => absurd hj (Nat.not_lt_zero j), fun _ _ => rfl⟩
  have hk : ∀ (w : Int32) (g : xPS → xPS × Int32), Tx sn n i = w → Pand (Frs2 w sn (va_up (va_up q.1 4 0) 5 (Tx sn n i), q.2)) g = g (Pinc (va_up (va_up q.1 4 0) 5 (Tx sn n i)), q.2) := fun w g e => by
    have hs2 : Fsign sn (va_up (va_up q.1 4 0) 5 (Tx sn n i)) = Fsign sn q.1 := rfl
    unfold Frs2 Frs Pand
    rw [hs2, hs, if_pos e, if_neg (show ¬ (1 : Int32) = 0 from by decide)]
  by_cases c1 : Tx sn n i = 99
  · have hlt := Tx_lt (s := sn) (n := n) (i := i) (by rw [c1]; decide)
    rw [if_pos c1, if_pos c1, hk 99 _ c1]
    exact T_weak (T_one (T_N hn hA (by omega) (hP hlt))) (fun z => z) (fun i' c' y => ⟨by omega, by omega, Or.inl ⟨c1, by omega⟩⟩)
  · rw [if_neg c1, if_neg c1]
    by_cases c2 : Tx sn n i = 109
    · have hlt := Tx_lt (s := sn) (n := n) (i := i) (by rw [c2]; decide)
      rw [if_pos c2, if_pos c2, hk 109 _ c2]
      exact T_weak (T_M hn hA (by omega) (hP hlt)) (fun z => z) (fun i' c' y => ⟨by omega, by omega, Or.inr (Or.inr (Or.inl ⟨c2, by omega⟩))⟩)
    · rw [if_neg c2, if_neg c2]
      by_cases c3 : Tx sn n i = 116
      · have hlt := Tx_lt (s := sn) (n := n) (i := i) (by rw [c3]; decide)
        rw [if_pos c3, if_pos c3, hk 116 _ c3]
        exact T_weak (T_one (T_N hn hA (by omega) (hP hlt))) (fun z => z) (fun i' c' y => ⟨by omega, by omega, Or.inr (Or.inl ⟨c3, by omega⟩)⟩)
      · rw [if_neg c3, if_neg c3]
        by_cases c4 : Tx sn n i = 119
        · have hlt := Tx_lt (s := sn) (n := n) (i := i) (by rw [c4]; decide)
          rw [if_pos c4, if_pos c4, hk 119 _ c4]
          exact T_weak (T_W hn hA (by omega) (hP hlt)) (fun z => z) (fun i' c' y => ⟨by omega, y.2.1, Or.inr (Or.inr (Or.inr ⟨c4, by obtain ⟨t, ht⟩ := y.2.2; exact ⟨t, by omega⟩⟩))⟩)
        · rw [if_neg c4, if_neg c4]
          refine Or.inr ⟨rfl, i, hi, h2, h3, h10, ?_, rfl⟩
          show f 11 + 1 - 1 = nI i
          rw [x1m]; exact h11
