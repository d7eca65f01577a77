/-! ===== class and model side by side: orders carried out ===== -/
theorem ZS.mw {σ : xS} {sg : Nat → Int32} {M U V : Nat → Nat → Int32} (z : ZS σ sg M U V) : ∀ j, j < 8 → MW (V j) := by
  intro j hj
  rcases Nat.lt_or_ge j (σ 0 0 6).toNatClampNeg with c | c
  · obtain ⟨⟨_, _, _, b3, _⟩, _, _, g, hg, e2, _⟩ := z.2.2.2.2.1 j c
    have e : V j 3 = nI g := b3.trans e2
    unfold MW
    rw [e, nI_clamp (by omega)]
    exact ⟨rfl, hg⟩
  · have e : V j 3 = 0 := z.2.2.2.2.2.2.2 j c hj 3 (by decide)
    unfold MW
    rw [e]
    exact ⟨by decide, by decide⟩
theorem ZS.ok {σ : xS} {sg g h : Nat → Int32} {M U V : Nat → Nat → Int32} (hk : Sok σ) (z : ZS σ sg M U V) : Mok (cN σ) (cH σ) (sg, M, U, V, g, h) := by
  obtain ⟨n1, n2, n3⟩ := ZS.n4 hk z
  have h8 : cW σ ≤ 8 := hk.1.2.2.2.2.2
  refine ⟨n1, n2, ?_, ?_, z.mw⟩
  · show sg 9 = nI (sg 9).toNatClampNeg
    rw [n3, nI_clamp (by omega)]
  · show (sg 9).toNatClampNeg ≤ 8
    rw [n3, nI_clamp (by omega)]
    exact h8
theorem cN_of {σ : xS} {sg : Nat → Int32} {M U V : Nat → Nat → Int32} {n nh : Nat} (hk : Sok σ) (z : ZS σ sg M U V) (h7 : sg 7 = nI n) (h8 : sg 8 = nI nh) (hn : n ≤ 16) (hh : nh ≤ 8) : cN σ = n ∧ cH σ = nh := by
  obtain ⟨n1, n2, n3⟩ := ZS.n4 hk z
  have h1 : cN σ ≤ 16 := hk.1.2.1
  have h2 : cH σ ≤ 8 := hk.1.2.2.2.1
  exact ⟨xnIinj (by omega) (by omega) (n1.symm.trans h7), xnIinj (by omega) (by omega) (n2.symm.trans h8)⟩
theorem Fticks_7 {n nh nw : Nat} {s : Nat → Int32} : ∀ (k i : Nat) (q : xS6) (τ : Nat), q.1 7 = nI τ → (xloop (fun _ z => Ftick n nh nw s z) k i q).1 7 = nI (τ + k)
  | 0, _, _, _, h => h
  | k + 1, i, q, τ, h => by
    have := Fticks_7 (n := n) (nh := nh) (nw := nw) (s := s) k (i + 1) (Ftick n nh nw s q) (τ + 1) ((show va_up q.1 7 (q.1 7 + 1) 7 = nI (τ + 1) from by rw [va_up_at, h, nI_1]))
    rw [show τ + (k + 1) = τ + 1 + k by omega]
    exact this
theorem ZB_pass {B : Nat} {x : Int32} {σ : xS} (h : ZB B σ) : ZB (B + 200) (s_letPass x σ) := by
  obtain ⟨τ, h1, h2⟩ := h
  by_cases c : Fin3 x 1 200 = 0
  · refine ⟨τ, by omega, ?_⟩
    show (Fpass (cN σ) (cH σ) (cW σ) (σ 1 0) x (σ 0 0, σ 2, σ 3, σ 4, σ 5, σ 6)).1 7 = _
    unfold Fpass
    rw [if_pos c]
    exact h2
  · have hx := xfin1 200 rfl (by decide) c
    refine ⟨τ + x.toNatClampNeg, by omega, ?_⟩
    show (Fpass (cN σ) (cH σ) (cW σ) (σ 1 0) x (σ 0 0, σ 2, σ 3, σ 4, σ 5, σ 6)).1 7 = _
    unfold Fpass
    rw [if_neg c]
    exact Fticks_7 _ 0 _ τ h2
theorem ZB.le {B B' : Nat} {σ : xS} (h : ZB B σ) (hb : B ≤ B') : ZB B' σ := by
  obtain ⟨τ, h1, h2⟩ := h
  exact ⟨τ, by omega, h2⟩
theorem ZB.of {B : Nat} {σ σ' : xS} (h : ZB B σ) (e : σ' 0 0 7 = σ 0 0 7) : ZB B σ' := by
  obtain ⟨τ, h1, h2⟩ := h
  exact ⟨τ, h1, e.trans h2⟩
theorem walk_7 {x y : Int32} {σ : xS} : s_addWalker x y σ 0 0 7 = σ 0 0 7 := by
  show Fwalker x y (cW σ) (σ 0 0) (σ 0 0) (va_up (σ 0 0) 6 (nI (cW σ) + 1)) 7 = σ 0 0 7
  unfold Fwalker
  split
  · rfl
  · split
    · rfl
    · split <;> rfl
theorem give_7 {nb : Nat → Int32} {w : Int32} {n : Nat} : ∀ (k i : Nat) (q : xS × Int32), (Fgive nb w n k i q).1 0 0 7 = q.1 0 0 7
  | 0, _, _ => rfl
  | k + 1, i, q => by
    unfold Fgive
    split
    · rfl
    · split
      · rfl
      · exact (give_7 k (i + 2) _).trans rfl
theorem ZB_order {B : Nat} {pf nb : Nat → Int32} {σ : xS} (h : ZB B σ) : ZB (B + 200) (sOrder pf nb σ).1 := by
  unfold sOrder
  split
  · exact (h.of (σ' := s_coughByOrder (nb 0) σ) rfl).le (by omega)
  · split
    · exact (h.of (σ' := s_mendLamp (nb 0) (nb 1) σ) rfl).le (by omega)
    · split
      · exact ZB_pass h
      · split
        · exact (h.of (σ' := (sWin pf nb σ).1) ((give_7 40 2 _).trans walk_7)).le (by omega)
        · exact h.le (by omega)
theorem Z_give {u nb sg : Nat → Int32} {M U : Nat → Nat → Int32} {w : Int32} {b c : Nat} (hc : ∃ t, c = 2 * t) (hb : b + c ≤ 80) (hu : ∀ j, j < c → nb j = u (b + j)) : ∀ (k i : Nat) (σ : xS) (Y : Nat → Nat → Int32) (r : Int32), (∃ s, i = 2 * s) → i + 2 * k ≤ 200 → Sok σ → ZS σ sg M U Y →
    (Fgive nb w c k i (σ, r)).2 = (Mgive u (sg 9) w (b + c) k (b + i) (Y, r)).2 ∧ ZS (Fgive nb w c k i (σ, r)).1 sg M U (Mgive u (sg 9) w (b + c) k (b + i) (Y, r)).1
  | 0, _, _, _, _, _, _, _, z => ⟨rfl, z⟩
  | k + 1, i, σ, Y, r, hi, hik, hk, z => by
    unfold Fgive Mgive
    by_cases d : c ≤ i
    · have d1 : nI c ≤ nI (i + 1) := (xnle_iff (by omega) (by omega)).mpr (by omega)
      have d2 : nI (b + c) ≤ nI (b + i) := (xnle_iff (by omega) (by omega)).mpr (by omega)
      rw [if_pos d1, if_pos d2]
      exact ⟨rfl, z⟩
    · have d1 : ¬ nI c ≤ nI (i + 1) := fun y => by
        have := (xnle_iff (by omega) (by omega)).mp y
        obtain ⟨t, ht⟩ := hc
        obtain ⟨s, hs⟩ := hi
        omega
      have d2 : ¬ nI (b + c) ≤ nI (b + i) := fun y => by
        have := (xnle_iff (by omega) (by omega)).mp y
        omega
      rw [if_neg d1, if_neg d2]
      dsimp only
      by_cases e : r < 0
      · rw [if_pos e, if_pos e]; exact ⟨rfl, z⟩
      · have hi1 : i + 1 < c := by
          obtain ⟨t, ht⟩ := hc
          obtain ⟨s, hs⟩ := hi
          omega
        obtain ⟨g1, g2⟩ := Z_goal (x := w) (a := nb i) (b := nb (i + 1)) hk z
        rw [if_neg e, if_neg e, g1]
        rw [hu i (by omega), hu (i + 1) hi1, show b + (i + 1) = b + i + 1 by omega] at g2 ⊢
        exact Z_give hc hb hu k (i + 2) _ _ _ (by obtain ⟨s, hs⟩ := hi; exact ⟨s + 1, by omega⟩) (by omega) (Sok_giveGoal hk) g2
def ZM (σ : xS) (q : xM6) : Prop := ZS σ q.1 q.2.1 q.2.2.1 q.2.2.2.1
theorem Z_car {n nh k b c : Nat} {pf nb s t u : Nat → Int32} {σ : xS} {q : xM6} (hk : Sok σ) (z : ZM σ q) (hn : cN σ = n) (hh : cH σ = nh) (h4 : pf 4 = nI c) (h5 : pf 5 = s k) (ht : t k = nI b) (ht1 : t (k + 1) = nI (b + c)) (hb : b + c ≤ 80) (hK : TK (s k) c) (hu : ∀ j, j < c → nb j = u (b + j)) :
    (sOrder pf nb σ).2 = (Mcar n nh s t u k q).2 ∧ ZM (sOrder pf nb σ).1 (Mcar n nh s t u k q).1 := by
  subst hn hh
  have w9 : (q.1 9).toNatClampNeg = cW σ := by
    have h8 : cW σ ≤ 8 := hk.1.2.2.2.2.2
    rw [(ZS.n4 hk z).2.2]; exact nI_clamp (by omega)
  unfold sOrder Mcar
  rw [h5, ht, ht1, nI_clamp (by omega), nI_clamp (by omega), w9]
  rcases hK with ⟨e, hc⟩ | ⟨e, hc⟩ | ⟨e, hc⟩ | ⟨e, hc⟩
  · rw [e, if_pos rfl, if_pos rfl, hu 0 (by omega)]
    obtain ⟨g1, g2⟩ := Z_cough (x := u (b + 0)) hk z
    exact ⟨g1, g2⟩
  · have e1 : ¬ (116 : Int32) = 99 := by decide
    have e2 : ¬ (116 : Int32) = 109 := by decide
    have e3 : ¬ (116 : Int32) = 119 := by decide
    rw [e, if_neg e1, if_neg e2, if_pos rfl, if_neg e1, if_neg e2, if_neg e3, hu 0 (by omega)]
    obtain ⟨g1, g2⟩ := Z_letPass (g := q.2.2.2.2.1) (h := q.2.2.2.2.2) (x := u (b + 0)) hk z
    exact ⟨g1, g2⟩
  · have e1 : ¬ (109 : Int32) = 99 := by decide
    rw [e, if_neg e1, if_pos rfl, if_neg e1, if_pos rfl, hu 0 (by omega), hu 1 (by omega)]
    obtain ⟨g1, g2⟩ := Z_mend (x := u (b + 0)) (h := u (b + 1)) hk z
    exact ⟨g1, g2⟩
  · have e1 : ¬ (119 : Int32) = 99 := by decide
    have e2 : ¬ (119 : Int32) = 109 := by decide
    have e3 : ¬ (119 : Int32) = 116 := by decide
    rw [e, if_neg e1, if_neg e2, if_neg e3, if_pos rfl, if_neg e1, if_neg e2, if_pos rfl]
    obtain ⟨t', ht'⟩ := hc
    obtain ⟨g1, g2⟩ := Z_walker (x := u b) (y := u (b + 1)) hk z
    unfold sWin Msend
    have e0 := hu 0 (by omega)
    rw [Nat.add_zero] at e0
    rw [h4, nI_clamp (by omega), e0, hu 1 (by omega), g1]
    exact Z_give (sg := Msw (u b) (u (b + 1)) (cW σ) q.1) ⟨t' + 1, by omega⟩ hb hu 40 2 _ _ _ ⟨1, rfl⟩ (by omega) (Sok_addWalker hk) g2
theorem Z_done {n n' nh O B : Nat} {sn : Nat → Int32} {z : xM4} {pos : Nat → Nat} (hn : n ≤ 80) (hn' : n' ≤ 16) (hh' : nh ≤ 8) (hB : B ≤ 80) (hO1 : 1 ≤ O) (hO : O ≤ 80) (hp : ∀ j, j < O → SP n sn z B j (pos j) (pos (j + 1))) (he : pos O = n) :
    ∀ (m j k T : Nat) (σ : xS) (q : xPS) (y : xM6), j + m = O → m < k → q.1 2 = nI n → q.1 3 = nI (pos j) → Sok σ → ZM σ y → cN σ = n' → cH σ = nh → ZB T σ →
      (Fdone sn k j (σ, q)).2 = (MdoL n' nh z.2.1 z.2.2.1 z.2.2.2 m j y).2 ∧ (Sok (Fdone sn k j (σ, q)).1.1 ∧ ZM (Fdone sn k j (σ, q)).1.1 (MdoL n' nh z.2.1 z.2.2.1 z.2.2.2 m j y).1 ∧ ZB (T + 200 * m) (Fdone sn k j (σ, q)).1.1) ∧ ∃ d, d ≤ 80 ∧ (Fdone sn k j (σ, q)).2 = nI d
  | 0, j, k, T, σ, q, y, hj, hm, h2, h3, hk, hz, hN, hH, hT => by
    obtain ⟨k, rfl⟩ : ∃ k', k = k' + 1 := ⟨k - 1, by omega⟩
    have ej : j = O := by omega
    subst ej
    have hpos : 0 < n := by
      obtain ⟨j', rfl⟩ : ∃ j', j = j' + 1 := ⟨j - 1, by omega⟩
      obtain ⟨b, c, _, h4, _⟩ := hp j' (by omega)
      omega
    rw [he] at h3
    have hs := Fsign_T (sn := sn) hn h2 h3 (Nat.le_refl n)
    have hx : Tx sn n n = 0 := if_neg (Nat.lt_irrefl n)
    have hnx : (Fnext sn q).2 = 0 := by
      unfold Fnext
      rw [if_neg (by rw [h3]; exact nI_ne0 (by omega) (by omega))]
      unfold Frs2 Frs Pand
      rw [hs, hx, if_neg (show ¬ (0 : Int32) = 59 from by decide), if_pos rfl]
    have e : Fdone sn (k + 1) j (σ, q) = ((σ, (Fnext sn q).1), nI j) := by
      show (if (Fnext sn q).2 = 0 then _ else _) = _
      rw [if_pos hnx]
    rw [e]
    exact ⟨rfl, ⟨hk, hz, hT⟩, j, hO, rfl⟩
  | m + 1, j, k, T, σ, q, y, hj, hm, h2, h3, hk, hz, hN, hH, hT => by
    obtain ⟨k, rfl⟩ : ∃ k', k = k' + 1 := ⟨k - 1, by omega⟩
    obtain ⟨b, c, ⟨a1, a2, a3⟩, a4, a5, a6⟩ := hp j (by omega)
    obtain ⟨f1, f2, f3, f4, f5, f6⟩ := a6 q h2 h3
    have hc := Z_car (n := n') (nh := nh) (k := j) (b := b) (c := c) (pf := (Fnext sn q).1.1) (nb := (Fnext sn q).1.2) (s := z.2.1) (t := z.2.2.1) (u := z.2.2.2) hk hz hN hH f4 f5 a1 a2 (by omega) a5 f6
    have hS : Sok (sOrder (Fnext sn q).1.1 (Fnext sn q).1.2 σ).1 := Sok_order hk
    have hTT : ZB (T + 200) (sOrder (Fnext sn q).1.1 (Fnext sn q).1.2 σ).1 := ZB_order hT
    have hM : Mok n' nh (Mcar n' nh z.2.1 z.2.2.1 z.2.2.2 j y).1 := Mok_car (by
      have := ZS.ok (g := y.2.2.2.2.1) (h := y.2.2.2.2.2) hk hz
      rw [hN, hH] at this
      exact this)
    have hNH := cN_of hS hc.2 hM.1 hM.2.1 hn' hh'
    unfold Fdone MdoL
    dsimp only
    rw [f1, if_neg (show ¬ (1 : Int32) = 0 from by decide), hc.1]
    by_cases e : (Mcar n' nh z.2.1 z.2.2.1 z.2.2.2 j y).2 < 0
    · rw [if_pos e, if_pos e]
      exact ⟨rfl, ⟨hS, hc.2, hTT.le (by omega)⟩, j, by omega, rfl⟩
    · rw [if_neg e, if_neg e]
      have ih := Z_done hn hn' hh' hB hO1 hO hp he m (j + 1) k (T + 200) _ (Fnext sn q).1 _ (by omega) (by omega) f2 f3 hS hc.2 hNH.1 hNH.2 hTT
      refine ⟨ih.1, ⟨ih.2.1.1, ih.2.1.2.1, ih.2.1.2.2.le (by omega)⟩, ih.2.2⟩
