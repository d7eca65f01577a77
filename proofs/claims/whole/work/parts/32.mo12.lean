/-! ===== the model: orders are carried out ===== -/
theorem Mwk_same {α : Type} {x y : Int32} {n : Nat} {A : α} : Mwk x y n A A A = A := by unfold Mwk; split <;> (try split) <;> (try split) <;> rfl
theorem Mgl_same {α : Type} {s x a b : Int32} {g : Nat} {ω : Nat → Int32} {A : α} : Mgl s x a b g ω A A A A A = A := by unfold Mgl; split <;> (try split) <;> (try split) <;> (try split) <;> (try split) <;> rfl
theorem Mmd_same {α : Type} {s x h : Int32} {A : α} : Mmd s x h A A A = A := by unfold Mmd; split <;> (try split) <;> rfl
theorem Mcg_same {α : Type} {s x : Int32} {L : Nat → Nat → Int32} {A : α} : Mcg s x L A A A = A := by unfold Mcg; split <;> (try split) <;> rfl
theorem Mtk_same {α : Type} {x : Int32} {A : α} : Mtk x A A = A := by unfold Mtk; split <;> rfl
theorem Mwk_9 {x y : Int32} {nw : Nat} {sg : Nat → Int32} (hw : sg 9 = nI nw) : (Mwk x y nw sg sg (va_up sg 9 (nI (nw + 1)))) 9 = nI (Mwk x y nw nw nw (nw + 1)) := by
  unfold Mwk
  split
  · exact hw
  · split
    · exact hw
    · split
      · exact hw
      · rfl
theorem Mwk_98 {x y : Int32} {nw : Nat} (hw : nw ≤ 8) : Mwk x y nw nw nw (nw + 1) ≤ 8 := by
  unfold Mwk
  split
  · exact hw
  · split
    · exact hw
    · split
      · exact hw
      · rename_i h
        have := xnIne 8 rfl h
        omega
theorem Mwk_78 {x y : Int32} {nw w : Nat} {sg : Nat → Int32} (h9 : w ≠ 9) : (Mwk x y nw sg sg (va_up sg 9 (nI (nw + 1)))) w = sg w := by
  unfold Mwk
  split
  · rfl
  · split
    · rfl
    · split
      · rfl
      · exact va_up_ne _ _ h9
def MwkY (x y : Int32) (nw : Nat) (Y : Nat → Nat → Int32) : Nat → Nat → Int32 := Mwk x y nw Y Y (va_up Y nw (va_up (va_up (va_up (Y nw) 0 x) 1 y) 4 (-6)))
theorem MW_wk {x y : Int32} {nw : Nat} {Y : Nat → Nat → Int32} (hY : ∀ j, j < 8 → MW (Y j)) : ∀ j, j < 8 → MW (MwkY x y nw Y j) := by
  unfold MwkY Mwk
  split
  · exact hY
  · split
    · exact hY
    · split
      · exact hY
      · exact MW_up' hY (fun h => (hY _ h).of (by simp [va_up]))
def MglY (s x a b : Int32) (Y : Nat → Nat → Int32) : Nat → Nat → Int32 := Mgl s x a b (Y x.toNatClampNeg 3).toNatClampNeg (Y x.toNatClampNeg) Y Y Y Y (va_up Y x.toNatClampNeg (Maddg a b (Y x.toNatClampNeg 3).toNatClampNeg (Y x.toNatClampNeg)))
def MglR (s x a b : Int32) (Y : Nat → Nat → Int32) : Int32 := Mgl s x a b (Y x.toNatClampNeg 3).toNatClampNeg (Y x.toNatClampNeg) (-1) (-2) (-4) (-5) (nI ((Y x.toNatClampNeg 3).toNatClampNeg + 1))
theorem MW_gl {s x a b : Int32} {Y : Nat → Nat → Int32} (hY : ∀ j, j < 8 → MW (Y j)) : ∀ j, j < 8 → MW (MglY s x a b Y j) := by
  unfold MglY Mgl
  split
  · exact hY
  · split
    · exact hY
    · split
      · exact hY
      · split
        · exact hY
        · split
          · exact hY
          · rename_i h6 _
            refine MW_up' hY (fun h => ?_)
            have h0 := hY _ h
            have h1 := xnIne 6 rfl h6
            unfold MW Maddg
            rw [va_up_at, nI_clamp (by have := h0.2; omega)]
            exact ⟨rfl, by have := h0.2; omega⟩
def Mgive (u : Nat → Int32) (s w : Int32) (b1 : Nat) : Nat → Nat → (Nat → Nat → Int32) × Int32 → (Nat → Nat → Int32) × Int32
  | 0, _, q => q
  | k + 1, i, q => if nI b1 ≤ nI i then q else if q.2 < 0 then q else Mgive u s w b1 k (i + 2) (MglY s w (u i) (u (i + 1)) q.1, MglR s w (u i) (u (i + 1)) q.1)
theorem MW_give {u : Nat → Int32} {s w : Int32} {b1 : Nat} : ∀ (k i : Nat) (q : (Nat → Nat → Int32) × Int32), (∀ j, j < 8 → MW (q.1 j)) → ∀ j, j < 8 → MW ((Mgive u s w b1 k i q).1 j)
  | 0, _, _, h => h
  | k + 1, i, q, h => by
    unfold Mgive
    split
    · exact h
    · split
      · exact h
      · exact MW_give k (i + 2) _ (MW_gl h)
def Msw (x y : Int32) (nw : Nat) (sg : Nat → Int32) : Nat → Int32 := Mwk x y nw sg sg (va_up sg 9 (nI (nw + 1)))
def Mwr (x y : Int32) (nw : Nat) : Int32 := Mwk x y nw (-2) (-4) (nI (nw + 1) - 1)
def Msend (u : Nat → Int32) (b0 b1 nw : Nat) (sg : Nat → Int32) (Y : Nat → Nat → Int32) : (Nat → Nat → Int32) × Int32 :=
  Mgive u (Msw (u b0) (u (b0 + 1)) nw sg 9) (Mwr (u b0) (u (b0 + 1)) nw) b1 40 (b0 + 2) (MwkY (u b0) (u (b0 + 1)) nw Y, Mwr (u b0) (u (b0 + 1)) nw)
def Mcar (n nh : Nat) (sn t u : Nat → Int32) (k : Nat) (q : xM6) : xM6 × Int32 :=
  if sn k = 99 then ((q.1, Mcg (q.1 7) (u (t k).toNatClampNeg) q.2.1 q.2.1 q.2.1 (Mspread n q.1 (u (t k).toNatClampNeg).toNatClampNeg 0 (Mcl1 n q.2.1)).1, q.2.2), Mcg (q.1 7) (u (t k).toNatClampNeg) q.2.1 (-1) (-5) (Mspread n q.1 (u (t k).toNatClampNeg).toNatClampNeg 0 (Mcl1 n q.2.1)).2)
  else if sn k = 109 then ((q.1, Mmd (q.1 7) (u (t k).toNatClampNeg) (u ((t k).toNatClampNeg + 1)) q.2.1 q.2.1 (va_up q.2.1 (u (t k).toNatClampNeg).toNatClampNeg (Mmend (u ((t k).toNatClampNeg + 1)) (q.2.1 (u (t k).toNatClampNeg).toNatClampNeg))), q.2.2),
    Mmd (q.1 7) (u (t k).toNatClampNeg) (u ((t k).toNatClampNeg + 1)) (-1) (-2) (q.2.1 (u (t k).toNatClampNeg).toNatClampNeg 3))
  else if sn k = 119 then ((Msw (u (t k).toNatClampNeg) (u ((t k).toNatClampNeg + 1)) (q.1 9).toNatClampNeg q.1, q.2.1, q.2.2.1, (Msend u (t k).toNatClampNeg (t (k + 1)).toNatClampNeg (q.1 9).toNatClampNeg q.1 q.2.2.2.1).1, q.2.2.2.2), (Msend u (t k).toNatClampNeg (t (k + 1)).toNatClampNeg (q.1 9).toNatClampNeg q.1 q.2.2.2.1).2)
  else ((Mtk (u (t k).toNatClampNeg) q.1 (Mticks n nh (q.1 9).toNatClampNeg (u (t k).toNatClampNeg).toNatClampNeg q).1, Mtk (u (t k).toNatClampNeg) q.2.1 (Mticks n nh (q.1 9).toNatClampNeg (u (t k).toNatClampNeg).toNatClampNeg q).2.1, Mtk (u (t k).toNatClampNeg) q.2.2.1 (Mticks n nh (q.1 9).toNatClampNeg (u (t k).toNatClampNeg).toNatClampNeg q).2.2.1, Mtk (u (t k).toNatClampNeg) q.2.2.2.1 (Mticks n nh (q.1 9).toNatClampNeg (u (t k).toNatClampNeg).toNatClampNeg q).2.2.2.1, Mtk (u (t k).toNatClampNeg) q.2.2.2.2.1 (Mticks n nh (q.1 9).toNatClampNeg (u (t k).toNatClampNeg).toNatClampNeg q).2.2.2.2.1, Mtk (u (t k).toNatClampNeg) q.2.2.2.2.2 (Mticks n nh (q.1 9).toNatClampNeg (u (t k).toNatClampNeg).toNatClampNeg q).2.2.2.2.2), Mtk (u (t k).toNatClampNeg) (-2) ((Mticks n nh (q.1 9).toNatClampNeg (u (t k).toNatClampNeg).toNatClampNeg q).1 6))
def Mok (n nh : Nat) (q : xM6) : Prop := q.1 7 = nI n ∧ q.1 8 = nI nh ∧ q.1 9 = nI (q.1 9).toNatClampNeg ∧ (q.1 9).toNatClampNeg ≤ 8 ∧ ∀ j, j < 8 → MW (q.2.2.2.1 j)
theorem Mticks_sg {n nh nw : Nat} {w : Nat} (hw : w ≠ 6) : ∀ (k i : Nat) (q : xM6), (xloop (fun _ q => Mpass n nh nw q) k i q).1 w = q.1 w
  | 0, _, _ => rfl
  | k + 1, i, q => (Mticks_sg hw k (i + 1) (Mpass n nh nw q)).trans (va_up_ne _ _ hw)
theorem Mok_car {n nh k : Nat} {sn t u : Nat → Int32} {q : xM6} (h : Mok n nh q) : Mok n nh (Mcar n nh sn t u k q).1 := by
  obtain ⟨h7, h8, h9, h98, hY⟩ := h
  unfold Mcar
  split
  · exact ⟨h7, h8, h9, h98, hY⟩
  · split
    · exact ⟨h7, h8, h9, h98, hY⟩
    · split
      · have e9 := Mwk_9 (x := u (t k).toNatClampNeg) (y := u ((t k).toNatClampNeg + 1)) h9
        have e8 := Mwk_98 (x := u (t k).toNatClampNeg) (y := u ((t k).toNatClampNeg + 1)) h98
        refine ⟨(Mwk_78 (by decide)).trans h7, (Mwk_78 (by decide)).trans h8, ?_, ?_, MW_give 40 _ _ (MW_wk hY)⟩
        · show Msw _ _ _ _ 9 = nI (Msw _ _ _ _ 9).toNatClampNeg
          unfold Msw
          rw [e9, nI_clamp (by omega)]
        · show (Msw _ _ _ _ 9).toNatClampNeg ≤ 8
          unfold Msw
          rw [e9, nI_clamp (by omega)]
          exact e8
      · obtain ⟨T, hT⟩ : ∃ T, T = Mticks n nh (q.1 9).toNatClampNeg (u (t k).toNatClampNeg).toNatClampNeg q := ⟨_, rfl⟩
        have e : ∀ w, w ≠ 6 → T.1 w = q.1 w := fun w hw => by rw [hT]; exact Mticks_sg hw _ 0 q
        have eY : ∀ j, j < 8 → MW (T.2.2.2.1 j) := by rw [hT]; exact MW_ticks _ 0 q hY
        rw [← hT]
        unfold Mtk
        by_cases hx : Fin3 (u (t k).toNatClampNeg) 1 200 = 0
        · simp only [if_pos hx]; exact ⟨h7, h8, h9, h98, hY⟩
        · simp only [if_neg hx]
          refine ⟨(e 7 (by decide)).trans h7, (e 8 (by decide)).trans h8, ?_, ?_, eY⟩
          · show T.1 9 = nI (T.1 9).toNatClampNeg
            rw [e 9 (by decide)]; exact h9
          · show (T.1 9).toNatClampNeg ≤ 8
            rw [e 9 (by decide)]; exact h98
def MdoL (n nh : Nat) (sn t u : Nat → Int32) : Nat → Nat → xM6 → xM6 × Int32
  | 0, i, q => (q, nI i)
  | k + 1, i, q => if (Mcar n nh sn t u i q).2 < 0 then ((Mcar n nh sn t u i q).1, nI i) else MdoL n nh sn t u k (i + 1) (Mcar n nh sn t u i q).1
theorem xnlt {a b : Nat} (ha : a < 2 ^ 31) (h : ¬ nI b ≤ nI a) : a < b := by
  rcases Nat.lt_or_ge a b with q | q
  · exact q
  · exact absurd (by rcases Nat.lt_or_eq_of_le q with q | q
                     · exact Int32.le_of_lt (nI_lt q ha)
                     · rw [q]; exact Int32.le_refl _) h
theorem xnle {a b : Nat} (ha : a < 2 ^ 31) (h : b ≤ a) : nI b ≤ nI a := by
  rcases Nat.lt_or_eq_of_le h with q | q
  · exact Int32.le_of_lt (nI_lt q ha)
  · rw [q]; exact Int32.le_refl _
theorem MfR_neg {z : xM4} (h : Mor z) (c : MfR z < 0) : z.1 12 = 0 := by
  unfold MfR at c
  split at c
  · assumption
  · exact absurd c (by rw [h.1.2.2.1]; exact Int32.not_lt.mpr (xnle (b := 0) (by have := h.1.2.2.2.1; have := h.1.2.1; omega) (Nat.zero_le _)))
def Mfw (w : Nat) : Prop := w ≠ 11 ∧ w ≠ 12 ∧ w ≠ 13 ∧ w ≠ 14
theorem va2 {f : Nat → Int32} {a b w : Nat} {x y : Int32} (ha : w ≠ a) (hb : w ≠ b) : va_up (va_up f a x) b y w = f w := by rw [va_up_ne _ _ hb, va_up_ne _ _ ha]
theorem MtS_w {p f : Nat → Int32} {c : Int32} {w : Nat} (h : Mfw w) : MtS p c f w = f w := by
  unfold MtS
  split
  · split <;> exact va2 h.2.1 h.1
  · exact va2 h.2.1 h.1
theorem MnL_w {p : Nat → Int32} {w : Nat} (h : Mfw w) : ∀ (k : Nat) (q : (Nat → Int32) × Int32), (MnL p k q).1 w = q.1 w
  | 0, _ => rfl
  | k + 1, q => by
    unfold MnL
    split
    · split
      · rfl
      · split
        · rfl
        · split
          · exact (MnL_w h k _).trans (va2 h.2.1 h.1)
          · exact (MnL_w h k _).trans (va2 h.2.1 h.1)
    · rfl
theorem MtN_w {p : Nat → Int32} {q : xMP} {w : Nat} (h : Mfw w) : (MtN p q).1 w = q.1 w := by
  unfold MtN
  split
  · split
    · exact va_up_ne _ _ h.2.1
    · exact ((va_up_ne _ _ h.2.2.2).trans (MnL_w h 80 _)).trans (va2 h.2.1 h.1)
  · exact va_up_ne _ _ h.2.1
theorem Mg1_w {p : Nat → Int32} {q : xMP} {w : Nat} (h : Mfw w) : (Mg1 p q).1 w = q.1 w := by
  have e1 : (MtN p (va_up q.1 11 (q.1 11 + 1), q.2)).1 w = q.1 w := (MtN_w h).trans (va_up_ne _ _ h.1)
  unfold Mg1
  split
  · split
    · exact ((MtN_w h).trans (va_up_ne _ _ h.1)).trans e1
    · exact (va_up_ne _ _ h.2.2.2).trans e1
  · exact (va_up_ne _ _ h.2.2.2).trans e1
theorem MwL_w {p : Nat → Int32} {w : Nat} (h : Mfw w) : ∀ (k : Nat) (q : xMP), (MwL p k q).1 w = q.1 w
  | 0, _ => rfl
  | k + 1, q => by
    unfold MwL
    split
    · split
      · exact (MwL_w h k _).trans (Mg1_w h)
      · rfl
    · rfl
theorem Mhd_w {p : Nat → Int32} {c : Int32} {q : xMP} {w : Nat} (h : Mfw w) : (Mhd p c q).1 w = q.1 w := (MtS_w h).trans (MtN_w h)
theorem MtW_w {p : Nat → Int32} {q : xMP} {w : Nat} (h : Mfw w) : (MtW p q).1 w = q.1 w := ((MwL_w h 80 _).trans (MtN_w h)).trans (Mhd_w h)
theorem MtM_w {p : Nat → Int32} {q : xMP} {w : Nat} (h : Mfw w) : (MtM p q).1 w = q.1 w := by
  unfold MtM
  split
  · split
    · exact (va_up_ne _ _ h.2.1).trans (Mhd_w h)
    · exact (((va_up_ne _ _ h.1).trans (va_up_ne _ _ h.2.2.2)).trans (va_up_ne _ _ h.2.1)).trans (Mhd_w h)
  · exact (va_up_ne _ _ h.2.1).trans (Mhd_w h)
theorem Mbody_w {p : Nat → Int32} {c : Int32} {q : xMP} {w : Nat} (h : Mfw w) : (Mbody p c q).1 w = q.1 w := by
  unfold Mbody
  split
  · exact MtN_w h
  · split
    · exact MtM_w h
    · split
      · exact MtN_w h
      · split
        · exact MtW_w h
        · exact va2 h.1 h.2.1
theorem Mord_w {p : Nat → Int32} {q : xM4} {w : Nat} (h : Mfw w) : (Mord p q).1 w = q.1 w := by
  have e := (Mbody_w (p := p) (c := Mnx p q.1) (q := (va_up q.1 11 (q.1 11 + 1), q.2.2.2)) h).trans (va_up_ne _ _ h.1)
  unfold Mord Mtail
  split
  · exact (va_up_ne _ _ h.2.2.1).trans e
  · exact e
theorem MfL_w {p : Nat → Int32} {w : Nat} (h : Mfw w) : ∀ (k : Nat) (q : xM4), (MfL p k q).1 w = q.1 w
  | 0, _ => rfl
  | k + 1, q => by
    unfold MfL
    split
    · split
      · split
        · exact ((MfL_w h k _).trans (Mord_w h)).trans (MtS_w h)
        · exact (MfL_w h k _).trans (MtS_w h)
      · rfl
    · rfl
theorem Mfa_w {p : Nat → Int32} {q : xM4} {w : Nat} (h : Mfw w) : (Mfa p q).1 w = q.1 w :=
  (((MfL_w h 80 _).trans (Mord_w h)).trans (va2 h.2.2.1 h.2.2.2)).trans (va2 h.1 h.2.1)
theorem Mfa_fr {p : Nat → Int32} {q : xM4} : (Mfa p q).1 2 = q.1 2 ∧ (Mfa p q).1 3 = q.1 3 := ⟨Mfa_w (by unfold Mfw; decide), Mfa_w (by unfold Mfw; decide)⟩
theorem MkF_2 {pf pm : Nat} {f : Nat → Int32} (h : f 2 = nI pf) : MkF pf pm f 2 = nI (if pm = 6 then (pf + 1) % 6 else pf) := by
  unfold MkF
  split
  · rfl
  · exact h
theorem MkF_3 {pf pm : Nat} {f : Nat → Int32} : MkF pf pm f 3 = nI (if pm = 6 then 6 else pm + 1) := by
  unfold MkF
  split <;> rfl
theorem MkF_w {pf pm w : Nat} {f : Nat → Int32} (h : w ≠ 2 ∧ w ≠ 3) : MkF pf pm f w = f w := by
  unfold MkF
  split
  · rw [va_up_ne _ _ h.2, va_up_ne _ _ h.2, va_up_ne _ _ h.1]
  · exact va_up_ne _ _ h.2
def Mco {α : Type} (z : xM4) (A B : α) : α := if MfR z < 0 then B else A
def McoF (z : xM4) (pf pm : Nat) : Nat → Int32 := if MfR z < 0 then va_up (MkF pf pm z.1) 10 0 else z.1
def McoS (z : xM4) (n nh : Nat) (q : xM6) : xM6 × Int32 := if MfR z < 0 then MdoL n nh z.2.1 z.2.2.1 z.2.2.2 (z.1 13).toNatClampNeg 0 q else (q, 0)
theorem c_X7_tryWalker0 (l : Launch) (X : xX) (G : xG) {f sg pb pc pd pe pg ph pp pq pt pu : Nat → Int32} {L O Y : Nat → Nat → Int32} {nw pf pm : Nat} {x y : Int32} (hw : sg 9 = nI nw) (hw8 : nw ≤ 8) (hpf : f 2 = nI pf) (hpf6 : pf < 6) (hpm : f 3 = nI pm) (hpm6 : pm ≤ 6) {sg' : Nat → Int32} (ho0 : (Msw x y nw sg) = sg') {Y' : Nat → Nat → Int32} (ho1 : (MwkY x y nw Y) = Y') {res : Int32} (hres : (Mwr x y nw) = res) : XC l yX7_tryWalker cX7_tryWalker 4 (some .int) 2 43 0 0 X xsh [.ref (xB X + xkey 12 0 0), .int x, .int y, .int 0] 603 603 (xval (xB X) (va_up G 12 (xMa f sg L O Y pb pc pd pe pg ph pp pq pt pu))) (xval (xB X) (va_up G 12 (xMa f sg' L O Y' pb pc pd pe pg ph pp pq pt pu))) (some (.int res)) :=
  c_X7_tryWalker l X G (nw := nw) (pf := pf) (pm := pm) (x := x) (y := y) (k := 0) (hw := hw) (hw8 := hw8) (hpf := hpf) (hpf6 := hpf6) (hpm := hpm) (hpm6 := hpm6) (f' := f) (pb' := pb) (ho0 := Mwk_same) (ho1 := Mwk_same) (ho2 := ho0) (ho3 := ho1) (hres := hres)
theorem c_X7_tryGoal0 (l : Launch) (X : xX) (G : xG) {f sg pb pc pd pe pg ph pp pq pt pu : Nat → Int32} {L O Y : Nat → Nat → Int32} {nw pf pm : Nat} {x a b : Int32} (hw : sg 9 = nI nw) (hw8 : nw ≤ 8) (hY : ∀ j, j < 8 → MW (Y j)) (hpf : f 2 = nI pf) (hpf6 : pf < 6) (hpm : f 3 = nI pm) (hpm6 : pm ≤ 6) {Y' : Nat → Nat → Int32} (ho0 : (MglY (sg 9) x a b Y) = Y') {res : Int32} (hres : (MglR (sg 9) x a b Y) = res) : XC l yX7_tryGoal cX7_tryGoal 5 (some .int) 2 43 0 0 X xsh [.ref (xB X + xkey 12 0 0), .int x, .int a, .int b, .int 0] 603 603 (xval (xB X) (va_up G 12 (xMa f sg L O Y pb pc pd pe pg ph pp pq pt pu))) (xval (xB X) (va_up G 12 (xMa f sg L O Y' pb pc pd pe pg ph pp pq pt pu))) (some (.int res)) :=
  c_X7_tryGoal l X G (nw := nw) (pf := pf) (pm := pm) (x := x) (a := a) (b := b) (k := 0) (hw := hw) (hw8 := hw8) (hY := hY) (hpf := hpf) (hpf6 := hpf6) (hpm := hpm) (hpm6 := hpm6) (f' := f) (pb' := pb) (ho0 := Mgl_same) (ho1 := Mgl_same) (ho2 := ho0) (hres := hres)
theorem c_X7_tryMend0 (l : Launch) (X : xX) (G : xG) {f sg pb pc pd pe pg ph pp pq pt pu : Nat → Int32} {L O Y : Nat → Nat → Int32} {n pf pm : Nat} {x h : Int32} (hn : sg 7 = nI n) (hn16 : n ≤ 16) (hpf : f 2 = nI pf) (hpf6 : pf < 6) (hpm : f 3 = nI pm) (hpm6 : pm ≤ 6) {L' : Nat → Nat → Int32} (ho0 : (Mmd (sg 7) x h L L (va_up L x.toNatClampNeg (Mmend h (L x.toNatClampNeg)))) = L') {res : Int32} (hres : (Mmd (sg 7) x h (-1) (-2) (L x.toNatClampNeg 3)) = res) : XC l yX7_tryMend cX7_tryMend 5 (some .int) 3 66 0 0 X xsh [.ref (xB X + xkey 12 0 0), .int x, .int h, .int 0] 603 603 (xval (xB X) (va_up G 12 (xMa f sg L O Y pb pc pd pe pg ph pp pq pt pu))) (xval (xB X) (va_up G 12 (xMa f sg L' O Y pb pc pd pe pg ph pp pq pt pu))) (some (.int res)) :=
  c_X7_tryMend l X G (n := n) (pf := pf) (pm := pm) (x := x) (h := h) (k := 0) (hn := hn) (hn16 := hn16) (hpf := hpf) (hpf6 := hpf6) (hpm := hpm) (hpm6 := hpm6) (f' := f) (pb' := pb) (ho0 := Mmd_same) (ho1 := Mmd_same) (ho2 := ho0) (hres := hres)
theorem c_X7_tryCough0 (l : Launch) (X : xX) (G : xG) {f sg pb pc pd pe pg ph pp pq pt pu : Nat → Int32} {L O Y : Nat → Nat → Int32} {n pf pm : Nat} {x : Int32} (hn : sg 7 = nI n) (hn16 : n ≤ 16) (hpf : f 2 = nI pf) (hpf6 : pf < 6) (hpm : f 3 = nI pm) (hpm6 : pm ≤ 6) {L' : Nat → Nat → Int32} (ho0 : (Mcg (sg 7) x L L L ((Mspread n sg x.toNatClampNeg 0 (Mcl1 n L)).1)) = L') {res : Int32} (hres : (Mcg (sg 7) x L (-1) (-5) ((Mspread n sg x.toNatClampNeg 0 (Mcl1 n L)).2)) = res) : XC l yX7_tryCough cX7_tryCough 4 (some .int) 3 68 0 0 X xsh [.ref (xB X + xkey 12 0 0), .int x, .int 0] 603 603 (xval (xB X) (va_up G 12 (xMa f sg L O Y pb pc pd pe pg ph pp pq pt pu))) (xval (xB X) (va_up G 12 (xMa f sg L' O Y pb pc pd pe pg ph pp pq pt pu))) (some (.int res)) :=
  c_X7_tryCough l X G (n := n) (pf := pf) (pm := pm) (x := x) (k := 0) (hn := hn) (hn16 := hn16) (hpf := hpf) (hpf6 := hpf6) (hpm := hpm) (hpm6 := hpm6) (f' := f) (pb' := pb) (ho0 := Mcg_same) (ho1 := Mcg_same) (ho2 := ho0) (hres := hres)
theorem c_X7_tryTicks0 (l : Launch) (X : xX) (G : xG) {f sg pb pc pd pe pg ph pp pq pt pu : Nat → Int32} {L O Y : Nat → Nat → Int32} {n nh nw pf pm : Nat} {x : Int32} (hn : sg 7 = nI n) (hn16 : n ≤ 16) (hh : sg 8 = nI nh) (hh8 : nh ≤ 8) (hw : sg 9 = nI nw) (hw8 : nw ≤ 8) (hY : ∀ j, j < 8 → MW (Y j)) (hpf : f 2 = nI pf) (hpf6 : pf < 6) (hpm : f 3 = nI pm) (hpm6 : pm ≤ 6) {sg' : Nat → Int32} (ho0 : (Mtk x sg ((Mticks n nh nw x.toNatClampNeg (sg, L, O, Y, pg, ph)).1)) = sg') {L' : Nat → Nat → Int32} (ho1 : (Mtk x L ((Mticks n nh nw x.toNatClampNeg (sg, L, O, Y, pg, ph)).2.1)) = L') {O' : Nat → Nat → Int32} (ho2 : (Mtk x O ((Mticks n nh nw x.toNatClampNeg (sg, L, O, Y, pg, ph)).2.2.1)) = O') {Y' : Nat → Nat → Int32} (ho3 : (Mtk x Y ((Mticks n nh nw x.toNatClampNeg (sg, L, O, Y, pg, ph)).2.2.2.1)) = Y') {pg' : Nat → Int32} (ho4 : (Mtk x pg ((Mticks n nh nw x.toNatClampNeg (sg, L, O, Y, pg, ph)).2.2.2.2.1)) = pg') {ph' : Nat → Int32} (ho5 : (Mtk x ph ((Mticks n nh nw x.toNatClampNeg (sg, L, O, Y, pg, ph)).2.2.2.2.2)) = ph') {res : Int32} (hres : (Mtk x (-2) ((Mticks n nh nw x.toNatClampNeg (sg, L, O, Y, pg, ph)).1 6)) = res) : XC l yX7_tryTicks cX7_tryTicks 4 (some .int) 5 112 0 0 X xsh [.ref (xB X + xkey 12 0 0), .int x, .int 0] 603 603 (xval (xB X) (va_up G 12 (xMa f sg L O Y pb pc pd pe pg ph pp pq pt pu))) (xval (xB X) (va_up G 12 (xMa f sg' L' O' Y' pb pc pd pe pg' ph' pp pq pt pu))) (some (.int res)) :=
  c_X7_tryTicks l X G (n := n) (nh := nh) (nw := nw) (pf := pf) (pm := pm) (x := x) (k := 0) (hn := hn) (hn16 := hn16) (hh := hh) (hh8 := hh8) (hw := hw) (hw8 := hw8) (hY := hY) (hpf := hpf) (hpf6 := hpf6) (hpm := hpm) (hpm6 := hpm6) (f' := f) (pb' := pb) (ho0 := Mtk_same) (ho1 := Mtk_same) (ho2 := ho0) (ho3 := ho1) (ho4 := ho2) (ho5 := ho3) (ho6 := ho4) (ho7 := ho5) (hres := hres)
theorem hdV_yX7_sendWalker : yX7_sendWalker.cls = RX7 ∧ yX7_sendWalker.cls ≠ "java/lang/invoke/MethodHandle" ∧ yX7_sendWalker.cls ≠ "java/lang/invoke/VarHandle" ∧ (parseMethodDescriptor yX7_sendWalker.desc).map (fun d => d.parameters.length) = some 1 := by decide +kernel
theorem hdV_yX7_carry : yX7_carry.cls = RX7 ∧ yX7_carry.cls ≠ "java/lang/invoke/MethodHandle" ∧ yX7_carry.cls ≠ "java/lang/invoke/VarHandle" ∧ (parseMethodDescriptor yX7_carry.desc).map (fun d => d.parameters.length) = some 1 := by decide +kernel
theorem hdV_yX7_carryOut : yX7_carryOut.cls = RX7 ∧ yX7_carryOut.cls ≠ "java/lang/invoke/MethodHandle" ∧ yX7_carryOut.cls ≠ "java/lang/invoke/VarHandle" ∧ (parseMethodDescriptor yX7_carryOut.desc).map (fun d => d.parameters.length) = some 0 := by decide +kernel
set_option maxHeartbeats 4000000 in
set_option maxRecDepth 100000 in
theorem c_X7_sendWalker (l : Launch) (X : xX) (G : xG) {f sg pb pc pd pe pg ph pp pq pt pu : Nat → Int32} {L O Y : Nat → Nat → Int32} {nw pf pm k b0 b1 : Nat} (hw : sg 9 = nI nw) (hw8 : nw ≤ 8) (hY : ∀ j, j < 8 → MW (Y j)) (hpf : f 2 = nI pf) (hpf6 : pf < 6) (hpm : f 3 = nI pm) (hpm6 : pm ≤ 6) (hk9 : k < 28) (hb0 : pt k = nI b0) (hb08 : b0 ≤ 80) (hb1 : pt (k + 1) = nI b1) (hb18 : b1 ≤ 80) {sg' : Nat → Int32} (ho0 : (Msw (pu b0) (pu (b0 + 1)) nw sg) = sg') {Y' : Nat → Nat → Int32} (ho1 : ((Msend pu b0 b1 nw sg Y).1) = Y') {res : Int32} (hres : ((Msend pu b0 b1 nw sg Y).2) = res) : XC l yX7_sendWalker cX7_sendWalker 5 (some .int) 3 67 0 0 X xsh [.ref (xB X + xkey 12 0 0), .int (nI k)] 603 603 (xval (xB X) (va_up G 12 (xMa f sg L O Y pb pc pd pe pg ph pp pq pt pu))) (xval (xB X) (va_up G 12 (xMa f sg' L O Y' pb pc pd pe pg ph pp pq pt pu))) (some (.int res)) := by
  refine XC.of RX7 "sendWalker" [(0, .ref (xB X + xkey 12 0 0)), (1, .int (nI k))] (by decide) rfl rfl (Nat.le_of_ble_eq_true rfl) rfl ?_
  intro p e s m args below meth c ls hx hb hret hml hts hown hlocks hnm hK hW hl
  have hW : XR X G 12 (xMa f sg L O Y pb pc pd pe pg ph pp pq pt pu) s.heap [] := hW
  obtain ⟨Q0, hQ0⟩ : ∃ z, z = MQ below (xQ X xsh 603 (xval (xB X) (va_up G 12 (xMa f sg' L O Y' pb pc pd pe pg ph pp pq pt pu))) (some (.int res))) args s 0 0 (fun q => xB X ≤ q) := ⟨_, rfl⟩
  rw [← hQ0]
  refine lv_aload_n hx hb dX7_sendWalker_0 rfl (lv_at hl 0 rfl) ?_
  refine lv_aload_n hx hb dX7_sendWalker_1 rfl (lv_at hl 0 rfl) ?_
  refine r_getr (C := RX7) (T := TX7) hx hb hts hown hK hW (xF_mo0).1 (xF_mo0).2.1 inlX7 rfl (by decide) 17 (by decide) (show xro (xkey 12 0 0) 17 = some (xkey 12 11 0) from by decide +kernel) xw_89 rfl dX7_sendWalker_2 ?_
  refine lv_aload_n hx hb dX7_sendWalker_5 rfl (lv_at hl 0 rfl) ?_
  refine r_getr (C := RX7) (T := TX7) hx hb hts hown hK hW (xF_mo0).1 (xF_mo0).2.1 inlX7 rfl (by decide) 16 (by decide) (show xro (xkey 12 0 0) 16 = some (xkey 12 10 0) from by decide +kernel) xw_88 rfl dX7_sendWalker_6 ?_
  refine lv_iload_n hx hb dX7_sendWalker_9 rfl (lv_at hl 1 rfl) ?_
  refine r_iald hx hb hK hW (N := 30) (xF_mo10) k (by omega) (by decide) rfl (xr_model 10 (by decide) (by decide) k) (x := nI b0) (rfl.trans hb0) dX7_sendWalker_10 ?_
  refine r_iald hx hb hK hW (N := 92) (xF_mo11) b0 (by omega) (by decide) rfl (xr_model 11 (by decide) (by decide) b0) (x := pu b0) rfl dX7_sendWalker_11 ?_
  refine lv_aload_n hx hb dX7_sendWalker_12 rfl (lv_at hl 0 rfl) ?_
  refine r_getr (C := RX7) (T := TX7) hx hb hts hown hK hW (xF_mo0).1 (xF_mo0).2.1 inlX7 rfl (by decide) 17 (by decide) (show xro (xkey 12 0 0) 17 = some (xkey 12 11 0) from by decide +kernel) xw_89 rfl dX7_sendWalker_13 ?_
  refine lv_aload_n hx hb dX7_sendWalker_16 rfl (lv_at hl 0 rfl) ?_
  refine r_getr (C := RX7) (T := TX7) hx hb hts hown hK hW (xF_mo0).1 (xF_mo0).2.1 inlX7 rfl (by decide) 16 (by decide) (show xro (xkey 12 0 0) 16 = some (xkey 12 10 0) from by decide +kernel) xw_88 rfl dX7_sendWalker_17 ?_
  refine lv_iload_n hx hb dX7_sendWalker_20 rfl (lv_at hl 1 rfl) ?_
  refine r_iald hx hb hK hW (N := 30) (xF_mo10) k (by omega) (by decide) rfl (xr_model 10 (by decide) (by decide) k) (x := nI b0) (rfl.trans hb0) dX7_sendWalker_21 ?_
  refine lv_iconst (v := nI 1) hx hb dX7_sendWalker_22 (by decide) ?_
  refine lv_iadd hx hb dX7_sendWalker_23 ?_
  refine lv_eqi (y := nI (b0 + 1)) (nI_add b0 1) ?_
  refine r_iald hx hb hK hW (N := 92) (xF_mo11) (b0 + 1) (by omega) (by decide) rfl (xr_model 11 (by decide) (by decide) (b0 + 1)) (x := pu (b0 + 1)) rfl dX7_sendWalker_24 ?_
  refine lv_iconst (v := 0) hx hb dX7_sendWalker_25 (by decide) ?_
  refine x_callV hx hb hml hown hts hK hW hl.1 (c_X7_tryWalker0 l X G (nw := nw) (pf := pf) (pm := pm) (x := pu b0) (y := pu (b0 + 1)) (hw := (by assumption)) (hw8 := (by assumption)) (hpf := (by assumption)) (hpf6 := (by omega)) (hpm := (by assumption)) (hpm6 := (by assumption)) (ho0 := rfl) (ho1 := rfl) (hres := rfl)) (xF_mo0).1 (xF_mo0).2.1 (by decide) rfl xw_238 xw_239 xw_240 xw_5 xw_241 hdV_yX7_tryWalker ⟨Nat.le_of_ble_eq_true rfl, Nat.le_of_ble_eq_true rfl⟩ rfl (Nat.le_of_ble_eq_true rfl) ⟨Nat.le_refl _, Nat.le_refl _⟩ dX7_sendWalker_26 (fun H locs hW => ?_)
  have hW : XR X G 12 (xMa f (Msw (pu b0) (pu (b0 + 1)) nw sg) L O (MwkY (pu b0) (pu (b0 + 1)) nw Y) pb pc pd pe pg ph pp pq pt pu) H locs := hW
  have hw9 : (Msw (pu b0) (pu (b0 + 1)) nw sg) 9 = nI (Mwk (pu b0) (pu (b0 + 1)) nw nw nw (nw + 1)) := Mwk_9 hw
  have hw89 : Mwk (pu b0) (pu (b0 + 1)) nw nw nw (nw + 1) ≤ 8 := Mwk_98 hw8
  refine lv_istore_n (lv' := [(2, .int (Mwr (pu b0) (pu (b0 + 1)) nw)), (0, .ref (xB X + xkey 12 0 0)), (1, .int (nI k))]) hx hb dX7_sendWalker_29 rfl hl (by decide) rfl (fun ls hl => ?_)
  refine lv_iload_n hx hb dX7_sendWalker_30 rfl (lv_at hl 0 rfl) ?_
  refine lv_istore_n (lv' := [(3, .int (Mwr (pu b0) (pu (b0 + 1)) nw)), (2, .int (Mwr (pu b0) (pu (b0 + 1)) nw)), (0, .ref (xB X + xkey 12 0 0)), (1, .int (nI k))]) hx hb dX7_sendWalker_31 rfl hl (by decide) rfl (fun ls hl => ?_)
  refine lv_aload_n hx hb dX7_sendWalker_32 rfl (lv_at hl 2 rfl) ?_
  refine r_getr (C := RX7) (T := TX7) hx hb hts hown hK hW (xF_mo0).1 (xF_mo0).2.1 inlX7 rfl (by decide) 16 (by decide) (show xro (xkey 12 0 0) 16 = some (xkey 12 10 0) from by decide +kernel) xw_88 rfl dX7_sendWalker_33 ?_
  refine lv_iload_n hx hb dX7_sendWalker_36 rfl (lv_at hl 3 rfl) ?_
  refine r_iald hx hb hK hW (N := 30) (xF_mo10) k (by omega) (by decide) rfl (xr_model 10 (by decide) (by decide) k) (x := nI b0) (rfl.trans hb0) dX7_sendWalker_37 ?_
  refine lv_iconst (v := nI 2) hx hb dX7_sendWalker_38 (by decide) ?_
  refine lv_iadd hx hb dX7_sendWalker_39 ?_
  refine lv_eqi (y := nI (b0 + 2)) (nI_add b0 2) ?_
  refine lv_istore (lv' := [(4, .int (nI (b0 + 2))), (3, .int (Mwr (pu b0) (pu (b0 + 1)) nw)), (2, .int (Mwr (pu b0) (pu (b0 + 1)) nw)), (0, .ref (xB X + xkey 12 0 0)), (1, .int (nI k))]) hx hb dX7_sendWalker_40 hl (by decide) rfl (fun ls hl => ?_)
  have loop_42 : ∀ (k_42 i : Nat) (Ya : Nat → Nat → Int32) (ta : Int32), (b1 ≤ i + 2 * k_42 ∧ i ≤ 200) → (∀ j, j < 8 → MW (Ya j)) → Mgive pu (Msw (pu b0) (pu (b0 + 1)) nw sg 9) (Mwr (pu b0) (pu (b0 + 1)) nw) b1 k_42 i (Ya, ta) = Mgive pu (Msw (pu b0) (pu (b0 + 1)) nw sg 9) (Mwr (pu b0) (pu (b0 + 1)) nw) b1 40 (b0 + 2) ((MwkY (pu b0) (pu (b0 + 1)) nw Y), Mwr (pu b0) (pu (b0 + 1)) nw) → ∀ (H : Heap) (locs : List Loc) (ls : Array Slot), XR X G 12 (xMa f (Msw (pu b0) (pu (b0 + 1)) nw sg) L O Ya pb pc pd pe pg ph pp pq pt pu) H locs → lv_has ls 5 [(0, .ref (xB X + xkey 12 0 0)), (1, .int (nI k)), (2, .int (Mwr (pu b0) (pu (b0 + 1)) nw)), (3, .int ta), (4, .int (nI i))] → W p l e { frames := 3, cells := 0, slots := 0, locals := 67 } s m args below meth c H locs 0 0 Q0 (F0 m 42 ls []) := by
    intro k_42
    induction k_42 with
    | zero =>
      intro i Ya ta hik_42 hv0_42 hsp_42 H locs ls hW hl
      refine lv_iload hx hb dX7_sendWalker_42 (lv_at hl 4 rfl) ?_
      refine lv_aload_n hx hb dX7_sendWalker_44 rfl (lv_at hl 0 rfl) ?_
      refine r_getr (C := RX7) (T := TX7) hx hb hts hown hK hW (xF_mo0).1 (xF_mo0).2.1 inlX7 rfl (by decide) 16 (by decide) (show xro (xkey 12 0 0) 16 = some (xkey 12 10 0) from by decide +kernel) xw_88 rfl dX7_sendWalker_45 ?_
      refine lv_iload_n hx hb dX7_sendWalker_48 rfl (lv_at hl 1 rfl) ?_
      refine lv_iconst (v := nI 1) hx hb dX7_sendWalker_49 (by decide) ?_
      refine lv_iadd hx hb dX7_sendWalker_50 ?_
      refine lv_eqi (y := nI (k + 1)) (nI_add k 1) ?_
      refine r_iald hx hb hK hW (N := 30) (xF_mo10) (k + 1) (by omega) (by decide) rfl (xr_model 10 (by decide) (by decide) (k + 1)) (x := nI b1) (rfl.trans hb1) dX7_sendWalker_51 ?_
      refine lv_icmp_ge (tgt := 88) hx hb dX7_sendWalker_52 (by decide) (fun c_1 => ?_) (fun c_1 => absurd (xnle (by omega) (by omega)) c_1)
      refine lv_iload_n hx hb dX7_sendWalker_88 rfl (lv_at hl 3 rfl) ?_
      obtain rfl : (Msw (pu b0) (pu (b0 + 1)) nw sg) = sg' := by (rw [← ho0]) <;> (have e9 : (Ya, ta) = Msend pu b0 b1 nw sg Y := (by unfold Msend; rw [← hsp_42]; first | rfl | simp [Mgive, c_1]); first | rfl | rw [← e9])
      obtain rfl : Ya = Y' := by (rw [← ho1]) <;> (have e9 : (Ya, ta) = Msend pu b0 b1 nw sg Y := (by unfold Msend; rw [← hsp_42]; first | rfl | simp [Mgive, c_1]); first | rfl | rw [← e9])
      obtain rfl : ta = res := by (rw [← hres]) <;> (have e9 : (Ya, ta) = Msend pu b0 b1 nw sg Y := (by unfold Msend; rw [← hsp_42]; first | rfl | simp [Mgive, c_1]); first | rfl | rw [← e9])
      rw [hQ0]
      exact x_iret hx hb hret hlocks rfl hW rfl dX7_sendWalker_89
    | succ k_42 ih_42 =>
      intro i Ya ta hik_42 hv0_42 hsp_42 H locs ls hW hl
      refine lv_iload hx hb dX7_sendWalker_42 (lv_at hl 4 rfl) ?_
      refine lv_aload_n hx hb dX7_sendWalker_44 rfl (lv_at hl 0 rfl) ?_
      refine r_getr (C := RX7) (T := TX7) hx hb hts hown hK hW (xF_mo0).1 (xF_mo0).2.1 inlX7 rfl (by decide) 16 (by decide) (show xro (xkey 12 0 0) 16 = some (xkey 12 10 0) from by decide +kernel) xw_88 rfl dX7_sendWalker_45 ?_
      refine lv_iload_n hx hb dX7_sendWalker_48 rfl (lv_at hl 1 rfl) ?_
      refine lv_iconst (v := nI 1) hx hb dX7_sendWalker_49 (by decide) ?_
      refine lv_iadd hx hb dX7_sendWalker_50 ?_
      refine lv_eqi (y := nI (k + 1)) (nI_add k 1) ?_
      refine r_iald hx hb hK hW (N := 30) (xF_mo10) (k + 1) (by omega) (by decide) rfl (xr_model 10 (by decide) (by decide) (k + 1)) (x := nI b1) (rfl.trans hb1) dX7_sendWalker_51 ?_
      refine lv_icmp_ge (tgt := 88) hx hb dX7_sendWalker_52 (by decide) (fun c_2 => ?_) (fun c_2 => ?_)
      · skip
        refine lv_iload_n hx hb dX7_sendWalker_88 rfl (lv_at hl 3 rfl) ?_
        obtain rfl : (Msw (pu b0) (pu (b0 + 1)) nw sg) = sg' := by (rw [← ho0]) <;> (have e9 : (Ya, ta) = Msend pu b0 b1 nw sg Y := (by unfold Msend; rw [← hsp_42]; first | rfl | simp [Mgive, c_2, Int32.not_lt.mpr c_2]); first | rfl | rw [← e9])
        obtain rfl : Ya = Y' := by (rw [← ho1]) <;> (have e9 : (Ya, ta) = Msend pu b0 b1 nw sg Y := (by unfold Msend; rw [← hsp_42]; first | rfl | simp [Mgive, c_2, Int32.not_lt.mpr c_2]); first | rfl | rw [← e9])
        obtain rfl : ta = res := by (rw [← hres]) <;> (have e9 : (Ya, ta) = Msend pu b0 b1 nw sg Y := (by unfold Msend; rw [← hsp_42]; first | rfl | simp [Mgive, c_2, Int32.not_lt.mpr c_2]); first | rfl | rw [← e9])
        rw [hQ0]
        exact x_iret hx hb hret hlocks rfl hW rfl dX7_sendWalker_89
      · skip
        have hi9 : i < b1 := xnlt (by omega) c_2
        refine lv_iload_n hx hb dX7_sendWalker_55 rfl (lv_at hl 3 rfl) ?_
        refine lv_if_lt (tgt := 88) hx hb dX7_sendWalker_56 (by decide) (fun c_3 => ?_) (fun c_3 => ?_)
        · skip
          refine lv_iload_n hx hb dX7_sendWalker_88 rfl (lv_at hl 3 rfl) ?_
          obtain rfl : (Msw (pu b0) (pu (b0 + 1)) nw sg) = sg' := by (rw [← ho0]) <;> (have e9 : (Ya, ta) = Msend pu b0 b1 nw sg Y := (by unfold Msend; rw [← hsp_42]; first | rfl | simp [Mgive, c_2, Int32.not_le.mp c_2, c_3, Int32.not_le.mpr c_3]); first | rfl | rw [← e9])
          obtain rfl : Ya = Y' := by (rw [← ho1]) <;> (have e9 : (Ya, ta) = Msend pu b0 b1 nw sg Y := (by unfold Msend; rw [← hsp_42]; first | rfl | simp [Mgive, c_2, Int32.not_le.mp c_2, c_3, Int32.not_le.mpr c_3]); first | rfl | rw [← e9])
          obtain rfl : ta = res := by (rw [← hres]) <;> (have e9 : (Ya, ta) = Msend pu b0 b1 nw sg Y := (by unfold Msend; rw [← hsp_42]; first | rfl | simp [Mgive, c_2, Int32.not_le.mp c_2, c_3, Int32.not_le.mpr c_3]); first | rfl | rw [← e9])
          rw [hQ0]
          exact x_iret hx hb hret hlocks rfl hW rfl dX7_sendWalker_89
        · skip
          refine lv_aload_n hx hb dX7_sendWalker_59 rfl (lv_at hl 0 rfl) ?_
          refine lv_iload_n hx hb dX7_sendWalker_60 rfl (lv_at hl 2 rfl) ?_
          refine lv_aload_n hx hb dX7_sendWalker_61 rfl (lv_at hl 0 rfl) ?_
          refine r_getr (C := RX7) (T := TX7) hx hb hts hown hK hW (xF_mo0).1 (xF_mo0).2.1 inlX7 rfl (by decide) 17 (by decide) (show xro (xkey 12 0 0) 17 = some (xkey 12 11 0) from by decide +kernel) xw_89 rfl dX7_sendWalker_62 ?_
          refine lv_iload hx hb dX7_sendWalker_65 (lv_at hl 4 rfl) ?_
          refine r_iald hx hb hK hW (N := 92) (xF_mo11) i (by omega) (by decide) rfl (xr_model 11 (by decide) (by decide) i) (x := pu i) rfl dX7_sendWalker_67 ?_
          refine lv_aload_n hx hb dX7_sendWalker_68 rfl (lv_at hl 0 rfl) ?_
          refine r_getr (C := RX7) (T := TX7) hx hb hts hown hK hW (xF_mo0).1 (xF_mo0).2.1 inlX7 rfl (by decide) 17 (by decide) (show xro (xkey 12 0 0) 17 = some (xkey 12 11 0) from by decide +kernel) xw_89 rfl dX7_sendWalker_69 ?_
          refine lv_iload hx hb dX7_sendWalker_72 (lv_at hl 4 rfl) ?_
          refine lv_iconst (v := nI 1) hx hb dX7_sendWalker_74 (by decide) ?_
          refine lv_iadd hx hb dX7_sendWalker_75 ?_
          refine lv_eqi (y := nI (i + 1)) (nI_add i 1) ?_
          refine r_iald hx hb hK hW (N := 92) (xF_mo11) (i + 1) (by omega) (by decide) rfl (xr_model 11 (by decide) (by decide) (i + 1)) (x := pu (i + 1)) rfl dX7_sendWalker_76 ?_
          refine lv_iconst (v := 0) hx hb dX7_sendWalker_77 (by decide) ?_
          refine x_callV hx hb hml hown hts hK hW hl.1 (c_X7_tryGoal0 l X G (nw := (Mwk (pu b0) (pu (b0 + 1)) nw nw nw (nw + 1))) (pf := pf) (pm := pm) (x := Mwr (pu b0) (pu (b0 + 1)) nw) (a := pu i) (b := pu (i + 1)) (hw := hw9) (hw8 := hw89) (hY := hv0_42) (hpf := (by assumption)) (hpf6 := (by omega)) (hpm := (by assumption)) (hpm6 := (by assumption)) (ho0 := rfl) (hres := rfl)) (xF_mo0).1 (xF_mo0).2.1 (by decide) rfl xw_270 xw_271 xw_272 xw_5 xw_273 hdV_yX7_tryGoal ⟨Nat.le_of_ble_eq_true rfl, Nat.le_of_ble_eq_true rfl⟩ rfl (Nat.le_of_ble_eq_true rfl) ⟨Nat.le_refl _, Nat.le_refl _⟩ dX7_sendWalker_78 (fun H locs hW => ?_)
          have hW : XR X G 12 (xMa f (Msw (pu b0) (pu (b0 + 1)) nw sg) L O (MglY ((Msw (pu b0) (pu (b0 + 1)) nw sg) 9) (Mwr (pu b0) (pu (b0 + 1)) nw) (pu i) (pu (i + 1)) Ya) pb pc pd pe pg ph pp pq pt pu) H locs := hW
          refine lv_istore_n (lv' := [(3, .int (MglR ((Msw (pu b0) (pu (b0 + 1)) nw sg) 9) (Mwr (pu b0) (pu (b0 + 1)) nw) (pu i) (pu (i + 1)) Ya)), (0, .ref (xB X + xkey 12 0 0)), (1, .int (nI k)), (2, .int (Mwr (pu b0) (pu (b0 + 1)) nw)), (4, .int (nI i))]) hx hb dX7_sendWalker_81 rfl hl (by decide) rfl (fun ls hl => ?_)
          refine lv_iinc (v := nI (i + 2)) (lv' := [(4, .int (nI (i + 2))), (3, .int (MglR ((Msw (pu b0) (pu (b0 + 1)) nw sg) 9) (Mwr (pu b0) (pu (b0 + 1)) nw) (pu i) (pu (i + 1)) Ya)), (0, .ref (xB X + xkey 12 0 0)), (1, .int (nI k)), (2, .int (Mwr (pu b0) (pu (b0 + 1)) nw))]) hx hb dX7_sendWalker_82 hl (k := 4) rfl (xnI2 i) (by decide) rfl (fun ls hl => ?_)
          refine lv_goto (tgt := 42) hx hb dX7_sendWalker_85 (by decide) ?_
          refine ih_42 (i + 2) (MglY ((Msw (pu b0) (pu (b0 + 1)) nw sg) 9) (Mwr (pu b0) (pu (b0 + 1)) nw) (pu i) (pu (i + 1)) Ya) (MglR ((Msw (pu b0) (pu (b0 + 1)) nw sg) 9) (Mwr (pu b0) (pu (b0 + 1)) nw) (pu i) (pu (i + 1)) Ya) ⟨by omega, by omega⟩ (MW_gl hv0_42) ?_ H locs ls hW (lv_sub hl [2, 3, 4, 1, 0] rfl)
          rw [← hsp_42]; simp [Mgive, c_2, Int32.not_le.mp c_2, c_3, Int32.not_lt.mp c_3]
  exact loop_42 40 (b0 + 2) (MwkY (pu b0) (pu (b0 + 1)) nw Y) (Mwr (pu b0) (pu (b0 + 1)) nw) ⟨by omega, by omega⟩ (MW_wk hY) rfl _ _ _ hW (lv_sub hl [3, 4, 2, 1, 0] rfl)
