/-! ===== class and model side by side: signs that are put ===== -/
theorem lgc0 {r : Int64} : lg_cmp r 0 = 0 ↔ r = 0 := by
  unfold lg_cmp
  constructor
  · intro h
    by_cases h1 : r > 0
    · rw [if_pos h1] at h; exact absurd h (by decide)
    · rw [if_neg h1] at h
      by_cases h2 : r = 0
      · exact h2
      · rw [if_neg h2] at h; exact absurd h (by decide)
  · rintro rfl
    decide
theorem xshr8_lt {r : Int64} {k : Nat} (h : r.toUInt64.toNat < 256 ^ (k + 1)) : (xshr8 r).toUInt64.toNat < 256 ^ k := by
  have e : (nI 8).toInt64.toUInt64 &&& Int64.toUInt64 63 = 8 := by decide
  show (r.toUInt64 >>> ((nI 8).toInt64.toUInt64 &&& Int64.toUInt64 63)).toNat < 256 ^ k
  rw [e, UInt64.toNat_shiftRight, show (8 : UInt64).toNat % 64 = 8 from by decide, Nat.shiftRight_eq_div_pow]
  rw [Nat.pow_succ] at h
  exact Nat.div_lt_of_lt_mul (by rw [Nat.mul_comm] at h; exact h)
theorem x64_0 {r : Int64} (h : r.toUInt64.toNat < 1) : r = 0 := by
  have e : r.toUInt64 = 0 := UInt64.toNat_inj.mp (by show r.toUInt64.toNat = 0; omega)
  apply Int64.toBitVec_inj.mp
  show r.toUInt64.toBitVec = _
  rw [e]
  rfl
/-- how many signs: a good number, or a bad one -/
theorem Z_cnt : ∀ (k i : Nat) (r : Int64), r.toUInt64.toNat < 256 ^ k →
    (Fsigns k r i = nI (Mcnt k r i).1 ∧ (Mcnt k r i).2.2 = 1 ∧ (Mcnt k r i).2.1 = 0 ∧ (Mcnt k r i).1 ≤ i + k) ∨ (Fsigns k r i = 0 ∧ ((Mcnt k r i).2.2 = 0 ∨ ¬ (Mcnt k r i).2.1 = 0))
  | 0, i, r, h => Or.inl ⟨rfl, rfl, x64_0 h, Nat.le_refl _⟩
  | k + 1, i, r, h => by
    unfold Fsigns Mcnt
    by_cases c : lg_cmp r 0 = 0
    · have e := lgc0.mp c
      subst e
      have c2 : lg_cmp ((0 : Int64) &&& 255) 0 = 0 := by decide
      rw [if_pos c, if_pos c2]
      exact Or.inl ⟨rfl, rfl, rfl, by omega⟩
    · rw [if_neg c]
      by_cases d : lg_cmp (r &&& 255) 0 = 0
      · have e := lgc0.mp d
        rw [if_pos d, e, if_pos (show Fin3 (0 : Int64).toInt32 33 126 = 0 from by decide)]
        exact Or.inr ⟨rfl, Or.inr (fun z => c (lgc0.mpr z))⟩
      · rw [if_neg d]
        by_cases f : Fin3 (r &&& 255).toInt32 33 126 = 0
        · rw [if_pos f, if_pos f]
          exact Or.inr ⟨rfl, Or.inl rfl⟩
        · rw [if_neg f, if_neg f]
          rcases Z_cnt k (i + 1) (xshr8 r) (xshr8_lt h) with ⟨a1, a2, a3, a4⟩ | q
          · exact Or.inl ⟨a1, a2, a3, by omega⟩
          · exact Or.inr q
theorem xbyte {b : BitVec 64} {s : Nat} (hs : s ≤ 56) : (b >>> s) &&& 255#64 = (b.sshiftRight s) &&& 255#64 := by
  apply BitVec.eq_of_getLsbD_eq
  intro k hk
  rw [BitVec.getLsbD_and, BitVec.getLsbD_and, BitVec.getLsbD_ushiftRight, BitVec.getLsbD_sshiftRight]
  by_cases c : k < 8
  · simp [show ¬ 64 ≤ k by omega, show s + k < 64 by omega]
  · have e : (255#64).getLsbD k = false := (show ∀ k, k < 64 → 8 ≤ k → (255#64).getLsbD k = false from by decide +kernel) k hk (by omega)
    rw [e]
    simp
theorem xb16 {y : BitVec 64} {C : Int32} (h : C.toBitVec = (y &&& 255#64).signExtend 32) : (C.toUInt32 % 65536).toInt32 = C := by
  have h1 : C.toUInt32.toNat ≤ 255 := by
    show C.toBitVec.toNat ≤ 255
    rw [h, BitVec.signExtend_eq_setWidth_of_le _ (by decide), BitVec.toNat_setWidth, BitVec.toNat_and]
    exact Nat.le_trans (Nat.mod_le _ _) Nat.and_le_right
  have h2 : C.toUInt32 % 65536 = C.toUInt32 := UInt32.mod_eq_of_lt (by show C.toUInt32.toNat < 65536; omega)
  rw [h2]
  rfl
theorem Z_char {x : Int64} {j k : Nat} (hj : j < 8) : MpC x (j + k + 1) k = xchar x j := by
  have e1 : nI (j + k + 1) - 1 - nI k = nI j := by rw [xdn1, xsub_le (by omega), Nat.add_sub_cancel]
  have s1 : (((8 * nI j).toInt64 &&& 63).toBitVec.smod 64).toNat = 8 * j := (show ∀ j, j < 8 → (((8 * nI j).toInt64 &&& 63).toBitVec.smod 64).toNat = 8 * j from by decide +kernel) j hj
  have s2 : (((nI 8 * nI j).toInt64.toUInt64 &&& Int64.toUInt64 63).toBitVec % 64).toNat = 8 * j := (show ∀ j, j < 8 → (((nI 8 * nI j).toInt64.toUInt64 &&& Int64.toUInt64 63).toBitVec % 64).toNat = 8 * j from by decide +kernel) j hj
  have eA : ((x.toUInt64 >>> ((nI 8 * nI j).toInt64.toUInt64 &&& Int64.toUInt64 63)).toInt64 &&& 255).toBitVec = (x.toBitVec >>> (8 * j)) &&& 255#64 := by
    show (x.toBitVec >>> (((nI 8 * nI j).toInt64.toUInt64 &&& Int64.toUInt64 63).toBitVec % 64).toNat) &&& 255#64 = _
    rw [s2]
  have eB : ((x >>> ((8 * nI j).toInt64 &&& 63)) &&& 255).toBitVec = (x.toBitVec.sshiftRight (8 * j)) &&& 255#64 := by
    show (x.toBitVec.sshiftRight (((8 * nI j).toInt64 &&& 63).toBitVec.smod 64).toNat) &&& 255#64 = _
    rw [s1]
  have eAB : (x.toUInt64 >>> ((nI 8 * nI j).toInt64.toUInt64 &&& Int64.toUInt64 63)).toInt64 &&& 255 = (x >>> ((8 * nI j).toInt64 &&& 63)) &&& 255 := Int64.toBitVec_inj.mp (by rw [eA, eB]; exact xbyte (by omega))
  unfold MpC xchar
  rw [e1, eAB]
  refine (xb16 (y := x.toBitVec.sshiftRight (8 * j)) ?_).symm
  show (((x >>> ((8 * nI j).toInt64 &&& 63)) &&& 255).toBitVec).signExtend 32 = _
  rw [eB]
theorem Fput_at : ∀ (k pn : Nat) (x : Int64) (p s : Nat → Int32), p 2 = nI pn → pn + k ≤ 80 → (Fput k x (p, s)).1 2 = nI (pn + k) ∧ ∀ j, (Fput k x (p, s)).2 j = if pn ≤ j ∧ j < pn + k then xchar x (pn + k - 1 - j) else s j
  | 0, pn, x, p, s, h, _ => ⟨h, fun j => by rw [if_neg (by omega)]; rfl⟩
  | k + 1, pn, x, p, s, h, hk => by
    have hlt : p 2 < 80 := by rw [h]; exact nI_lt (b := 80) (by omega) (by decide)
    have eP : Papp p = va_up p 2 (nI (pn + 1)) := by unfold Papp; rw [if_pos hlt, h, nI_1]
    have eS : Sapp (xchar x k) p s = va_up s pn (xchar x k) := by unfold Sapp; rw [if_pos hlt, h, nI_clamp (by omega)]
    have ih := Fput_at k (pn + 1) x (va_up p 2 (nI (pn + 1))) (va_up s pn (xchar x k)) va_up_at (by omega)
    have e : Fput (k + 1) x (p, s) = Fput k x (va_up p 2 (nI (pn + 1)), va_up s pn (xchar x k)) := by
      show Fput k x (Papp p, Sapp (xchar x k) p s) = _
      rw [eP, eS]
    rw [e]
    refine ⟨ih.1.trans (by rw [show pn + 1 + k = pn + (k + 1) by omega]), fun j => (ih.2 j).trans ?_⟩
    by_cases c : j = pn
    · subst c
      rw [if_neg (by omega), va_up_at, if_pos (by omega)]
      congr 1
      omega
    · rw [va_up_ne _ _ c]
      by_cases d : pn + 1 ≤ j ∧ j < pn + 1 + k
      · rw [if_pos d, if_pos (by omega)]
        congr 1
        omega
      · rw [if_neg d, if_neg (by omega)]
theorem MpS_at {x : Int64} {m pn : Nat} : ∀ (k i : Nat) (p : Nat → Int32) (j : Nat), xloop (fun k p => va_up p (pn + k) (MpC x m k)) k i p j = if pn + i ≤ j ∧ j < pn + i + k then MpC x m (j - pn) else p j
  | 0, i, p, j => by rw [if_neg (by omega)]; rfl
  | k + 1, i, p, j => by
    refine (MpS_at k (i + 1) _ j).trans ?_
    dsimp only
    by_cases c : j = pn + i
    · subst c
      rw [if_neg (by omega), va_up_at, if_pos (by omega)]
      congr 1
      omega
    · rw [va_up_ne _ _ c]
      by_cases d : pn + (i + 1) ≤ j ∧ j < pn + (i + 1) + k
      · rw [if_pos d, if_pos (by omega)]
      · rw [if_neg d, if_neg (by omega)]
/-- the pads: the same length, the same signs -/
def ZPd (p sn f pp : Nat → Int32) : Prop := ∃ n, n ≤ 80 ∧ p 2 = nI n ∧ f 10 = nI n ∧ ∀ j, j < n → sn j = pp j
theorem Z_put {x : Int64} {p sn f pp : Nat → Int32} {n : Nat} (hn : n ≤ 80) (h2 : p 2 = nI n) (h10 : f 10 = nI n) (hA : ∀ j, j < n → sn j = pp j) :
    (Fputs x (p, sn)).2 = Mput x n (-2) (-4) (fun i => nI (n + i)) ∧ ZPd (Fputs x (p, sn)).1.1 (Fputs x (p, sn)).1.2 (Mput x n f f (fun i => va_up f 10 (nI (n + i)))) (Mput x n pp pp (fun i => MpS x i n pp)) := by
  have hx : x.toUInt64.toNat < 256 ^ 8 := Nat.lt_of_lt_of_le x.toUInt64.toNat_lt (by decide)
  have base : ZPd p sn f pp := ⟨n, hn, h2, h10, hA⟩
  unfold Fputs Mput
  rcases Z_cnt 8 0 x hx with ⟨a1, a2, a3, a4⟩ | ⟨a1, a2⟩
  · have e2 : ¬ (Mcnt 8 x 0).2.2 = 0 := by rw [a2]; decide
    have e3 : ¬ ¬ lg_cmp (Mcnt 8 x 0).2.1 0 = 0 := fun z => z (lgc0.mpr a3)
    rw [a1, if_neg e2, if_neg e2, if_neg e2, if_neg e3, if_neg e3, if_neg e3]
    generalize (Mcnt 8 x 0).1 = m at *
    by_cases c : nI m = 0
    · rw [if_pos c, if_pos c, if_pos c, if_pos c]
      exact ⟨rfl, base⟩
    · rw [if_neg c, if_neg c, if_neg c, if_neg c]
      dsimp only
      have e80 : 80 < p 2 + nI m ↔ 80 < nI (n + m) := by rw [h2, nI_add]
      by_cases d : 80 < nI (n + m)
      · rw [if_pos (e80.mpr d), if_pos d, if_pos d, if_pos d]
        exact ⟨rfl, base⟩
      · rw [if_neg (fun z => d (e80.mp z)), if_neg d, if_neg d, if_neg d, nI_clamp (by omega)]
        have hle : n + m ≤ 80 := (xnle_iff (b := 80) (by omega) (by decide)).mp (Int32.not_lt.mp d)
        have hF := Fput_at m n x p sn h2 hle
        refine ⟨hF.1, n + m, hle, hF.1, va_up_at, fun j hj => ?_⟩
        rw [hF.2 j]
        unfold MpS
        rw [MpS_at m 0 pp j]
        by_cases q : n ≤ j
        · rw [if_pos ⟨q, hj⟩, if_pos (by omega)]
          have := Z_char (x := x) (j := n + m - 1 - j) (k := j - n) (by omega)
          rw [show n + m - 1 - j + (j - n) + 1 = m by omega] at this
          exact this.symm
        · rw [if_neg (by omega), if_neg (by omega)]
          exact hA j (by omega)
  · rw [a1, if_pos rfl]
    rcases a2 with a2 | a2
    · rw [if_pos a2, if_pos a2, if_pos a2]
      exact ⟨rfl, base⟩
    · have e3 : ¬ lg_cmp (Mcnt 8 x 0).2.1 0 = 0 := fun z => a2 (lgc0.mp z)
      by_cases c : (Mcnt 8 x 0).2.2 = 0
      · rw [if_pos c, if_pos c, if_pos c]
        exact ⟨rfl, base⟩
      · rw [if_neg c, if_neg c, if_neg c]
        by_cases d : nI (Mcnt 8 x 0).1 = 0
        · rw [if_pos d, if_pos d, if_pos d]
          exact ⟨rfl, base⟩
        · rw [if_neg d, if_neg d, if_neg d, if_pos e3, if_pos e3, if_pos e3]
          exact ⟨rfl, base⟩
