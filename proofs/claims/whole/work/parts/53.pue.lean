/-! ===== class and model side by side: how many bits, what is counted ===== -/
theorem nI_land {a b : Nat} : nI a &&& nI b = nI (a &&& b) := by
  apply Int32.toBitVec_inj.mp
  rw [Int32.toBitVec_and]
  exact (BitVec.ofNat_and (w := 32) (x := a) (y := b)).symm
theorem nI_lor {a b : Nat} : nI a ||| nI b = nI (a ||| b) := by
  apply Int32.toBitVec_inj.mp
  rw [Int32.toBitVec_or]
  exact (BitVec.ofNat_or (w := 32) (x := a) (y := b)).symm
theorem xushr_nI {m c : Nat} (hm : m < 2 ^ 32) (hc : c < 32) : xushr (nI m) (nI c) = nI (m >>> c) := by
  have ec : (nI c).toUInt32 &&& Int32.toUInt32 31 = UInt32.ofNat c := (show ∀ c, c < 32 → (nI c).toUInt32 &&& Int32.toUInt32 31 = UInt32.ofNat c from by decide +kernel) c hc
  unfold xushr
  rw [ec]
  have e : (nI m).toUInt32 >>> UInt32.ofNat c = UInt32.ofNat (m >>> c) := by
    apply UInt32.toNat_inj.mp
    have h1 : (nI m).toUInt32.toNat = m := by
      show (UInt32.ofNat m).toNat = m
      exact UInt32.toNat_ofNat_of_lt' hm
    rw [UInt32.toNat_shiftRight, h1, UInt32.toNat_ofNat_of_lt' (show c < 2 ^ 32 by omega), UInt32.toNat_ofNat_of_lt' (show m >>> c < 2 ^ 32 from Nat.lt_of_le_of_lt (Nat.shiftRight_le m c) hm), Nat.mod_eq_of_lt hc]
  rw [e]
  rfl
def npa (m : Nat) : Nat := m - ((m >>> 1) &&& 1431655765)
def npb (m : Nat) : Nat := (m &&& 858993459) + ((m >>> 2) &&& 858993459)
def npc (m : Nat) : Nat := (m + m >>> 4) &&& 252645135
def npd (m : Nat) : Nat := m + m >>> 8
def npe (m : Nat) : Nat := m + m >>> 16
def npop (m : Nat) : Nat := npe (npd (npc (npb (npa m)))) &&& 63
theorem npa_nI {m : Nat} (h : m < 2 ^ 32) : xpa (nI m) = nI (npa m) := by
  unfold xpa npa
  rw [show (1 : Int32) = nI 1 from by decide, show (1431655765 : Int32) = nI 1431655765 from by decide, xushr_nI h (by decide), nI_land]
  exact xsub_le (Nat.le_trans Nat.and_le_left (Nat.shiftRight_le m 1))
theorem npb_nI {m : Nat} (h : m < 2 ^ 32) : xpb (nI m) = nI (npb m) := by
  unfold xpb npb
  rw [show (2 : Int32) = nI 2 from by decide, show (858993459 : Int32) = nI 858993459 from by decide, xushr_nI h (by decide), nI_land, nI_land, nI_add]
theorem npc_nI {m : Nat} (h : m < 2 ^ 32) : xpc (nI m) = nI (npc m) := by
  unfold xpc npc
  rw [show (4 : Int32) = nI 4 from by decide, show (252645135 : Int32) = nI 252645135 from by decide, xushr_nI h (by decide), nI_add, nI_land]
theorem npd_nI {m : Nat} (h : m < 2 ^ 32) : xpd (nI m) = nI (npd m) := by
  unfold xpd npd
  rw [show (8 : Int32) = nI 8 from by decide, xushr_nI h (by decide), nI_add]
theorem npe_nI {m : Nat} (h : m < 2 ^ 32) : xpe (nI m) = nI (npe m) := by
  unfold xpe npe
  rw [show (16 : Int32) = nI 16 from by decide, xushr_nI h (by decide), nI_add]
theorem xpop_nI {m : Nat} (h : m < 2 ^ 31) : xpop (nI m) = nI (npop m) := by
  have ha : npa m < 2 ^ 32 := by unfold npa; omega
  have hb : npb (npa m) < 2 ^ 32 := by
    have h1 : npa m &&& 858993459 ≤ 858993459 := Nat.and_le_right
    have h2 : (npa m >>> 2) &&& 858993459 ≤ 858993459 := Nat.and_le_right
    unfold npb; omega
  have hc : npc (npb (npa m)) ≤ 252645135 := Nat.and_le_right
  have hd : npd (npc (npb (npa m))) < 2 ^ 32 := by
    have := Nat.shiftRight_le (npc (npb (npa m))) 8
    unfold npd; omega
  unfold xpop npop
  rw [npa_nI (by omega), npb_nI ha, npc_nI hb, npd_nI (by omega), npe_nI hd, show (63 : Int32) = nI 63 from by decide, nI_land]
theorem npop1 : ∀ j, j < 8 → ∀ m, m < 2 ^ j → npop (m + 2 ^ j) = npop m + 1 := by decide +kernel
theorem npop2 : ∀ j, j < 8 → ∀ a, a < 2 ^ j → ∀ b, b < 256 → npop (256 * a + b + 2 ^ (8 + j)) = npop (256 * a + b) + 1 := by decide +kernel
theorem xbitp {i : Nat} (hi : i < 16) : xbit i = nI (2 ^ i) := (show ∀ i, i < 16 → xbit i = nI (2 ^ i) from by decide +kernel) i hi
theorem npopA {i m : Nat} (hi : i < 16) (hm : m < 2 ^ i) : npop (m + 2 ^ i) = npop m + 1 := by
  rcases Nat.lt_or_ge i 8 with h | h
  · exact npop1 i h m hm
  · obtain ⟨j, rfl⟩ : ∃ j, i = 8 + j := ⟨i - 8, by omega⟩
    have e : 256 * (m / 256) + m % 256 = m := Nat.div_add_mod m 256
    have ha : m / 256 < 2 ^ j := by
      rw [Nat.pow_add] at hm
      exact Nat.div_lt_of_lt_mul hm
    have := npop2 j (by omega) (m / 256) ha (m % 256) (Nat.mod_lt _ (by decide))
    rw [e] at this
    exact this
theorem npopB {i m : Nat} (hi : i < 16) (hm : m < 2 ^ i) : (nI m ||| xbit i) = nI (m + 2 ^ i) ∧ xpop (nI (m + 2 ^ i)) = xpop (nI m) + 1 := by
  have hp : 2 ^ i ≤ 2 ^ 15 := Nat.pow_le_pow_right (by decide) (by omega)
  have hp2 : (2 : Nat) ^ 15 = 32768 := by decide
  refine ⟨?_, ?_⟩
  · rw [xbitp hi, nI_lor, Nat.or_comm]
    have := Nat.two_pow_add_eq_or_of_lt hm 1
    rw [Nat.mul_one] at this
    rw [← this, Nat.add_comm]
  · rw [xpop_nI (by omega), xpop_nI (by omega), npopA hi hm, nI_1]
theorem Z_pop {n : Nat} {d : Int32} {st : Nat → Int32} {L M : Nat → Nat → Int32} (hn : n ≤ 16) (hl : ZLs n ZL st L M) : xpop (Fthat n d L) = Mthat n d M := by
  have := xloop_sim (fun i (s t : Int32) => ∃ m, m < 2 ^ i ∧ s = nI m ∧ t = xpop (nI m)) n 0 (0 : Int32) (0 : Int32) (f := fun i s => if L i 2 = d then s ||| xbit i else s) (g := fun i s => if M i 2 = d then s + 1 else s + 0)
    (fun i s t _ hi hq => by
      obtain ⟨m, hm, rfl, rfl⟩ := hq
      have e2 := (hl i (by omega)).1.1.2.2.1
      have hp := npopB (i := i) (by omega) hm
      rw [e2]
      by_cases c : L i 2 = d
      · rw [if_pos c, if_pos c]
        exact ⟨m + 2 ^ i, by rw [Nat.pow_succ]; omega, hp.1, hp.2.symm⟩
      · rw [if_neg c, if_neg c]
        exact ⟨m, by rw [Nat.pow_succ]; omega, rfl, xadd0 _⟩) ⟨0, by decide, rfl, by decide +kernel⟩
  obtain ⟨m, _, e1, e2⟩ := this
  unfold Fthat Mthat
  rw [e1, e2]
theorem Z_count {σ : xS} {sg h p : Nat → Int32} {M U V : Nat → Nat → Int32} {x pad : Int32} {pm : Nat} (hk : Sok σ) (z : ZS σ sg M U V) (hp : p 2 = pad) (hh : h 2 = nI pm) : Fcount x σ h p = Mcount (cN σ) (cH σ) (cW σ) pm x pad sg M U V := by
  have hn : cN σ ≤ 16 := hk.1.2.1
  have ht := fun x => Z_total (nh := cH σ) x z.2.2.1 z.2.2.2.1 z.2.2.2.2.1
  have h7 : r_total 1 σ = Msum (cN σ) 7 M := ht 1
  have h8 : r_total 0 σ = Msum (cW σ) 5 V := ht 0
  have h9 : r_total 2 σ = Msum (cH σ) 1 U := ht 2
  have h10 : r_total 3 σ = Msum (cN σ) 8 M := ht 3
  have h5 : xpop (r_lampsThatAre 2 σ) = Mthat (cN σ) 2 M := Z_pop hn z.2.2.1
  have h6 : xpop (r_lampsThatAre 1 σ) = Mthat (cN σ) 1 M := Z_pop hn z.2.2.1
  have h4 : r_walkersInStreet σ = Minstr (cW σ) V := Z_instr z.2.2.2.2.1
  obtain ⟨n1, n2, n3⟩ := ZS.n4 hk z
  have n0 : sg 6 = σ 0 0 7 := z.2.1.1
  have hset := (ZSet_iff.mp z.1).1
  unfold Fcount Mcount
  rw [h4, h5, h6, h7, h8, h9, h10, hp, hh]
  by_cases c : Fin3 x 11 16 = 0
  · rw [if_pos c, if_pos c]
    by_cases d : Fin3 x 0 3 = 0
    · have hx := fun k (hk : k ≤ 3) => xne_k (x := x) (k := k) (n := 3) d hk (by decide)
      have q0 : ¬ x = 0 := hx 0 (by decide)
      have q1 : ¬ x = 1 := hx 1 (by decide)
      have q2 : ¬ x = 2 := hx 2 (by decide)
      have q3 : ¬ x = 3 := hx 3 (by decide)
      rw [if_pos d, if_neg q0, if_neg q1, if_neg q2, if_neg q3]
    · have hx := xfin 3 rfl (by decide) d
      obtain ⟨k, hk⟩ : ∃ k, k = x.toNatClampNeg := ⟨_, rfl⟩
      rw [← hk] at hx
      obtain ⟨hx1, rfl⟩ := hx
      rw [if_neg d, nI_clamp (by omega)]
      have : k = 0 ∨ k = 1 ∨ k = 2 ∨ k = 3 := by omega
      rcases this with rfl | rfl | rfl | rfl
      · exact n0.symm
      · exact n1.symm
      · exact n2.symm
      · exact n3.symm
  · have hx := xfin11 c
    have d : Fin3 x 0 3 = 0 := by
      by_cases d : Fin3 x 0 3 = 0
      · exact d
      · have h3 := xfin 3 rfl (by decide) d
        rw [h3.2] at c
        have := (show ∀ k, k < 4 → Fin3 (nI k) 11 16 = 0 from by decide +kernel) _ h3.1
        exact absurd this c
    rw [if_neg c, if_pos d, if_neg c]
    exact (hset _ hx.1).symm
