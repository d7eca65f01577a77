/-! ===== class and model side by side: how many bits, what is counted ===== -/
theorem xpc1 : ∀ j, j < 8 → ∀ m, m < 2 ^ j → (nI m ||| xbit j) = nI (m + 2 ^ j) ∧ xpop (nI (m + 2 ^ j)) = xpop (nI m) + 1 := by decide +kernel
theorem xpc20 : ∀ j, j < 6 → ∀ a, a < 2 ^ j → ∀ b, b < 256 → (nI (256 * a + b) ||| xbit (8 + j)) = nI (256 * a + b + 2 ^ (8 + j)) ∧ xpop (nI (256 * a + b + 2 ^ (8 + j))) = xpop (nI (256 * a + b)) + 1 := by decide +kernel
theorem xpc21 : ∀ j, j < 8 → 6 ≤ j → ∀ a, a < 2 ^ j → ∀ b, b < 256 → (nI (256 * a + b) ||| xbit (8 + j)) = nI (256 * a + b + 2 ^ (8 + j)) ∧ xpop (nI (256 * a + b + 2 ^ (8 + j))) = xpop (nI (256 * a + b)) + 1 := by decide +kernel
theorem xpc {i m : Nat} (hi : i < 16) (hm : m < 2 ^ i) : (nI m ||| xbit i) = nI (m + 2 ^ i) ∧ xpop (nI (m + 2 ^ i)) = xpop (nI m) + 1 := by
  rcases Nat.lt_or_ge i 8 with h | h
  · exact xpc1 i h m hm
  · obtain ⟨j, rfl⟩ : ∃ j, i = 8 + j := ⟨i - 8, by omega⟩
    have e : 256 * (m / 256) + m % 256 = m := Nat.div_add_mod m 256
    have ha : m / 256 < 2 ^ j := by
      rw [Nat.pow_add] at hm
      exact Nat.div_lt_of_lt_mul hm
    rcases Nat.lt_or_ge j 6 with q | q
    · have := xpc20 j q (m / 256) ha (m % 256) (Nat.mod_lt _ (by decide))
      rw [e] at this
      exact this
    · have := xpc21 j (by omega) q (m / 256) ha (m % 256) (Nat.mod_lt _ (by decide))
      rw [e] at this
      exact this
theorem Z_pop {n : Nat} {d : Int32} {st : Nat → Int32} {L M : Nat → Nat → Int32} (hn : n ≤ 16) (hl : ZLs n ZL st L M) : xpop (Fthat n d L) = Mthat n d M := by
  have := xloop_sim (fun i (s t : Int32) => ∃ m, m < 2 ^ i ∧ s = nI m ∧ t = xpop (nI m)) n 0 (0 : Int32) (0 : Int32) (f := fun i s => if L i 2 = d then s ||| xbit i else s) (g := fun i s => if M i 2 = d then s + 1 else s + 0)
    (fun i s t _ hi hq => by
      obtain ⟨m, hm, rfl, rfl⟩ := hq
      have e2 := (hl i (by omega)).1.1.2.2.1
      have hp := xpc (i := i) (by omega) hm
      rw [e2]
      by_cases c : L i 2 = d
      · rw [if_pos c, if_pos c]
        exact ⟨m + 2 ^ i, by rw [Nat.pow_succ]; omega, hp.1, hp.2.symm⟩
      · rw [if_neg c, if_neg c]
        exact ⟨m, by rw [Nat.pow_succ]; omega, rfl, xadd0⟩) ⟨0, by decide, rfl, by decide +kernel⟩
  obtain ⟨m, _, e1, e2⟩ := this
  unfold Fthat Mthat
  rw [e1, e2]
theorem Z_count {σ : xS} {sg h p : Nat → Int32} {M U V : Nat → Nat → Int32} {x pad : Int32} {pm : Nat} (hk : Sok σ) (z : ZS σ sg M U V) (hp : p 2 = pad) (hh : h 2 = nI pm) : Fcount x σ h p = Mcount (cN σ) (cH σ) (cW σ) pm x pad sg M U V := by
  have hn : cN σ ≤ 16 := hk.1.2.1
  have ht := fun x => Z_total (nh := cH σ) x z.2.2.1 z.2.2.2.1 z.2.2.2.2.1
  have h7 : r_total 1 σ = Msum (cN σ) 7 M := ht 1
  have h8 : r_total 0 σ = Msum (cW σ) 5 V := ht 0
  have h9 : r_total 2 σ = Msum (cH σ) 1 U := ht 2
  have h10 : r_total 3 σ = Msum (cN σ) 8 M := ht 3
  have h5 : xpop (r_lampsThatAre 2 σ) = Mthat (cN σ) 2 M := Z_pop hn z.2.2.1
  have h6 : xpop (r_lampsThatAre 1 σ) = Mthat (cN σ) 1 M := Z_pop hn z.2.2.1
  have h4 : r_walkersInStreet σ = Minstr (cW σ) V := Z_instr z.2.2.2.2.1
  obtain ⟨n1, n2, n3⟩ := ZS.n4 hk z
  have n0 : sg 6 = σ 0 0 7 := z.2.1.1
  have hset := (ZSet_iff.mp z.1).1
  unfold Fcount Mcount
  rw [h4, h5, h6, h7, h8, h9, h10, hp, hh]
  by_cases c : Fin3 x 11 16 = 0
  · rw [if_pos c, if_pos c]
    by_cases d : Fin3 x 0 3 = 0
    · have hx := fun k (hk : k ≤ 3) => xne_k (x := x) (k := k) (n := 3) d hk (by decide)
      have q0 : ¬ x = 0 := hx 0 (by decide)
      have q1 : ¬ x = 1 := hx 1 (by decide)
      have q2 : ¬ x = 2 := hx 2 (by decide)
      have q3 : ¬ x = 3 := hx 3 (by decide)
      rw [if_pos d, if_neg q0, if_neg q1, if_neg q2, if_neg q3]
    · have hx := xfin 3 rfl (by decide) d
      obtain ⟨k, hk⟩ : ∃ k, k = x.toNatClampNeg := ⟨_, rfl⟩
      rw [← hk] at hx
      obtain ⟨hx1, rfl⟩ := hx
      rw [if_neg d, nI_clamp (by omega)]
      have : k = 0 ∨ k = 1 ∨ k = 2 ∨ k = 3 := by omega
      rcases this with rfl | rfl | rfl | rfl
      · exact n0.symm
      · exact n1.symm
      · exact n2.symm
      · exact n3.symm
  · have hx := xfin11 c
    have d : Fin3 x 0 3 = 0 := by
      by_cases d : Fin3 x 0 3 = 0
      · exact d
      · have h3 := xfin 3 rfl (by decide) d
        rw [h3.2] at c
        have := (show ∀ k, k < 4 → Fin3 (nI k) 11 16 = 0 from by decide +kernel) _ h3.1
        exact absurd this c
    rw [if_neg c, if_pos d, if_neg c]
    exact (hset _ hx.1).symm
