/-! ===== class and model side by side: what there is ===== -/
theorem ZL_wait {ℓ m : Nat → Int32} (h : ZL ℓ m) : (if 0 < m 5 then m 5 else -6) = ℓ 5 ∧ (if 0 < m 5 then m 6 else -6) = (if ℓ 5 = -6 then -6 else ℓ 6) := by
  rcases h.2.1 with ⟨w1, w2⟩ | ⟨⟨a, ha, e⟩, e2, e3, _⟩
  · rw [w1, w2, if_neg (by decide), if_neg (by decide), if_pos rfl]
    exact ⟨rfl, rfl⟩
  · have hp : 0 < nI (a + 1) := nI_lt (a := 0) (by omega) (by omega)
    have hn : ¬ nI (a + 1) = -6 := (show ∀ a, a < 10 → ¬ nI (a + 1) = -6 from by decide +kernel) a ha
    rw [e2, e3, e, if_pos hp, if_pos hp, if_neg hn]
    exact ⟨rfl, rfl⟩
theorem xne_k {x : Int32} {k n : Nat} (c : Fin3 x 0 (nI n) = 0) (hk : k ≤ n) (hn : n < 100) : ¬ x = nI k := by
  rintro rfl
  unfold Fin3 at c
  rw [if_neg (show ¬ nI k < 0 from Int32.not_lt.mpr (xnle (b := 0) (by omega) (Nat.zero_le _))), if_neg (Int32.not_lt.mpr (xnle (by omega) hk))] at c
  exact absurd c (by decide)
theorem Z_tellL {ℓ m : Nat → Int32} {x : Int32} (h : ZL ℓ m) : Ftell ℓ x = MtellL m x := by
  have hw := ZL_wait h
  obtain ⟨⟨a0, a1, a2, a3, a4, a7, a8, a9, a10⟩, _⟩ := h
  unfold Ftell MtellL
  rw [hw.1, hw.2]
  by_cases c : Fin3 x 0 10 = 0
  · have hx := fun k (hk : k ≤ 10) => xne_k (x := x) (k := k) (n := 10) c hk (by decide)
    have h0 : ¬ x = 0 := hx 0 (by decide)
    have h1 : ¬ x = 1 := hx 1 (by decide)
    have h2 : ¬ x = 2 := hx 2 (by decide)
    have h3 : ¬ x = 3 := hx 3 (by decide)
    have h4 : ¬ x = 4 := hx 4 (by decide)
    have h5 : ¬ x = 5 := hx 5 (by decide)
    have h6 : ¬ x = 6 := hx 6 (by decide)
    have h7 : ¬ x = 7 := hx 7 (by decide)
    have h8 : ¬ x = 8 := hx 8 (by decide)
    have h9 : ¬ x = 9 := hx 9 (by decide)
    have h10 : ¬ x = 10 := hx 10 (by decide)
    rw [if_neg h0, if_neg h1, if_neg h2, if_neg h3, if_neg h4, if_neg h5, if_neg h6, if_neg h7, if_neg h8, if_neg h9, if_neg h10, if_neg h5, if_neg h6, if_pos c]
  · have hx := xfin 10 rfl (by decide) c
    obtain ⟨k, hk⟩ : ∃ k, k = x.toNatClampNeg := ⟨_, rfl⟩
    rw [← hk] at hx
    obtain ⟨hx1, rfl⟩ := hx
    have : k = 0 ∨ k = 1 ∨ k = 2 ∨ k = 3 ∨ k = 4 ∨ k = 5 ∨ k = 6 ∨ k = 7 ∨ k = 8 ∨ k = 9 ∨ k = 10 := by omega
    rcases this with rfl | rfl | rfl | rfl | rfl | rfl | rfl | rfl | rfl | rfl | rfl
    · exact a0.symm
    · exact a1.symm
    · exact a2.symm
    · exact a3.symm
    · exact a4.symm
    · rfl
    · rfl
    · exact a7.symm
    · exact a8.symm
    · exact a9.symm
    · exact a10.symm
theorem Z_ofLamp {σ : xS} {sg : Nat → Int32} {M U V : Nat → Nat → Int32} {x w : Int32} (hk : Sok σ) (z : ZS σ sg M U V) : (if r_hasLamp x σ = 0 then -1 else Ftell (σ 2 x.toNatClampNeg) w) = Mof (sg 7) x (-1) (MtellL (M x.toNatClampNeg) w) := by
  have hn : cN σ ≤ 16 := hk.1.2.1
  have hi := Fhas_iff (x := x) hn (ZS.n4 hk z).1
  unfold r_hasLamp Mof
  by_cases c : Fhas (cN σ) x = 0
  · rw [if_pos c, if_pos (hi.mp c)]
  · rw [if_neg c, if_neg (fun q => c (hi.mpr q))]
    exact Z_tellL (z.2.2.1 _ (xhas (x := x) (n := cN σ) (by omega) c).1).1
theorem Z_tellW {n : Nat} {st : Nat → Int32} {L M : Nat → Nat → Int32} {ω γ π r : Nat → Int32} {x : Int32} (hl : ZLs n ZL st L M) (h : ZY ω γ π r) : FtellW n L ω γ x = MtellW n M r x := by
  obtain ⟨⟨b0, b1, b2, b3, b4, b5, b6⟩, h3, _, g, hg, e2, h5, hG, _⟩ := h
  unfold FtellW MtellW
  rw [b0, b1, b2, b3, b4, b5, b6, ← Z_lit hl h3]
  have e5 : (if ω 5 = 0 then (0 : Int32) else 1) = ω 5 := by
    rcases h5 with q | ⟨q, _⟩
    · rw [if_pos q, q]
    · rw [if_neg (by rw [q]; decide), q]
  have e8 : (if 0 < ω 2 then γ 0 else -6) = (if 0 < ω 2 then r 8 else -6) := by
    by_cases c : 0 < ω 2
    · rw [if_pos c, if_pos c]
      have : 0 < g := (nI_ltI (a := 0) (by omega) (by omega)).mp (by rw [← e2]; exact c)
      exact (hG 0 this).1.symm
    · rw [if_neg c, if_neg c]
  have e7 : (if ω 5 = 0 then (if Flit n (ω 3) L = 0 then (0 : Int32) else 1) else 0) = (if Mstr r = 0 then 0 else if Flit n (ω 3) L = 0 then 0 else 1) := by
    by_cases c : ω 5 = 0
    · rw [if_pos c, if_neg (fun q => Mstr_0.mp q (by rw [b2]; exact c))]
    · rw [if_neg c, if_pos (Mstr_0.mpr (by rw [b2]; exact c))]
  rw [e5, e8, e7]
theorem Z_ofWalker {σ : xS} {sg : Nat → Int32} {M U V : Nat → Nat → Int32} {x w : Int32} (hk : Sok σ) (z : ZS σ sg M U V) : (if r_hasWalker x σ = 0 then -1 else r_tellOfWalker x.toNatClampNeg w σ) = Mof (sg 9) x (-1) (MtellW (cN σ) M (V x.toNatClampNeg) w) := by
  have hn : cW σ ≤ 8 := hk.1.2.2.2.2.2
  have hi := Fhas_iff (x := x) (show cW σ ≤ 16 by omega) (ZS.n4 hk z).2.2
  unfold r_hasWalker Mof r_tellOfWalker
  by_cases c : Fhas (cW σ) x = 0
  · rw [if_pos c, if_pos (hi.mp c)]
  · rw [if_neg c, if_neg (fun q => c (hi.mpr q))]
    exact Z_tellW z.2.2.1 (z.2.2.2.2.1 _ (xhas (x := x) (n := cW σ) (by omega) c).1)
theorem Z_ofHouse {σ : xS} {sg : Nat → Int32} {M U V : Nat → Nat → Int32} {x w : Int32} (hk : Sok σ) (z : ZS σ sg M U V) : (if r_hasHouse x σ = 0 then -1 else r_tellOfHouse x.toNatClampNeg w σ) = Mof (sg 8) x (-1) (MtellH (cN σ) M U x.toNatClampNeg w) := by
  have hn : cH σ ≤ 8 := hk.1.2.2.2.1
  have hi := Fhas_iff (x := x) (show cH σ ≤ 16 by omega) (ZS.n4 hk z).2.1
  unfold r_hasHouse Mof r_tellOfHouse
  by_cases c : Fhas (cH σ) x = 0
  · rw [if_pos c, if_pos (hi.mp c)]
  · rw [if_neg c, if_neg (fun q => c (hi.mpr q))]
    have hx := (xhas (x := x) (n := cH σ) (by omega) c).1
    obtain ⟨u0, u1, u9⟩ := z.2.2.2.1 _ hx
    have hd : Fdist2 (cN σ) (σ 3 x.toNatClampNeg 0) (σ 2) = 0 ↔ Mdis M U x.toNatClampNeg (cN σ) = 0 := Z_dis (a := x.toNatClampNeg) (O := σ 3) (U := U) z.2.2.1 u0 u9
    have e : (if Fdist2 (cN σ) (σ 3 x.toNatClampNeg 0) (σ 2) = 0 then (0 : Int32) else 1) = (if Mdis M U x.toNatClampNeg (cN σ) = 0 then 0 else 1) := by
      by_cases d : Fdist2 (cN σ) (σ 3 x.toNatClampNeg 0) (σ 2) = 0
      · rw [if_pos d, if_pos (hd.mp d)]
      · rw [if_neg d, if_neg (fun q => d (hd.mpr q))]
    unfold FtellH MtellH
    rw [e, u0, u1]
theorem Z_lightAt {σ : xS} {sg : Nat → Int32} {M U V : Nat → Nat → Int32} {x : Int32} (z : ZS σ sg M U V) : (if Fin3 x 0 99 = 0 then -1 else r_lampsThatLight x σ) = (if Fin3 x 0 99 = 0 then -1 else Mlit (cN σ) x M) := by
  by_cases c : Fin3 x 0 99 = 0
  · rw [if_pos c, if_pos c]
  · rw [if_neg c, if_neg c]
    exact Z_lit z.2.2.1 (xR99 c)
theorem xor_0 {s : Int32} : s ||| 0 = s := by
  apply Int32.toBitVec_inj.mp
  rw [Int32.toBitVec_or]
  exact BitVec.or_zero
theorem Z_hearers {σ : xS} {sg : Nat → Int32} {M U V : Nat → Nat → Int32} {x : Int32} (hk : Sok σ) (z : ZS σ sg M U V) : (if r_hasLamp x σ = 0 then -1 else r_lampsThatHear x.toNatClampNeg σ) = Mof (sg 7) x (-1) (Mhearers (cN σ) sg x.toNatClampNeg M) := by
  have hn : cN σ ≤ 16 := hk.1.2.1
  have hi := Fhas_iff (x := x) hn (ZS.n4 hk z).1
  unfold r_hasLamp Mof r_lampsThatHear
  by_cases c : Fhas (cN σ) x = 0
  · rw [if_pos c, if_pos (hi.mp c)]
  · rw [if_neg c, if_neg (fun q => c (hi.mpr q))]
    have hx := (xhas (x := x) (n := cN σ) (by omega) c).1
    unfold Fhearers Mhearers
    rw [ZL_3 (z.2.2.1 _ hx).1]
    by_cases d : σ 2 x.toNatClampNeg 3 = 2
    · rw [if_pos d]
      exact xloop_inv (fun s => s = 0) (fun i s hs => by rw [if_pos d]; exact hs) (cN σ) 0 0 rfl
    · rw [if_neg d]
      refine xloop_eq (cN σ) 0 0 (fun i s _ hj => ?_)
      rw [if_neg d, Z_hears (fun _ _ q => q) hn (show i < cN σ by omega) hx (ZH_eq z.2.2.1.st9 z.1.1) z.2.2.1]
      by_cases e : Mhears sg M i x.toNatClampNeg = 0
      · rw [if_pos e, if_pos e, xor_0]
      · rw [if_neg e, if_neg e]
theorem Z_instr {nw : Nat} {Y P Q V : Nat → Nat → Int32} (h : ZYs nw Y P Q V) : Finstreet nw Y = Minstr nw V := by
  unfold Finstreet Minstr
  refine xloop_eq nw 0 0 (fun i s _ hi => ?_)
  have b2 := (h i (by omega)).1.2.2.1
  by_cases c : Y i 5 = 0
  · rw [if_pos c, if_neg (fun q => Mstr_0.mp q (by rw [b2]; exact c))]
  · rw [if_neg c, if_pos (Mstr_0.mpr (by rw [b2]; exact c)), xadd0]
theorem Z_sum {n u w : Nat} {T V : Nat → Nat → Int32} (h : ∀ i, i < n → V i w = T i u) : Fsum n u T = Msum n w V := by
  unfold Fsum Msum
  exact xloop_eq n 0 0 (fun i s _ hi => by rw [h i (by omega)])
theorem Z_total {n nh nw : Nat} {st : Nat → Int32} {L M O U Y P Q V : Nat → Nat → Int32} (x : Int32) (hl : ZLs n ZL st L M) (hO : ZOs nh O U) (hY : ZYs nw Y P Q V) : Ftotal n nh nw L O Y x = Mcounted n nh nw x M U V := by
  unfold Ftotal Mcounted
  rw [Z_sum (u := 7) (w := 5) (fun i hi => (hY i hi).1.2.2.2.2.2.1), Z_sum (u := 7) (w := 7) (fun i hi => (hl i hi).1.1.2.2.2.2.2.1), Z_sum (u := 1) (w := 1) (fun i hi => (hO i hi).2.1), Z_sum (u := 8) (w := 8) (fun i hi => (hl i hi).1.1.2.2.2.2.2.2.1)]
