/-! ===== the pad: its fields (2 length, 3 at, 4 how many numbers, 5 kind), its signs, its numbers ===== -/
abbrev xPS : Type := (Nat → Int32) × (Nat → Int32)
def Pok (p : Nat → Int32) : Prop := p 2 = nI (p 2).toNatClampNeg ∧ (p 2).toNatClampNeg ≤ 80 ∧ p 3 = nI (p 3).toNatClampNeg ∧ (p 3).toNatClampNeg ≤ 80 ∧ p 4 = nI (p 4).toNatClampNeg ∧ (p 4).toNatClampNeg ≤ 80
def Fsign (sn p : Nat → Int32) : Int32 := if p 3 < p 2 then (if p 3 < 80 then sn (p 3).toNatClampNeg else 0) else 0
def Fdig (c : Int32) : Int32 := if c < 48 then 0 else if 57 < c then 0 else 1
def Pinc (p : Nat → Int32) : Nat → Int32 := va_up p 3 (p 3 + 1)
def Pcap (p : Nat → Int32) : Nat → Int32 := if p 4 < 80 then va_up p 4 (p 4 + 1) else p
def Ncap (v : Int32) (p u : Nat → Int32) : Nat → Int32 := if p 4 < 80 then va_up u (p 4).toNatClampNeg v else u
def Kcap (v : Int32) (q : xPS) : xPS := (Pcap q.1, Ncap v q.1 q.2)
def Frs (w : Int32) (sn p : Nat → Int32) : (Nat → Int32) × Int32 := if Fsign sn p = w then (Pinc p, 1) else (p, 0)
def Fnum (sn : Nat → Int32) : Nat → (Nat → Int32) × Int32 → (Nat → Int32) × Int32
  | 0, q => q
  | k + 1, q => if Fdig (Fsign sn q.1) = 0 then q else Fnum sn k (Pinc q.1, 10 * q.2 + (Fsign sn q.1 - 48))
def Frn (sn : Nat → Int32) (q : xPS) : xPS × Int32 :=
  if Fdig (Fsign sn q.1) = 0 then (q, 0) else if Fsign sn q.1 = 48 then (Kcap (Fnum sn 1 (q.1, 0)).2 ((Fnum sn 1 (q.1, 0)).1, q.2), 1) else (Kcap (Fnum sn 3 (q.1, 0)).2 ((Fnum sn 3 (q.1, 0)).1, q.2), 1)
def Frm (sn : Nat → Int32) (q : xPS) : xPS × Int32 :=
  if Fsign sn q.1 < 48 then (q, 0) else if Fsign sn q.1 ≤ 50 then ((Pinc (Pcap q.1), Ncap (Fsign sn q.1 - 48) q.1 q.2), 1) else (q, 0)
theorem Pok_sign {sn p : Nat → Int32} (h : Pok p) (hs : ¬ Fsign sn p = 0) : (p 3).toNatClampNeg < 80 := by
  unfold Fsign at hs
  split at hs
  · split at hs
    · rename_i h1
      exact (xix (n := 80) (by rw [h.2.2.1]; exact nI_pos' (by have := h.2.2.2.1; omega)) h1 (by decide)).1
    · exact absurd rfl hs
  · exact absurd rfl hs
theorem Pok_inc {sn p : Nat → Int32} (h : Pok p) (hs : ¬ Fsign sn p = 0) : Pok (Pinc p) := by
  have h3 := Pok_sign h hs
  obtain ⟨a1, a2, a3, a4, a5, a6⟩ := h
  have e : p 3 + 1 = nI ((p 3).toNatClampNeg + 1) := by rw [a3, nI_clamp (by omega)]; exact nI_1 _
  refine ⟨a1, a2, ?_, ?_, a5, a6⟩
  · show p 3 + 1 = nI (p 3 + 1).toNatClampNeg
    rw [e, nI_clamp (by omega)]
  · show (p 3 + 1).toNatClampNeg ≤ 80
    rw [e, nI_clamp (by omega)]
    omega
theorem Pok_cap {p : Nat → Int32} (h : Pok p) : Pok (Pcap p) := by
  unfold Pcap
  split
  · rename_i h1
    obtain ⟨a1, a2, a3, a4, a5, a6⟩ := h
    have h2 : (p 4).toNatClampNeg < 80 := (xix (n := 80) (by rw [a5]; exact nI_pos' (by omega)) h1 (by decide)).1
    have e : p 4 + 1 = nI ((p 4).toNatClampNeg + 1) := by rw [a5, nI_clamp (by omega)]; exact nI_1 _
    refine ⟨a1, a2, a3, a4, ?_, ?_⟩
    · show p 4 + 1 = nI (p 4 + 1).toNatClampNeg
      rw [e, nI_clamp (by omega)]
    · show (p 4 + 1).toNatClampNeg ≤ 80
      rw [e, nI_clamp (by omega)]
      omega
  · exact h
theorem Pok_rs {w : Int32} {sn p : Nat → Int32} (h : Pok p) (hw : ¬ w = 0) : Pok (Frs w sn p).1 := by
  unfold Frs
  split
  · rename_i h1
    exact Pok_inc h (sn := sn) (by rw [h1]; exact hw)
  · exact h
theorem Fdig_ne {c : Int32} (h : ¬ Fdig c = 0) : ¬ c = 0 := by
  rintro rfl
  exact h (by decide)
theorem Pok_num {sn : Nat → Int32} : ∀ (k : Nat) (q : (Nat → Int32) × Int32), Pok q.1 → Pok (Fnum sn k q).1
  | 0, _, h => h
  | k + 1, q, h => by
    unfold Fnum
    split
    · exact h
    · rename_i h1
      exact Pok_num k _ (Pok_inc h (Fdig_ne h1))
theorem Pok_rn {sn : Nat → Int32} {q : xPS} (h : Pok q.1) : Pok (Frn sn q).1.1 := by
  unfold Frn
  split
  · exact h
  · split
    · exact Pok_cap (Pok_num 1 _ h)
    · exact Pok_cap (Pok_num 3 _ h)
theorem Pok_capinc {sn p : Nat → Int32} (h : Pok p) (hs : ¬ Fsign sn p = 0) : Pok (Pinc (Pcap p)) := by
  have hc := Pok_cap h
  have e3 : Pcap p 3 = p 3 := by unfold Pcap; split <;> rfl
  have e2 : Pcap p 2 = p 2 := by unfold Pcap; split <;> rfl
  exact Pok_inc (sn := sn) hc (by unfold Fsign at hs ⊢; rw [e3, e2]; exact hs)
theorem Pok_rm {sn : Nat → Int32} {q : xPS} (h : Pok q.1) : Pok (Frm sn q).1.1 := by
  unfold Frm
  split
  · exact h
  · split
    · rename_i h1 _
      exact Pok_capinc h (sn := sn) (fun e => h1 (by rw [e]; decide))
    · exact h
/-- a step of an order's reading behind another one: only where that one answered true -/
def Pand (r : xPS × Int32) (g : xPS → xPS × Int32) : xPS × Int32 := if r.2 = 0 then (r.1, 0) else g r.1
def Frs2 (w : Int32) (sn : Nat → Int32) (q : xPS) : xPS × Int32 := (((Frs w sn q.1).1, q.2), (Frs w sn q.1).2)
def Fone (r : xPS × Int32) : xPS × Int32 := if r.2 = 0 then (r.1, 0) else (r.1, 1)
/-- a goal behind its ">": a number, and "*" with another one, or 0 -/
def Fgoal1 (sn : Nat → Int32) (q : xPS) : xPS × Int32 := Pand (Frn sn (Pinc q.1, q.2)) (fun z => if Fsign sn z.1 = 42 then Pand (Frs2 42 sn z) (fun z => Fone (Frn sn z)) else (Kcap 0 z, 1))
def Fgoals (sn : Nat → Int32) : Nat → xPS → xPS × Int32
  | 0, q => (q, 1)
  | k + 1, q => if Fsign sn q.1 = 62 then (if (Fgoal1 sn q).2 = 0 then ((Fgoal1 sn q).1, 0) else Fgoals sn k (Fgoal1 sn q).1) else (q, 1)
def Fro (sn : Nat → Int32) (q : xPS) : xPS × Int32 :=
  if Fsign sn q.1 = 99 then Pand (Frs2 99 sn (va_up (va_up q.1 4 0) 5 (Fsign sn q.1), q.2)) (fun z => Fone (Frn sn z))
  else if Fsign sn q.1 = 109 then Pand (Frs2 109 sn (va_up (va_up q.1 4 0) 5 (Fsign sn q.1), q.2)) (fun z => Pand (Frn sn z) (fun z => Pand (Frs2 61 sn z) (fun z => Fone (Frm sn z))))
  else if Fsign sn q.1 = 116 then Pand (Frs2 116 sn (va_up (va_up q.1 4 0) 5 (Fsign sn q.1), q.2)) (fun z => Fone (Frn sn z))
  else if Fsign sn q.1 = 119 then Pand (Frs2 119 sn (va_up (va_up q.1 4 0) 5 (Fsign sn q.1), q.2)) (fun z => Pand (Frn sn z) (fun z => Pand (Frs2 47 sn z) (fun z => Pand (Frn sn z) (fun z => Fone (Fgoals sn 80 z)))))
  else ((va_up (va_up q.1 4 0) 5 (Fsign sn q.1), q.2), 0)
theorem Pok_and {r : xPS × Int32} {g : xPS → xPS × Int32} (h : Pok r.1.1) (hg : ∀ z, Pok z.1 → Pok (g z).1.1) : Pok (Pand r g).1.1 := by
  unfold Pand
  split
  · exact h
  · exact hg _ h
theorem Pok_one {r : xPS × Int32} (h : Pok r.1.1) : Pok (Fone r).1.1 := by
  unfold Fone
  split <;> exact h
theorem Pok_goal1 {sn : Nat → Int32} {q : xPS} (h : Pok q.1) (hs : Fsign sn q.1 = 62) : Pok (Fgoal1 sn q).1.1 := by
  unfold Fgoal1
  refine Pok_and (Pok_rn (Pok_inc h (sn := sn) (by rw [hs]; decide))) (fun z hz => ?_)
  split
  · exact Pok_and (Pok_rs hz (by decide)) (fun z hz => Pok_one (Pok_rn hz))
  · exact Pok_cap hz
theorem Pok_goals {sn : Nat → Int32} : ∀ (k : Nat) (q : xPS), Pok q.1 → Pok (Fgoals sn k q).1.1
  | 0, _, h => h
  | k + 1, q, h => by
    unfold Fgoals
    split
    · rename_i h1
      have h2 := Pok_goal1 h h1
      split
      · exact h2
      · exact Pok_goals k _ h2
    · exact h
theorem Pok_0 {p : Nat → Int32} (h : Pok p) (c : Int32) : Pok (va_up (va_up p 4 0) 5 c) := ⟨h.1, h.2.1, h.2.2.1, h.2.2.2.1, (by decide : (0 : Int32) = nI (0 : Int32).toNatClampNeg), (by decide : (0 : Int32).toNatClampNeg ≤ 80)⟩
theorem Pok_4 {p : Nat → Int32} (h : Pok p) : Pok (va_up p 4 0) := ⟨h.1, h.2.1, h.2.2.1, h.2.2.2.1, (by decide : (0 : Int32) = nI (0 : Int32).toNatClampNeg), (by decide : (0 : Int32).toNatClampNeg ≤ 80)⟩
theorem Pok_3 {p : Nat → Int32} (h : Pok p) : Pok (va_up p 3 0) := ⟨h.1, h.2.1, (by decide : (0 : Int32) = nI (0 : Int32).toNatClampNeg), (by decide : (0 : Int32).toNatClampNeg ≤ 80), h.2.2.2.2.1, h.2.2.2.2.2⟩
theorem Pok_ro {sn : Nat → Int32} {q : xPS} (h : Pok q.1) : Pok (Fro sn q).1.1 := by
  unfold Fro
  split
  · exact Pok_and (Pok_rs (Pok_0 h _) (by decide)) (fun z hz => Pok_one (Pok_rn hz))
  · split
    · exact Pok_and (Pok_rs (Pok_0 h _) (by decide)) (fun z hz => Pok_and (Pok_rn hz) (fun z hz => Pok_and (Pok_rs hz (by decide)) (fun z hz => Pok_one (Pok_rm hz))))
    · split
      · exact Pok_and (Pok_rs (Pok_0 h _) (by decide)) (fun z hz => Pok_one (Pok_rn hz))
      · split
        · exact Pok_and (Pok_rs (Pok_0 h _) (by decide)) (fun z hz => Pok_and (Pok_rn hz) (fun z hz => Pok_and (Pok_rs hz (by decide)) (fun z hz => Pok_and (Pok_rn hz) (fun z hz => Pok_one (Pok_goals 80 z hz)))))
        · exact Pok_0 h _
def Fff (sn : Nat → Int32) : Nat → xPS → xPS × Int32
  | 0, q => (q, q.1 3)
  | k + 1, q => if (Fro sn q).2 = 0 then ((Fro sn q).1, (Fro sn q).1.1 3) else if (Fro sn q).1.1 3 < (Fro sn q).1.1 2 then
      (if (Frs2 59 sn (Fro sn q).1).2 = 0 then ((Frs2 59 sn (Fro sn q).1).1, (Frs2 59 sn (Fro sn q).1).1.1 3) else Fff sn k (Frs2 59 sn (Fro sn q).1).1) else ((Fro sn q).1, -6)
def Ffirst (sn : Nat → Int32) (q : xPS) : xPS × Int32 := Fff sn 80 (va_up q.1 3 0, q.2)
def Fnext (sn : Nat → Int32) (q : xPS) : xPS × Int32 := if q.1 3 = 0 then Fone (Fro sn q) else Pand (Frs2 59 sn q) (fun z => Fone (Fro sn z))
theorem Pok_ff {sn : Nat → Int32} : ∀ (k : Nat) (q : xPS), Pok q.1 → Pok (Fff sn k q).1.1
  | 0, _, h => h
  | k + 1, q, h => by
    unfold Fff
    have h1 : Pok (Fro sn q).1.1 := Pok_ro h
    have h2 : Pok (Frs2 59 sn (Fro sn q).1).1.1 := Pok_rs h1 (by decide)
    split
    · exact h1
    · split
      · split
        · exact h2
        · exact Pok_ff k _ h2
      · exact h1
theorem Pok_first {sn : Nat → Int32} {q : xPS} (h : Pok q.1) : Pok (Ffirst sn q).1.1 := Pok_ff 80 _ (Pok_3 h)
theorem Pok_next {sn : Nat → Int32} {q : xPS} (h : Pok q.1) : Pok (Fnext sn q).1.1 := by
  unfold Fnext
  split
  · exact Pok_one (Pok_ro h)
  · exact Pok_and (Pok_rs h (by decide)) (fun z hz => Pok_one (Pok_ro hz))
theorem xpix {p : Nat → Int32} (h : Pok p) (c : ¬ 80 ≤ p 3) : (p 3).toNatClampNeg < 80 := (xix (n := 80) (by rw [h.2.2.1]; exact nI_pos' (by have := h.2.2.2.1; omega)) (Int32.not_le.mp c) (by decide)).1
theorem xpix4 {p : Nat → Int32} (h : Pok p) (c : ¬ 80 ≤ p 4) : (p 4).toNatClampNeg < 80 := (xix (n := 80) (by rw [h.2.2.2.2.1]; exact nI_pos' (by have := h.2.2.2.2.2; omega)) (Int32.not_le.mp c) (by decide)).1
theorem xpix2 {p : Nat → Int32} (h : Pok p) (c : ¬ 80 ≤ p 2) : (p 2).toNatClampNeg < 80 := (xix (n := 80) (by rw [h.1]; exact nI_pos' (by have := h.2.1; omega)) (Int32.not_le.mp c) (by decide)).1
def Cok (sn : Nat → Int32) : Prop := ∀ j, j < 80 → narrow .char (.int (sn j)) = .int (sn j)
theorem Fsign_nar {sn p : Nat → Int32} (h : Pok p) (hc : Cok sn) : narrow .char (.int (Fsign sn p)) = .int (Fsign sn p) := by
  unfold Fsign
  split
  · split
    · rename_i h1
      exact hc _ (xpix h (Int32.not_le.mpr h1))
    · rfl
  · rfl
