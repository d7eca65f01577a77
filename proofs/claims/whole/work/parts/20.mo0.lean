/-! ===== the model's row `at`: header cells sg, lamps L, houses O, walkers Y ===== -/
def xat (sg : Nat → Int32) (L O Y : Nat → Nat → Int32) : Nat → Int32 := fun k =>
  if k < 10 then sg k else if k < 218 then L ((k - 10) / 13) ((k - 10) % 13) else if k < 242 then O ((k - 218) / 3) ((k - 218) % 3) else Y ((k - 242) / 22) ((k - 242) % 22)
theorem xat_s {sg : Nat → Int32} {L O Y : Nat → Nat → Int32} {k : Nat} (h : k < 10) : xat sg L O Y k = sg k := if_pos h
theorem xat_L {sg : Nat → Int32} {L O Y : Nat → Nat → Int32} {i w : Nat} (hi : i < 16) (hw : w < 13) : xat sg L O Y (10 + 13 * i + w) = L i w := by
  unfold xat
  rw [if_neg (by omega), if_pos (by omega), show (10 + 13 * i + w - 10) / 13 = i by omega, show (10 + 13 * i + w - 10) % 13 = w by omega]
theorem xat_O {sg : Nat → Int32} {L O Y : Nat → Nat → Int32} {i w : Nat} (hi : i < 8) (hw : w < 3) : xat sg L O Y (218 + 3 * i + w) = O i w := by
  unfold xat
  rw [if_neg (by omega), if_neg (by omega), if_pos (by omega), show (218 + 3 * i + w - 218) / 3 = i by omega, show (218 + 3 * i + w - 218) % 3 = w by omega]
theorem xat_Y {sg : Nat → Int32} {L O Y : Nat → Nat → Int32} {i w : Nat} (hw : w < 22) : xat sg L O Y (242 + 22 * i + w) = Y i w := by
  unfold xat
  rw [if_neg (by omega), if_neg (by omega), if_neg (by omega), show (242 + 22 * i + w - 242) / 22 = i by omega, show (242 + 22 * i + w - 242) % 22 = w by omega]
theorem xat_us {sg : Nat → Int32} {L O Y : Nat → Nat → Int32} {k : Nat} {v : Int32} (h : k < 10) : va_up (xat sg L O Y) k v = xat (va_up sg k v) L O Y := by
  funext j
  simp only [xat, va_up]
  by_cases e : j = k
  · rw [if_pos e, if_pos (by omega), if_pos e]
  · rw [if_neg e]
    by_cases q : j < 10
    · rw [if_pos q, if_pos q, if_neg e]
    · rw [if_neg q, if_neg q]
theorem xat_uL {sg : Nat → Int32} {L O Y : Nat → Nat → Int32} {i w : Nat} {v : Int32} (hi : i < 16) (hw : w < 13) : va_up (xat sg L O Y) (10 + 13 * i + w) v = xat sg (va_up L i (va_up (L i) w v)) O Y := by
  funext j
  simp only [xat, va_up]
  by_cases e : j = 10 + 13 * i + w
  · rw [if_pos e, if_neg (by omega), if_pos (by omega), if_pos (by omega), show (j - 10) % 13 = w by omega, va_up_at]
  · rw [if_neg e]
    by_cases q : j < 10
    · rw [if_pos q, if_pos q]
    · rw [if_neg q, if_neg q]
      by_cases q2 : j < 218
      · rw [if_pos q2, if_pos q2]
        by_cases q3 : (j - 10) / 13 = i
        · rw [if_pos q3, va_up_ne _ _ (show (j - 10) % 13 ≠ w by omega), q3]
        · rw [if_neg q3]
      · rw [if_neg q2, if_neg q2]
theorem xat_uO {sg : Nat → Int32} {L O Y : Nat → Nat → Int32} {i w : Nat} {v : Int32} (hi : i < 8) (hw : w < 3) : va_up (xat sg L O Y) (218 + 3 * i + w) v = xat sg L (va_up O i (va_up (O i) w v)) Y := by
  funext j
  simp only [xat, va_up]
  by_cases e : j = 218 + 3 * i + w
  · rw [if_pos e, if_neg (by omega), if_neg (by omega), if_pos (by omega), if_pos (by omega), show (j - 218) % 3 = w by omega, va_up_at]
  · rw [if_neg e]
    by_cases q : j < 10
    · rw [if_pos q, if_pos q]
    · rw [if_neg q, if_neg q]
      by_cases q2 : j < 218
      · rw [if_pos q2, if_pos q2]
      · rw [if_neg q2, if_neg q2]
        by_cases q4 : j < 242
        · rw [if_pos q4, if_pos q4]
          by_cases q3 : (j - 218) / 3 = i
          · rw [if_pos q3, va_up_ne _ _ (show (j - 218) % 3 ≠ w by omega), q3]
          · rw [if_neg q3]
        · rw [if_neg q4, if_neg q4]
theorem xat_uY {sg : Nat → Int32} {L O Y : Nat → Nat → Int32} {i w : Nat} {v : Int32} (hw : w < 22) : va_up (xat sg L O Y) (242 + 22 * i + w) v = xat sg L O (va_up Y i (va_up (Y i) w v)) := by
  funext j
  simp only [xat, va_up]
  by_cases e : j = 242 + 22 * i + w
  · rw [if_pos e, if_neg (by omega), if_neg (by omega), if_neg (by omega), if_pos (by omega), show (j - 242) % 22 = w by omega, va_up_at]
  · rw [if_neg e]
    by_cases q : j < 10
    · rw [if_pos q, if_pos q]
    · rw [if_neg q, if_neg q]
      by_cases q2 : j < 218
      · rw [if_pos q2, if_pos q2]
      · rw [if_neg q2, if_neg q2]
        by_cases q4 : j < 242
        · rw [if_pos q4, if_pos q4]
        · rw [if_neg q4, if_neg q4]
          by_cases q3 : (j - 242) / 22 = i
          · rw [if_pos q3, va_up_ne _ _ (show (j - 242) % 22 ≠ w by omega), q3]
          · rw [if_neg q3]
/-- a row's views -/
def vS (a : Nat → Int32) : Nat → Int32 := a
def vL (a : Nat → Int32) : Nat → Nat → Int32 := fun i w => a (10 + 13 * i + w)
def vO (a : Nat → Int32) : Nat → Nat → Int32 := fun i w => a (218 + 3 * i + w)
def vY (a : Nat → Int32) : Nat → Nat → Int32 := fun i w => a (242 + 22 * i + w)
theorem xat_v (a : Nat → Int32) : xat (vS a) (vL a) (vO a) (vY a) = a := by
  funext k
  unfold xat vS vL vO vY
  by_cases q : k < 10
  · rw [if_pos q]
  · rw [if_neg q]
    by_cases q2 : k < 218
    · rw [if_pos q2, show 10 + 13 * ((k - 10) / 13) + (k - 10) % 13 = k by omega]
    · rw [if_neg q2]
      by_cases q4 : k < 242
      · rw [if_pos q4, show 218 + 3 * ((k - 218) / 3) + (k - 218) % 3 = k by omega]
      · rw [if_neg q4, show 242 + 22 * ((k - 242) / 22) + (k - 242) % 22 = k by omega]
/-- the model's cells with `at` in its parts -/
def xMa (f sg : Nat → Int32) (L O Y : Nat → Nat → Int32) (b c d e g h p q t u : Nat → Int32) : xS := xMo f (xat sg L O Y) b c d e g h p q t u
section XMA
variable {f sg b c d e g h p q t u ℓ : Nat → Int32} {L O Y : Nat → Nat → Int32} {i w : Nat} {v : Int32}
theorem xMa0 : xup3 (xMa f sg L O Y b c d e g h p q t u) 0 0 w v = xMa (va_up f w v) sg L O Y b c d e g h p q t u := xMo0
theorem xMa1 (hw : w < 10) : xup3 (xMa f sg L O Y b c d e g h p q t u) 1 0 w v = xMa f (va_up sg w v) L O Y b c d e g h p q t u := by unfold xMa; rw [xMo1, xat_us hw]
theorem xMa2 (hi : i < 16) (hw : w < 13) : xup3 (xMa f sg L O Y b c d e g h p q t u) 1 0 (10 + 13 * i + w) v = xMa f sg (va_up L i (va_up (L i) w v)) O Y b c d e g h p q t u := by unfold xMa; rw [xMo1, xat_uL hi hw]
theorem xMa3 (hi : i < 8) (hw : w < 3) : xup3 (xMa f sg L O Y b c d e g h p q t u) 1 0 (218 + 3 * i + w) v = xMa f sg L (va_up O i (va_up (O i) w v)) Y b c d e g h p q t u := by unfold xMa; rw [xMo1, xat_uO hi hw]
theorem xMa4 (hw : w < 22) : xup3 (xMa f sg L O Y b c d e g h p q t u) 1 0 (242 + 22 * i + w) v = xMa f sg L O (va_up Y i (va_up (Y i) w v)) b c d e g h p q t u := by unfold xMa; rw [xMo1, xat_uY hw]
theorem xMa5 : xup3 (xMa f sg L O Y b c d e g h p q t u) 2 0 w v = xMa f sg L O Y (va_up b w v) c d e g h p q t u := xMo2
theorem xMa6 : xup3 (xMa f sg L O Y b c d e g h p q t u) 3 0 w v = xMa f sg L O Y b (va_up c w v) d e g h p q t u := xMo3
theorem xMa7 : xup3 (xMa f sg L O Y b c d e g h p q t u) 4 0 w v = xMa f sg L O Y b c (va_up d w v) e g h p q t u := xMo4
theorem xMa8 : xup3 (xMa f sg L O Y b c d e g h p q t u) 5 0 w v = xMa f sg L O Y b c d (va_up e w v) g h p q t u := xMo5
theorem xMa9 : xup3 (xMa f sg L O Y b c d e g h p q t u) 6 0 w v = xMa f sg L O Y b c d e (va_up g w v) h p q t u := xMo6
theorem xMa10 : xup3 (xMa f sg L O Y b c d e g h p q t u) 7 0 w v = xMa f sg L O Y b c d e g (va_up h w v) p q t u := xMo7
theorem xMa11 : xup3 (xMa f sg L O Y b c d e g h p q t u) 8 0 w v = xMa f sg L O Y b c d e g h (va_up p w v) q t u := xMo8
theorem xMa12 : xup3 (xMa f sg L O Y b c d e g h p q t u) 9 0 w v = xMa f sg L O Y b c d e g h p (va_up q w v) t u := xMo9
theorem xMa13 : xup3 (xMa f sg L O Y b c d e g h p q t u) 10 0 w v = xMa f sg L O Y b c d e g h p q (va_up t w v) u := xMo10
theorem xMa14 : xup3 (xMa f sg L O Y b c d e g h p q t u) 11 0 w v = xMa f sg L O Y b c d e g h p q t (va_up u w v) := xMo11
end XMA
