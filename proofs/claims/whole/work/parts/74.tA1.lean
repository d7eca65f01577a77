/-! every word of the walk's list holds at the law's entry: each by its place in the tables (the skeleton's PART A, turned) -/
theorem tI1 {args : Array Value} {s : State} (h : ∀ c ∈ tables_1, c.before args s = true) {w : Cond} (i : Nat) (e : tables_1_1[i]? = some w) : w.before args s = true := h w (have m := List.mem_of_getElem? e; List.mem_append_left _ m)
theorem tI2 {args : Array Value} {s : State} (h : ∀ c ∈ tables_1, c.before args s = true) {w : Cond} (i : Nat) (e : tables_1_2[i]? = some w) : w.before args s = true := h w (have m := List.mem_of_getElem? e; List.mem_append_right _ (List.mem_append_left _ m))
theorem tI3 {args : Array Value} {s : State} (h : ∀ c ∈ tables_1, c.before args s = true) {w : Cond} (i : Nat) (e : tables_1_3[i]? = some w) : w.before args s = true := h w (have m := List.mem_of_getElem? e; List.mem_append_right _ (List.mem_append_right _ (List.mem_append_left _ m)))
theorem tI4 {args : Array Value} {s : State} (h : ∀ c ∈ tables_1, c.before args s = true) {w : Cond} (i : Nat) (e : tables_1_4[i]? = some w) : w.before args s = true := h w (have m := List.mem_of_getElem? e; List.mem_append_right _ (List.mem_append_right _ (List.mem_append_right _ (List.mem_append_left _ m))))
theorem tI5 {args : Array Value} {s : State} (h : ∀ c ∈ tables_1, c.before args s = true) {w : Cond} (i : Nat) (e : tables_1_5[i]? = some w) : w.before args s = true := h w (have m := List.mem_of_getElem? e; List.mem_append_right _ (List.mem_append_right _ (List.mem_append_right _ (List.mem_append_right _ m))))
theorem in_wsL_law_r1 {args : Array Value} {s : State} (h : ∀ c ∈ tables_1, c.before args s = true) : ∀ w ∈ wsL_law_r1, w.before args s = true := by
  unfold wsL_law_r1
  refine List.forall_mem_cons.mpr ⟨(tI1 h 12 rfl), ?_⟩
  refine List.forall_mem_cons.mpr ⟨(tI1 h 13 rfl), ?_⟩
  refine List.forall_mem_cons.mpr ⟨(tI1 h 1 rfl), ?_⟩
  refine List.forall_mem_cons.mpr ⟨(tI3 h 219 rfl), ?_⟩
  refine List.forall_mem_cons.mpr ⟨(tI3 h 220 rfl), ?_⟩
  refine List.forall_mem_cons.mpr ⟨(tI1 h 9 rfl), ?_⟩
  refine List.forall_mem_cons.mpr ⟨(tI5 h 130 rfl), ?_⟩
  refine List.forall_mem_cons.mpr ⟨(tI1 h 14 rfl), ?_⟩
  refine List.forall_mem_cons.mpr ⟨(tI1 h 15 rfl), ?_⟩
  refine List.forall_mem_cons.mpr ⟨(tI1 h 16 rfl), ?_⟩
  refine List.forall_mem_cons.mpr ⟨(tI1 h 17 rfl), ?_⟩
  refine List.forall_mem_cons.mpr ⟨(tI1 h 18 rfl), ?_⟩
  refine List.forall_mem_cons.mpr ⟨(tI1 h 19 rfl), ?_⟩
  refine List.forall_mem_cons.mpr ⟨(tI1 h 20 rfl), ?_⟩
  refine List.forall_mem_cons.mpr ⟨(tI1 h 21 rfl), ?_⟩
  refine List.forall_mem_cons.mpr ⟨(tI1 h 2 rfl), ?_⟩
  refine List.forall_mem_cons.mpr ⟨(tI1 h 231 rfl), ?_⟩
  refine List.forall_mem_cons.mpr ⟨(tI1 h 232 rfl), ?_⟩
  refine List.forall_mem_cons.mpr ⟨(tI1 h 233 rfl), ?_⟩
  refine List.forall_mem_cons.mpr ⟨(tI1 h 200 rfl), ?_⟩
  refine List.forall_mem_cons.mpr ⟨(tI1 h 234 rfl), ?_⟩
  refine List.forall_mem_cons.mpr ⟨(tI1 h 181 rfl), ?_⟩
  refine List.forall_mem_cons.mpr ⟨(tI1 h 182 rfl), ?_⟩
  refine List.forall_mem_cons.mpr ⟨(tI1 h 7 rfl), ?_⟩
  exact fun _ h => absurd h List.not_mem_nil
theorem in_wsL_law_r2 {args : Array Value} {s : State} (h : ∀ c ∈ tables_1, c.before args s = true) : ∀ w ∈ wsL_law_r2, w.before args s = true := by
  unfold wsL_law_r2
  refine List.forall_mem_cons.mpr ⟨(tI1 h 235 rfl), ?_⟩
  refine List.forall_mem_cons.mpr ⟨(tI1 h 201 rfl), ?_⟩
  refine List.forall_mem_cons.mpr ⟨(tI1 h 202 rfl), ?_⟩
  refine List.forall_mem_cons.mpr ⟨(tI1 h 8 rfl), ?_⟩
  refine List.forall_mem_cons.mpr ⟨(tI1 h 236 rfl), ?_⟩
  refine List.forall_mem_cons.mpr ⟨(tI1 h 22 rfl), ?_⟩
  refine List.forall_mem_cons.mpr ⟨(tI1 h 23 rfl), ?_⟩
  refine List.forall_mem_cons.mpr ⟨(tI1 h 24 rfl), ?_⟩
  refine List.forall_mem_cons.mpr ⟨(tI1 h 25 rfl), ?_⟩
  refine List.forall_mem_cons.mpr ⟨(tI1 h 90 rfl), ?_⟩
  refine List.forall_mem_cons.mpr ⟨(tI1 h 147 rfl), ?_⟩
  refine List.forall_mem_cons.mpr ⟨(tI1 h 26 rfl), ?_⟩
  refine List.forall_mem_cons.mpr ⟨(tI1 h 149 rfl), ?_⟩
  refine List.forall_mem_cons.mpr ⟨(tI1 h 28 rfl), ?_⟩
  refine List.forall_mem_cons.mpr ⟨(tI1 h 151 rfl), ?_⟩
  refine List.forall_mem_cons.mpr ⟨(tI1 h 30 rfl), ?_⟩
  refine List.forall_mem_cons.mpr ⟨(tI1 h 153 rfl), ?_⟩
  refine List.forall_mem_cons.mpr ⟨(tI1 h 34 rfl), ?_⟩
  refine List.forall_mem_cons.mpr ⟨(tI1 h 36 rfl), ?_⟩
  refine List.forall_mem_cons.mpr ⟨(tI1 h 35 rfl), ?_⟩
  refine List.forall_mem_cons.mpr ⟨(tI1 h 3 rfl), ?_⟩
  refine List.forall_mem_cons.mpr ⟨(tI1 h 37 rfl), ?_⟩
  refine List.forall_mem_cons.mpr ⟨(tI1 h 4 rfl), ?_⟩
  refine List.forall_mem_cons.mpr ⟨(tI1 h 91 rfl), ?_⟩
  exact fun _ h => absurd h List.not_mem_nil
theorem in_wsL_law_r3 {args : Array Value} {s : State} (h : ∀ c ∈ tables_1, c.before args s = true) : ∀ w ∈ wsL_law_r3, w.before args s = true := by
  unfold wsL_law_r3
  refine List.forall_mem_cons.mpr ⟨(tI1 h 5 rfl), ?_⟩
  refine List.forall_mem_cons.mpr ⟨(tI1 h 105 rfl), ?_⟩
  refine List.forall_mem_cons.mpr ⟨(tI1 h 6 rfl), ?_⟩
  refine List.forall_mem_cons.mpr ⟨(tI1 h 39 rfl), ?_⟩
  refine List.forall_mem_cons.mpr ⟨(tI1 h 40 rfl), ?_⟩
  refine List.forall_mem_cons.mpr ⟨(tI1 h 41 rfl), ?_⟩
  refine List.forall_mem_cons.mpr ⟨(tI1 h 93 rfl), ?_⟩
  refine List.forall_mem_cons.mpr ⟨(tI1 h 94 rfl), ?_⟩
  refine List.forall_mem_cons.mpr ⟨(tI1 h 95 rfl), ?_⟩
  refine List.forall_mem_cons.mpr ⟨(tI1 h 107 rfl), ?_⟩
  refine List.forall_mem_cons.mpr ⟨(tI1 h 108 rfl), ?_⟩
  refine List.forall_mem_cons.mpr ⟨(tI1 h 109 rfl), ?_⟩
  refine List.forall_mem_cons.mpr ⟨(tI1 h 110 rfl), ?_⟩
  refine List.forall_mem_cons.mpr ⟨(tI1 h 112 rfl), ?_⟩
  refine List.forall_mem_cons.mpr ⟨(tI1 h 183 rfl), ?_⟩
  refine List.forall_mem_cons.mpr ⟨(tI1 h 184 rfl), ?_⟩
  refine List.forall_mem_cons.mpr ⟨(tI1 h 185 rfl), ?_⟩
  refine List.forall_mem_cons.mpr ⟨(tI1 h 186 rfl), ?_⟩
  refine List.forall_mem_cons.mpr ⟨(tI1 h 187 rfl), ?_⟩
  refine List.forall_mem_cons.mpr ⟨(tI1 h 189 rfl), ?_⟩
  refine List.forall_mem_cons.mpr ⟨(tI1 h 188 rfl), ?_⟩
  refine List.forall_mem_cons.mpr ⟨(tI1 h 204 rfl), ?_⟩
  refine List.forall_mem_cons.mpr ⟨(tI1 h 205 rfl), ?_⟩
  refine List.forall_mem_cons.mpr ⟨(tI1 h 206 rfl), ?_⟩
  exact fun _ h => absurd h List.not_mem_nil
theorem in_wsL_law_r4 {args : Array Value} {s : State} (h : ∀ c ∈ tables_1, c.before args s = true) : ∀ w ∈ wsL_law_r4, w.before args s = true := by
  unfold wsL_law_r4
  refine List.forall_mem_cons.mpr ⟨(tI1 h 230 rfl), ?_⟩
  refine List.forall_mem_cons.mpr ⟨(tI1 h 207 rfl), ?_⟩
  refine List.forall_mem_cons.mpr ⟨(tI1 h 208 rfl), ?_⟩
  refine List.forall_mem_cons.mpr ⟨(tI3 h 221 rfl), ?_⟩
  refine List.forall_mem_cons.mpr ⟨(tI3 h 222 rfl), ?_⟩
  refine List.forall_mem_cons.mpr ⟨(tI3 h 223 rfl), ?_⟩
  refine List.forall_mem_cons.mpr ⟨(tI3 h 224 rfl), ?_⟩
  refine List.forall_mem_cons.mpr ⟨(tI3 h 225 rfl), ?_⟩
  refine List.forall_mem_cons.mpr ⟨(tI3 h 226 rfl), ?_⟩
  refine List.forall_mem_cons.mpr ⟨(tI3 h 229 rfl), ?_⟩
  refine List.forall_mem_cons.mpr ⟨(tI3 h 230 rfl), ?_⟩
  refine List.forall_mem_cons.mpr ⟨(tI3 h 231 rfl), ?_⟩
  refine List.forall_mem_cons.mpr ⟨(tI3 h 232 rfl), ?_⟩
  refine List.forall_mem_cons.mpr ⟨(tI3 h 233 rfl), ?_⟩
  refine List.forall_mem_cons.mpr ⟨(tI3 h 234 rfl), ?_⟩
  refine List.forall_mem_cons.mpr ⟨(tI4 h 0 rfl), ?_⟩
  refine List.forall_mem_cons.mpr ⟨(tI4 h 1 rfl), ?_⟩
  refine List.forall_mem_cons.mpr ⟨(tI4 h 2 rfl), ?_⟩
  refine List.forall_mem_cons.mpr ⟨(tI2 h 10 rfl), ?_⟩
  refine List.forall_mem_cons.mpr ⟨(tI2 h 11 rfl), ?_⟩
  refine List.forall_mem_cons.mpr ⟨(tI2 h 12 rfl), ?_⟩
  refine List.forall_mem_cons.mpr ⟨(tI2 h 13 rfl), ?_⟩
  refine List.forall_mem_cons.mpr ⟨(tI2 h 14 rfl), ?_⟩
  refine List.forall_mem_cons.mpr ⟨(tI2 h 15 rfl), ?_⟩
  exact fun _ h => absurd h List.not_mem_nil
theorem in_wsL_law_r5 {args : Array Value} {s : State} (h : ∀ c ∈ tables_1, c.before args s = true) : ∀ w ∈ wsL_law_r5, w.before args s = true := by
  unfold wsL_law_r5
  refine List.forall_mem_cons.mpr ⟨(tI2 h 16 rfl), ?_⟩
  refine List.forall_mem_cons.mpr ⟨(tI2 h 17 rfl), ?_⟩
  refine List.forall_mem_cons.mpr ⟨(tI1 h 190 rfl), ?_⟩
  refine List.forall_mem_cons.mpr ⟨(tI2 h 18 rfl), ?_⟩
  refine List.forall_mem_cons.mpr ⟨(tI2 h 19 rfl), ?_⟩
  refine List.forall_mem_cons.mpr ⟨(tI2 h 20 rfl), ?_⟩
  refine List.forall_mem_cons.mpr ⟨(tI2 h 21 rfl), ?_⟩
  refine List.forall_mem_cons.mpr ⟨(tI1 h 155 rfl), ?_⟩
  refine List.forall_mem_cons.mpr ⟨(tI1 h 157 rfl), ?_⟩
  refine List.forall_mem_cons.mpr ⟨(tI1 h 159 rfl), ?_⟩
  refine List.forall_mem_cons.mpr ⟨(tI1 h 161 rfl), ?_⟩
  refine List.forall_mem_cons.mpr ⟨(tI2 h 22 rfl), ?_⟩
  refine List.forall_mem_cons.mpr ⟨(tI2 h 23 rfl), ?_⟩
  refine List.forall_mem_cons.mpr ⟨(tI2 h 24 rfl), ?_⟩
  refine List.forall_mem_cons.mpr ⟨(tI2 h 25 rfl), ?_⟩
  refine List.forall_mem_cons.mpr ⟨(tI1 h 42 rfl), ?_⟩
  refine List.forall_mem_cons.mpr ⟨(tI1 h 44 rfl), ?_⟩
  refine List.forall_mem_cons.mpr ⟨(tI1 h 45 rfl), ?_⟩
  refine List.forall_mem_cons.mpr ⟨(tI1 h 47 rfl), ?_⟩
  refine List.forall_mem_cons.mpr ⟨(tI1 h 49 rfl), ?_⟩
  refine List.forall_mem_cons.mpr ⟨(tI1 h 50 rfl), ?_⟩
  refine List.forall_mem_cons.mpr ⟨(tI1 h 52 rfl), ?_⟩
  refine List.forall_mem_cons.mpr ⟨(tI1 h 54 rfl), ?_⟩
  refine List.forall_mem_cons.mpr ⟨(tI1 h 56 rfl), ?_⟩
  exact fun _ h => absurd h List.not_mem_nil
theorem in_wsL_law_r6 {args : Array Value} {s : State} (h : ∀ c ∈ tables_1, c.before args s = true) : ∀ w ∈ wsL_law_r6, w.before args s = true := by
  unfold wsL_law_r6
  refine List.forall_mem_cons.mpr ⟨(tI1 h 58 rfl), ?_⟩
  refine List.forall_mem_cons.mpr ⟨(tI1 h 59 rfl), ?_⟩
  refine List.forall_mem_cons.mpr ⟨(tI2 h 26 rfl), ?_⟩
  refine List.forall_mem_cons.mpr ⟨(tI2 h 27 rfl), ?_⟩
  refine List.forall_mem_cons.mpr ⟨(tI2 h 28 rfl), ?_⟩
  refine List.forall_mem_cons.mpr ⟨(tI2 h 29 rfl), ?_⟩
  refine List.forall_mem_cons.mpr ⟨(tI1 h 96 rfl), ?_⟩
  refine List.forall_mem_cons.mpr ⟨(tI1 h 98 rfl), ?_⟩
  refine List.forall_mem_cons.mpr ⟨(tI2 h 30 rfl), ?_⟩
  refine List.forall_mem_cons.mpr ⟨(tI2 h 31 rfl), ?_⟩
  refine List.forall_mem_cons.mpr ⟨(tI2 h 32 rfl), ?_⟩
  refine List.forall_mem_cons.mpr ⟨(tI2 h 33 rfl), ?_⟩
  refine List.forall_mem_cons.mpr ⟨(tI2 h 34 rfl), ?_⟩
  refine List.forall_mem_cons.mpr ⟨(tI1 h 113 rfl), ?_⟩
  refine List.forall_mem_cons.mpr ⟨(tI1 h 115 rfl), ?_⟩
  refine List.forall_mem_cons.mpr ⟨(tI1 h 117 rfl), ?_⟩
  refine List.forall_mem_cons.mpr ⟨(tI1 h 119 rfl), ?_⟩
  refine List.forall_mem_cons.mpr ⟨(tI1 h 122 rfl), ?_⟩
  refine List.forall_mem_cons.mpr ⟨(tI1 h 124 rfl), ?_⟩
  refine List.forall_mem_cons.mpr ⟨(tI1 h 126 rfl), ?_⟩
  refine List.forall_mem_cons.mpr ⟨(tI2 h 35 rfl), ?_⟩
  refine List.forall_mem_cons.mpr ⟨(tI2 h 36 rfl), ?_⟩
  refine List.forall_mem_cons.mpr ⟨(tI2 h 37 rfl), ?_⟩
  refine List.forall_mem_cons.mpr ⟨(tI2 h 38 rfl), ?_⟩
  exact fun _ h => absurd h List.not_mem_nil
theorem in_wsL_law_r7 {args : Array Value} {s : State} (h : ∀ c ∈ tables_1, c.before args s = true) : ∀ w ∈ wsL_law_r7, w.before args s = true := by
  unfold wsL_law_r7
  refine List.forall_mem_cons.mpr ⟨(tI2 h 40 rfl), ?_⟩
  refine List.forall_mem_cons.mpr ⟨(tI2 h 41 rfl), ?_⟩
  refine List.forall_mem_cons.mpr ⟨(tI2 h 46 rfl), ?_⟩
  refine List.forall_mem_cons.mpr ⟨(tI2 h 47 rfl), ?_⟩
  refine List.forall_mem_cons.mpr ⟨(tI2 h 48 rfl), ?_⟩
  refine List.forall_mem_cons.mpr ⟨(tI2 h 49 rfl), ?_⟩
  refine List.forall_mem_cons.mpr ⟨(tI1 h 191 rfl), ?_⟩
  refine List.forall_mem_cons.mpr ⟨(tI2 h 50 rfl), ?_⟩
  refine List.forall_mem_cons.mpr ⟨(tI2 h 51 rfl), ?_⟩
  refine List.forall_mem_cons.mpr ⟨(tI1 h 10 rfl), ?_⟩
  refine List.forall_mem_cons.mpr ⟨(tI2 h 52 rfl), ?_⟩
  refine List.forall_mem_cons.mpr ⟨(tI4 h 40 rfl), ?_⟩
  refine List.forall_mem_cons.mpr ⟨(tI4 h 41 rfl), ?_⟩
  refine List.forall_mem_cons.mpr ⟨(tI4 h 42 rfl), ?_⟩
  refine List.forall_mem_cons.mpr ⟨(tI4 h 43 rfl), ?_⟩
  refine List.forall_mem_cons.mpr ⟨(tI4 h 44 rfl), ?_⟩
  refine List.forall_mem_cons.mpr ⟨(tI4 h 45 rfl), ?_⟩
  refine List.forall_mem_cons.mpr ⟨(tI4 h 46 rfl), ?_⟩
  refine List.forall_mem_cons.mpr ⟨(tI4 h 47 rfl), ?_⟩
  refine List.forall_mem_cons.mpr ⟨(tI4 h 48 rfl), ?_⟩
  refine List.forall_mem_cons.mpr ⟨(tI4 h 49 rfl), ?_⟩
  refine List.forall_mem_cons.mpr ⟨(tI4 h 50 rfl), ?_⟩
  refine List.forall_mem_cons.mpr ⟨(tI4 h 52 rfl), ?_⟩
  refine List.forall_mem_cons.mpr ⟨(k2_selects_private ⟨by decide, by decide⟩ (tI3 h 220 rfl) (tI4 h 51 rfl) (tI4 h 52 rfl)), ?_⟩
  exact fun _ h => absurd h List.not_mem_nil
theorem in_wsL_law_r8 {args : Array Value} {s : State} (h : ∀ c ∈ tables_1, c.before args s = true) : ∀ w ∈ wsL_law_r8, w.before args s = true := by
  unfold wsL_law_r8
  refine List.forall_mem_cons.mpr ⟨(tI4 h 53 rfl), ?_⟩
  refine List.forall_mem_cons.mpr ⟨(tI3 h 228 rfl), ?_⟩
  refine List.forall_mem_cons.mpr ⟨(tI3 h 227 rfl), ?_⟩
  refine List.forall_mem_cons.mpr ⟨(tI2 h 53 rfl), ?_⟩
  refine List.forall_mem_cons.mpr ⟨(tI2 h 54 rfl), ?_⟩
  refine List.forall_mem_cons.mpr ⟨(tI2 h 55 rfl), ?_⟩
  refine List.forall_mem_cons.mpr ⟨(tI2 h 56 rfl), ?_⟩
  refine List.forall_mem_cons.mpr ⟨(tI2 h 57 rfl), ?_⟩
  refine List.forall_mem_cons.mpr ⟨(tI2 h 58 rfl), ?_⟩
  refine List.forall_mem_cons.mpr ⟨(tI2 h 59 rfl), ?_⟩
  refine List.forall_mem_cons.mpr ⟨(tI2 h 60 rfl), ?_⟩
  refine List.forall_mem_cons.mpr ⟨(tI1 h 43 rfl), ?_⟩
  refine List.forall_mem_cons.mpr ⟨(tI2 h 62 rfl), ?_⟩
  refine List.forall_mem_cons.mpr ⟨(tI2 h 63 rfl), ?_⟩
  refine List.forall_mem_cons.mpr ⟨(tI2 h 64 rfl), ?_⟩
  refine List.forall_mem_cons.mpr ⟨(tI2 h 65 rfl), ?_⟩
  refine List.forall_mem_cons.mpr ⟨(tI2 h 66 rfl), ?_⟩
  refine List.forall_mem_cons.mpr ⟨(tI2 h 67 rfl), ?_⟩
  refine List.forall_mem_cons.mpr ⟨(tI2 h 68 rfl), ?_⟩
  refine List.forall_mem_cons.mpr ⟨(tI4 h 54 rfl), ?_⟩
  refine List.forall_mem_cons.mpr ⟨(tI4 h 55 rfl), ?_⟩
  refine List.forall_mem_cons.mpr ⟨(tI4 h 56 rfl), ?_⟩
  refine List.forall_mem_cons.mpr ⟨(tI4 h 57 rfl), ?_⟩
  refine List.forall_mem_cons.mpr ⟨(tI4 h 58 rfl), ?_⟩
  exact fun _ h => absurd h List.not_mem_nil
theorem in_wsL_law_r9 {args : Array Value} {s : State} (h : ∀ c ∈ tables_1, c.before args s = true) : ∀ w ∈ wsL_law_r9, w.before args s = true := by
  unfold wsL_law_r9
  refine List.forall_mem_cons.mpr ⟨(tI4 h 59 rfl), ?_⟩
  refine List.forall_mem_cons.mpr ⟨(tI4 h 60 rfl), ?_⟩
  refine List.forall_mem_cons.mpr ⟨(tI4 h 61 rfl), ?_⟩
  refine List.forall_mem_cons.mpr ⟨(tI4 h 63 rfl), ?_⟩
  refine List.forall_mem_cons.mpr ⟨(k2_selects_private ⟨by decide, by decide⟩ (tI3 h 220 rfl) (tI4 h 62 rfl) (tI4 h 63 rfl)), ?_⟩
  refine List.forall_mem_cons.mpr ⟨(tI4 h 64 rfl), ?_⟩
  refine List.forall_mem_cons.mpr ⟨(tI4 h 65 rfl), ?_⟩
  refine List.forall_mem_cons.mpr ⟨(tI4 h 67 rfl), ?_⟩
  refine List.forall_mem_cons.mpr ⟨(k2_selects_private ⟨by decide, by decide⟩ (tI3 h 220 rfl) (tI4 h 66 rfl) (tI4 h 67 rfl)), ?_⟩
  refine List.forall_mem_cons.mpr ⟨(tI4 h 68 rfl), ?_⟩
  refine List.forall_mem_cons.mpr ⟨(tI4 h 69 rfl), ?_⟩
  refine List.forall_mem_cons.mpr ⟨(tI4 h 71 rfl), ?_⟩
  refine List.forall_mem_cons.mpr ⟨(k2_selects_private ⟨by decide, by decide⟩ (tI3 h 220 rfl) (tI4 h 70 rfl) (tI4 h 71 rfl)), ?_⟩
  refine List.forall_mem_cons.mpr ⟨(tI4 h 72 rfl), ?_⟩
  refine List.forall_mem_cons.mpr ⟨(tI2 h 69 rfl), ?_⟩
  refine List.forall_mem_cons.mpr ⟨(tI2 h 70 rfl), ?_⟩
  refine List.forall_mem_cons.mpr ⟨(tI2 h 71 rfl), ?_⟩
  refine List.forall_mem_cons.mpr ⟨(tI2 h 72 rfl), ?_⟩
  refine List.forall_mem_cons.mpr ⟨(tI2 h 73 rfl), ?_⟩
  refine List.forall_mem_cons.mpr ⟨(tI2 h 74 rfl), ?_⟩
  refine List.forall_mem_cons.mpr ⟨(tI2 h 75 rfl), ?_⟩
  refine List.forall_mem_cons.mpr ⟨(tI2 h 76 rfl), ?_⟩
  refine List.forall_mem_cons.mpr ⟨(tI2 h 77 rfl), ?_⟩
  refine List.forall_mem_cons.mpr ⟨(tI2 h 78 rfl), ?_⟩
  exact fun _ h => absurd h List.not_mem_nil
theorem in_wsL_law_r10 {args : Array Value} {s : State} (h : ∀ c ∈ tables_1, c.before args s = true) : ∀ w ∈ wsL_law_r10, w.before args s = true := by
  unfold wsL_law_r10
  refine List.forall_mem_cons.mpr ⟨(tI2 h 79 rfl), ?_⟩
  refine List.forall_mem_cons.mpr ⟨(tI2 h 80 rfl), ?_⟩
  refine List.forall_mem_cons.mpr ⟨(tI4 h 73 rfl), ?_⟩
  refine List.forall_mem_cons.mpr ⟨(tI4 h 74 rfl), ?_⟩
  refine List.forall_mem_cons.mpr ⟨(tI4 h 75 rfl), ?_⟩
  refine List.forall_mem_cons.mpr ⟨(tI4 h 76 rfl), ?_⟩
  refine List.forall_mem_cons.mpr ⟨(tI2 h 81 rfl), ?_⟩
  refine List.forall_mem_cons.mpr ⟨(tI2 h 82 rfl), ?_⟩
  refine List.forall_mem_cons.mpr ⟨(tI2 h 83 rfl), ?_⟩
  refine List.forall_mem_cons.mpr ⟨(tI2 h 84 rfl), ?_⟩
  refine List.forall_mem_cons.mpr ⟨(tI2 h 85 rfl), ?_⟩
  refine List.forall_mem_cons.mpr ⟨(tI2 h 86 rfl), ?_⟩
  refine List.forall_mem_cons.mpr ⟨(tI2 h 87 rfl), ?_⟩
  refine List.forall_mem_cons.mpr ⟨(tI2 h 88 rfl), ?_⟩
  refine List.forall_mem_cons.mpr ⟨(tI2 h 89 rfl), ?_⟩
  refine List.forall_mem_cons.mpr ⟨(tI2 h 90 rfl), ?_⟩
  refine List.forall_mem_cons.mpr ⟨(tI2 h 91 rfl), ?_⟩
  refine List.forall_mem_cons.mpr ⟨(tI2 h 92 rfl), ?_⟩
  refine List.forall_mem_cons.mpr ⟨(tI4 h 77 rfl), ?_⟩
  refine List.forall_mem_cons.mpr ⟨(tI4 h 78 rfl), ?_⟩
  refine List.forall_mem_cons.mpr ⟨(tI4 h 79 rfl), ?_⟩
  refine List.forall_mem_cons.mpr ⟨(tI4 h 80 rfl), ?_⟩
  refine List.forall_mem_cons.mpr ⟨(tI4 h 81 rfl), ?_⟩
  refine List.forall_mem_cons.mpr ⟨(tI4 h 83 rfl), ?_⟩
  exact fun _ h => absurd h List.not_mem_nil
theorem in_wsL_law_r11 {args : Array Value} {s : State} (h : ∀ c ∈ tables_1, c.before args s = true) : ∀ w ∈ wsL_law_r11, w.before args s = true := by
  unfold wsL_law_r11
  refine List.forall_mem_cons.mpr ⟨(k2_selects_private ⟨by decide, by decide⟩ (tI3 h 220 rfl) (tI4 h 82 rfl) (tI4 h 83 rfl)), ?_⟩
  refine List.forall_mem_cons.mpr ⟨(tI4 h 84 rfl), ?_⟩
  refine List.forall_mem_cons.mpr ⟨(tI4 h 85 rfl), ?_⟩
  refine List.forall_mem_cons.mpr ⟨(tI4 h 87 rfl), ?_⟩
  refine List.forall_mem_cons.mpr ⟨(k2_selects_private ⟨by decide, by decide⟩ (tI3 h 220 rfl) (tI4 h 86 rfl) (tI4 h 87 rfl)), ?_⟩
  refine List.forall_mem_cons.mpr ⟨(tI4 h 88 rfl), ?_⟩
  refine List.forall_mem_cons.mpr ⟨(tI4 h 89 rfl), ?_⟩
  refine List.forall_mem_cons.mpr ⟨(tI4 h 91 rfl), ?_⟩
  refine List.forall_mem_cons.mpr ⟨(k2_selects_private ⟨by decide, by decide⟩ (tI3 h 220 rfl) (tI4 h 90 rfl) (tI4 h 91 rfl)), ?_⟩
  refine List.forall_mem_cons.mpr ⟨(tI4 h 92 rfl), ?_⟩
  refine List.forall_mem_cons.mpr ⟨(tI2 h 93 rfl), ?_⟩
  refine List.forall_mem_cons.mpr ⟨(tI2 h 94 rfl), ?_⟩
  refine List.forall_mem_cons.mpr ⟨(tI2 h 95 rfl), ?_⟩
  refine List.forall_mem_cons.mpr ⟨(tI2 h 96 rfl), ?_⟩
  refine List.forall_mem_cons.mpr ⟨(tI2 h 97 rfl), ?_⟩
  refine List.forall_mem_cons.mpr ⟨(tI2 h 98 rfl), ?_⟩
  refine List.forall_mem_cons.mpr ⟨(tI2 h 99 rfl), ?_⟩
  refine List.forall_mem_cons.mpr ⟨(tI2 h 100 rfl), ?_⟩
  refine List.forall_mem_cons.mpr ⟨(tI2 h 101 rfl), ?_⟩
  refine List.forall_mem_cons.mpr ⟨(tI2 h 102 rfl), ?_⟩
  refine List.forall_mem_cons.mpr ⟨(tI2 h 103 rfl), ?_⟩
  refine List.forall_mem_cons.mpr ⟨(tI2 h 104 rfl), ?_⟩
  refine List.forall_mem_cons.mpr ⟨(tI2 h 105 rfl), ?_⟩
  refine List.forall_mem_cons.mpr ⟨(tI2 h 106 rfl), ?_⟩
  exact fun _ h => absurd h List.not_mem_nil
theorem in_wsL_law_r12 {args : Array Value} {s : State} (h : ∀ c ∈ tables_1, c.before args s = true) : ∀ w ∈ wsL_law_r12, w.before args s = true := by
  unfold wsL_law_r12
  refine List.forall_mem_cons.mpr ⟨(tI2 h 107 rfl), ?_⟩
  refine List.forall_mem_cons.mpr ⟨(tI2 h 108 rfl), ?_⟩
  refine List.forall_mem_cons.mpr ⟨(tI4 h 93 rfl), ?_⟩
  refine List.forall_mem_cons.mpr ⟨(tI4 h 94 rfl), ?_⟩
  refine List.forall_mem_cons.mpr ⟨(tI4 h 95 rfl), ?_⟩
  refine List.forall_mem_cons.mpr ⟨(tI4 h 96 rfl), ?_⟩
  refine List.forall_mem_cons.mpr ⟨(tI4 h 97 rfl), ?_⟩
  refine List.forall_mem_cons.mpr ⟨(tI4 h 99 rfl), ?_⟩
  refine List.forall_mem_cons.mpr ⟨(k2_selects_private ⟨by decide, by decide⟩ (tI3 h 220 rfl) (tI4 h 98 rfl) (tI4 h 99 rfl)), ?_⟩
  refine List.forall_mem_cons.mpr ⟨(tI4 h 100 rfl), ?_⟩
  refine List.forall_mem_cons.mpr ⟨(tI4 h 101 rfl), ?_⟩
  refine List.forall_mem_cons.mpr ⟨(tI4 h 103 rfl), ?_⟩
  refine List.forall_mem_cons.mpr ⟨(k2_selects_private ⟨by decide, by decide⟩ (tI3 h 220 rfl) (tI4 h 102 rfl) (tI4 h 103 rfl)), ?_⟩
  refine List.forall_mem_cons.mpr ⟨(tI4 h 104 rfl), ?_⟩
  refine List.forall_mem_cons.mpr ⟨(tI4 h 105 rfl), ?_⟩
  refine List.forall_mem_cons.mpr ⟨(tI4 h 107 rfl), ?_⟩
  refine List.forall_mem_cons.mpr ⟨(k2_selects_private ⟨by decide, by decide⟩ (tI3 h 220 rfl) (tI4 h 106 rfl) (tI4 h 107 rfl)), ?_⟩
  refine List.forall_mem_cons.mpr ⟨(tI4 h 108 rfl), ?_⟩
  refine List.forall_mem_cons.mpr ⟨(tI4 h 109 rfl), ?_⟩
  refine List.forall_mem_cons.mpr ⟨(tI4 h 111 rfl), ?_⟩
  refine List.forall_mem_cons.mpr ⟨(k2_selects_private ⟨by decide, by decide⟩ (tI3 h 220 rfl) (tI4 h 110 rfl) (tI4 h 111 rfl)), ?_⟩
  refine List.forall_mem_cons.mpr ⟨(tI4 h 112 rfl), ?_⟩
  refine List.forall_mem_cons.mpr ⟨(tI2 h 109 rfl), ?_⟩
  refine List.forall_mem_cons.mpr ⟨(tI2 h 110 rfl), ?_⟩
  exact fun _ h => absurd h List.not_mem_nil
theorem in_wsL_law_r13 {args : Array Value} {s : State} (h : ∀ c ∈ tables_1, c.before args s = true) : ∀ w ∈ wsL_law_r13, w.before args s = true := by
  unfold wsL_law_r13
  refine List.forall_mem_cons.mpr ⟨(tI2 h 111 rfl), ?_⟩
  refine List.forall_mem_cons.mpr ⟨(tI2 h 112 rfl), ?_⟩
  refine List.forall_mem_cons.mpr ⟨(tI2 h 113 rfl), ?_⟩
  refine List.forall_mem_cons.mpr ⟨(tI2 h 114 rfl), ?_⟩
  refine List.forall_mem_cons.mpr ⟨(tI2 h 115 rfl), ?_⟩
  refine List.forall_mem_cons.mpr ⟨(tI2 h 116 rfl), ?_⟩
  refine List.forall_mem_cons.mpr ⟨(tI1 h 48 rfl), ?_⟩
  refine List.forall_mem_cons.mpr ⟨(tI2 h 117 rfl), ?_⟩
  refine List.forall_mem_cons.mpr ⟨(tI2 h 118 rfl), ?_⟩
  refine List.forall_mem_cons.mpr ⟨(tI2 h 119 rfl), ?_⟩
  refine List.forall_mem_cons.mpr ⟨(tI2 h 120 rfl), ?_⟩
  refine List.forall_mem_cons.mpr ⟨(tI2 h 121 rfl), ?_⟩
  refine List.forall_mem_cons.mpr ⟨(tI2 h 122 rfl), ?_⟩
  refine List.forall_mem_cons.mpr ⟨(tI2 h 123 rfl), ?_⟩
  refine List.forall_mem_cons.mpr ⟨(tI2 h 124 rfl), ?_⟩
  refine List.forall_mem_cons.mpr ⟨(tI4 h 113 rfl), ?_⟩
  refine List.forall_mem_cons.mpr ⟨(tI4 h 114 rfl), ?_⟩
  refine List.forall_mem_cons.mpr ⟨(tI4 h 115 rfl), ?_⟩
  refine List.forall_mem_cons.mpr ⟨(tI4 h 116 rfl), ?_⟩
  refine List.forall_mem_cons.mpr ⟨(tI4 h 117 rfl), ?_⟩
  refine List.forall_mem_cons.mpr ⟨(tI4 h 119 rfl), ?_⟩
  refine List.forall_mem_cons.mpr ⟨(k2_selects_private ⟨by decide, by decide⟩ (tI3 h 220 rfl) (tI4 h 118 rfl) (tI4 h 119 rfl)), ?_⟩
  refine List.forall_mem_cons.mpr ⟨(tI4 h 120 rfl), ?_⟩
  refine List.forall_mem_cons.mpr ⟨(tI4 h 121 rfl), ?_⟩
  exact fun _ h => absurd h List.not_mem_nil
theorem in_wsL_law_r14 {args : Array Value} {s : State} (h : ∀ c ∈ tables_1, c.before args s = true) : ∀ w ∈ wsL_law_r14, w.before args s = true := by
  unfold wsL_law_r14
  refine List.forall_mem_cons.mpr ⟨(tI4 h 123 rfl), ?_⟩
  refine List.forall_mem_cons.mpr ⟨(k2_selects_private ⟨by decide, by decide⟩ (tI3 h 220 rfl) (tI4 h 122 rfl) (tI4 h 123 rfl)), ?_⟩
  refine List.forall_mem_cons.mpr ⟨(tI4 h 124 rfl), ?_⟩
  refine List.forall_mem_cons.mpr ⟨(tI4 h 125 rfl), ?_⟩
  refine List.forall_mem_cons.mpr ⟨(tI4 h 127 rfl), ?_⟩
  refine List.forall_mem_cons.mpr ⟨(k2_selects_private ⟨by decide, by decide⟩ (tI3 h 220 rfl) (tI4 h 126 rfl) (tI4 h 127 rfl)), ?_⟩
  refine List.forall_mem_cons.mpr ⟨(tI4 h 128 rfl), ?_⟩
  refine List.forall_mem_cons.mpr ⟨(tI4 h 129 rfl), ?_⟩
  refine List.forall_mem_cons.mpr ⟨(tI4 h 131 rfl), ?_⟩
  refine List.forall_mem_cons.mpr ⟨(k2_selects_private ⟨by decide, by decide⟩ (tI3 h 220 rfl) (tI4 h 130 rfl) (tI4 h 131 rfl)), ?_⟩
  refine List.forall_mem_cons.mpr ⟨(tI4 h 132 rfl), ?_⟩
  refine List.forall_mem_cons.mpr ⟨(tI2 h 125 rfl), ?_⟩
  refine List.forall_mem_cons.mpr ⟨(tI2 h 126 rfl), ?_⟩
  refine List.forall_mem_cons.mpr ⟨(tI2 h 127 rfl), ?_⟩
  refine List.forall_mem_cons.mpr ⟨(tI2 h 128 rfl), ?_⟩
  refine List.forall_mem_cons.mpr ⟨(tI2 h 129 rfl), ?_⟩
  refine List.forall_mem_cons.mpr ⟨(tI2 h 130 rfl), ?_⟩
  refine List.forall_mem_cons.mpr ⟨(tI2 h 131 rfl), ?_⟩
  refine List.forall_mem_cons.mpr ⟨(tI2 h 132 rfl), ?_⟩
  refine List.forall_mem_cons.mpr ⟨(tI2 h 133 rfl), ?_⟩
  refine List.forall_mem_cons.mpr ⟨(tI2 h 135 rfl), ?_⟩
  refine List.forall_mem_cons.mpr ⟨(k2_selects_private ⟨by decide, by decide⟩ (tI1 h 21 rfl) (tI2 h 134 rfl) (tI2 h 135 rfl)), ?_⟩
  refine List.forall_mem_cons.mpr ⟨(tI2 h 136 rfl), ?_⟩
  refine List.forall_mem_cons.mpr ⟨(tI2 h 137 rfl), ?_⟩
  exact fun _ h => absurd h List.not_mem_nil
theorem in_wsL_law_r15 {args : Array Value} {s : State} (h : ∀ c ∈ tables_1, c.before args s = true) : ∀ w ∈ wsL_law_r15, w.before args s = true := by
  unfold wsL_law_r15
  refine List.forall_mem_cons.mpr ⟨(tI2 h 138 rfl), ?_⟩
  refine List.forall_mem_cons.mpr ⟨(tI2 h 139 rfl), ?_⟩
  refine List.forall_mem_cons.mpr ⟨(tI2 h 140 rfl), ?_⟩
  refine List.forall_mem_cons.mpr ⟨(tI1 h 61 rfl), ?_⟩
  refine List.forall_mem_cons.mpr ⟨(tI1 h 62 rfl), ?_⟩
  refine List.forall_mem_cons.mpr ⟨(tI2 h 141 rfl), ?_⟩
  refine List.forall_mem_cons.mpr ⟨(tI2 h 143 rfl), ?_⟩
  refine List.forall_mem_cons.mpr ⟨(k2_selects_private ⟨by decide, by decide⟩ (tI1 h 21 rfl) (tI2 h 142 rfl) (tI2 h 143 rfl)), ?_⟩
  refine List.forall_mem_cons.mpr ⟨(tI2 h 144 rfl), ?_⟩
  refine List.forall_mem_cons.mpr ⟨(tI1 h 57 rfl), ?_⟩
  refine List.forall_mem_cons.mpr ⟨(tI2 h 145 rfl), ?_⟩
  refine List.forall_mem_cons.mpr ⟨(tI2 h 147 rfl), ?_⟩
  refine List.forall_mem_cons.mpr ⟨(k2_selects_private ⟨by decide, by decide⟩ (tI1 h 21 rfl) (tI2 h 146 rfl) (tI2 h 147 rfl)), ?_⟩
  refine List.forall_mem_cons.mpr ⟨(tI2 h 148 rfl), ?_⟩
  refine List.forall_mem_cons.mpr ⟨(tI2 h 149 rfl), ?_⟩
  refine List.forall_mem_cons.mpr ⟨(tI2 h 150 rfl), ?_⟩
  refine List.forall_mem_cons.mpr ⟨(tI2 h 151 rfl), ?_⟩
  refine List.forall_mem_cons.mpr ⟨(tI2 h 152 rfl), ?_⟩
  refine List.forall_mem_cons.mpr ⟨(tI2 h 153 rfl), ?_⟩
  refine List.forall_mem_cons.mpr ⟨(tI2 h 154 rfl), ?_⟩
  refine List.forall_mem_cons.mpr ⟨(tI2 h 155 rfl), ?_⟩
  refine List.forall_mem_cons.mpr ⟨(tI2 h 156 rfl), ?_⟩
  refine List.forall_mem_cons.mpr ⟨(tI2 h 157 rfl), ?_⟩
  refine List.forall_mem_cons.mpr ⟨(tI2 h 158 rfl), ?_⟩
  exact fun _ h => absurd h List.not_mem_nil
theorem in_wsL_law_r16 {args : Array Value} {s : State} (h : ∀ c ∈ tables_1, c.before args s = true) : ∀ w ∈ wsL_law_r16, w.before args s = true := by
  unfold wsL_law_r16
  refine List.forall_mem_cons.mpr ⟨(tI2 h 159 rfl), ?_⟩
  refine List.forall_mem_cons.mpr ⟨(tI2 h 160 rfl), ?_⟩
  refine List.forall_mem_cons.mpr ⟨(tI2 h 161 rfl), ?_⟩
  refine List.forall_mem_cons.mpr ⟨(tI2 h 162 rfl), ?_⟩
  refine List.forall_mem_cons.mpr ⟨(tI2 h 163 rfl), ?_⟩
  refine List.forall_mem_cons.mpr ⟨(tI4 h 133 rfl), ?_⟩
  refine List.forall_mem_cons.mpr ⟨(tI4 h 134 rfl), ?_⟩
  refine List.forall_mem_cons.mpr ⟨(tI4 h 135 rfl), ?_⟩
  refine List.forall_mem_cons.mpr ⟨(tI4 h 136 rfl), ?_⟩
  refine List.forall_mem_cons.mpr ⟨(tI4 h 137 rfl), ?_⟩
  refine List.forall_mem_cons.mpr ⟨(tI4 h 139 rfl), ?_⟩
  refine List.forall_mem_cons.mpr ⟨(k2_selects_private ⟨by decide, by decide⟩ (tI3 h 220 rfl) (tI4 h 138 rfl) (tI4 h 139 rfl)), ?_⟩
  refine List.forall_mem_cons.mpr ⟨(tI4 h 140 rfl), ?_⟩
  refine List.forall_mem_cons.mpr ⟨(tI4 h 141 rfl), ?_⟩
  refine List.forall_mem_cons.mpr ⟨(tI4 h 143 rfl), ?_⟩
  refine List.forall_mem_cons.mpr ⟨(k2_selects_private ⟨by decide, by decide⟩ (tI3 h 220 rfl) (tI4 h 142 rfl) (tI4 h 143 rfl)), ?_⟩
  refine List.forall_mem_cons.mpr ⟨(tI4 h 144 rfl), ?_⟩
  refine List.forall_mem_cons.mpr ⟨(tI4 h 145 rfl), ?_⟩
  refine List.forall_mem_cons.mpr ⟨(tI4 h 147 rfl), ?_⟩
  refine List.forall_mem_cons.mpr ⟨(k2_selects_private ⟨by decide, by decide⟩ (tI3 h 220 rfl) (tI4 h 146 rfl) (tI4 h 147 rfl)), ?_⟩
  refine List.forall_mem_cons.mpr ⟨(tI4 h 148 rfl), ?_⟩
  refine List.forall_mem_cons.mpr ⟨(tI4 h 149 rfl), ?_⟩
  refine List.forall_mem_cons.mpr ⟨(tI4 h 151 rfl), ?_⟩
  refine List.forall_mem_cons.mpr ⟨(k2_selects_private ⟨by decide, by decide⟩ (tI3 h 220 rfl) (tI4 h 150 rfl) (tI4 h 151 rfl)), ?_⟩
  exact fun _ h => absurd h List.not_mem_nil
theorem in_wsL_law_r17 {args : Array Value} {s : State} (h : ∀ c ∈ tables_1, c.before args s = true) : ∀ w ∈ wsL_law_r17, w.before args s = true := by
  unfold wsL_law_r17
  refine List.forall_mem_cons.mpr ⟨(tI4 h 152 rfl), ?_⟩
  refine List.forall_mem_cons.mpr ⟨(tI4 h 153 rfl), ?_⟩
  refine List.forall_mem_cons.mpr ⟨(tI4 h 154 rfl), ?_⟩
  refine List.forall_mem_cons.mpr ⟨(tI4 h 155 rfl), ?_⟩
  refine List.forall_mem_cons.mpr ⟨(tI4 h 156 rfl), ?_⟩
  refine List.forall_mem_cons.mpr ⟨(tI4 h 158 rfl), ?_⟩
  refine List.forall_mem_cons.mpr ⟨(k2_selects_private ⟨by decide, by decide⟩ (tI3 h 220 rfl) (tI4 h 157 rfl) (tI4 h 158 rfl)), ?_⟩
  refine List.forall_mem_cons.mpr ⟨(tI4 h 159 rfl), ?_⟩
  refine List.forall_mem_cons.mpr ⟨(tI2 h 164 rfl), ?_⟩
  refine List.forall_mem_cons.mpr ⟨(tI2 h 165 rfl), ?_⟩
  refine List.forall_mem_cons.mpr ⟨(tI2 h 166 rfl), ?_⟩
  refine List.forall_mem_cons.mpr ⟨(tI2 h 167 rfl), ?_⟩
  refine List.forall_mem_cons.mpr ⟨(tI2 h 168 rfl), ?_⟩
  refine List.forall_mem_cons.mpr ⟨(tI2 h 169 rfl), ?_⟩
  refine List.forall_mem_cons.mpr ⟨(tI2 h 170 rfl), ?_⟩
  refine List.forall_mem_cons.mpr ⟨(tI2 h 171 rfl), ?_⟩
  refine List.forall_mem_cons.mpr ⟨(tI2 h 173 rfl), ?_⟩
  refine List.forall_mem_cons.mpr ⟨(tI2 h 174 rfl), ?_⟩
  refine List.forall_mem_cons.mpr ⟨(tI2 h 175 rfl), ?_⟩
  refine List.forall_mem_cons.mpr ⟨(tI2 h 177 rfl), ?_⟩
  refine List.forall_mem_cons.mpr ⟨(k2_selects_private ⟨by decide, by decide⟩ (tI1 h 21 rfl) (tI2 h 176 rfl) (tI2 h 177 rfl)), ?_⟩
  refine List.forall_mem_cons.mpr ⟨(tI2 h 178 rfl), ?_⟩
  refine List.forall_mem_cons.mpr ⟨(tI2 h 179 rfl), ?_⟩
  refine List.forall_mem_cons.mpr ⟨(tI2 h 180 rfl), ?_⟩
  exact fun _ h => absurd h List.not_mem_nil
theorem in_wsL_law_r18 {args : Array Value} {s : State} (h : ∀ c ∈ tables_1, c.before args s = true) : ∀ w ∈ wsL_law_r18, w.before args s = true := by
  unfold wsL_law_r18
  refine List.forall_mem_cons.mpr ⟨(tI2 h 181 rfl), ?_⟩
  refine List.forall_mem_cons.mpr ⟨(tI2 h 182 rfl), ?_⟩
  refine List.forall_mem_cons.mpr ⟨(tI2 h 187 rfl), ?_⟩
  refine List.forall_mem_cons.mpr ⟨(tI2 h 188 rfl), ?_⟩
  refine List.forall_mem_cons.mpr ⟨(tI2 h 189 rfl), ?_⟩
  refine List.forall_mem_cons.mpr ⟨(tI2 h 190 rfl), ?_⟩
  refine List.forall_mem_cons.mpr ⟨(tI2 h 191 rfl), ?_⟩
  refine List.forall_mem_cons.mpr ⟨(tI2 h 183 rfl), ?_⟩
  refine List.forall_mem_cons.mpr ⟨(tI2 h 185 rfl), ?_⟩
  refine List.forall_mem_cons.mpr ⟨(k2_selects_private ⟨by decide, by decide⟩ (tI1 h 105 rfl) (tI2 h 184 rfl) (tI2 h 185 rfl)), ?_⟩
  refine List.forall_mem_cons.mpr ⟨(tI2 h 186 rfl), ?_⟩
  refine List.forall_mem_cons.mpr ⟨(tI2 h 192 rfl), ?_⟩
  refine List.forall_mem_cons.mpr ⟨(tI2 h 194 rfl), ?_⟩
  refine List.forall_mem_cons.mpr ⟨(k2_selects_private ⟨by decide, by decide⟩ (tI1 h 105 rfl) (tI2 h 193 rfl) (tI2 h 194 rfl)), ?_⟩
  refine List.forall_mem_cons.mpr ⟨(tI2 h 195 rfl), ?_⟩
  refine List.forall_mem_cons.mpr ⟨(tI2 h 196 rfl), ?_⟩
  refine List.forall_mem_cons.mpr ⟨(tI2 h 198 rfl), ?_⟩
  refine List.forall_mem_cons.mpr ⟨(k2_selects_private ⟨by decide, by decide⟩ (tI1 h 21 rfl) (tI2 h 197 rfl) (tI2 h 198 rfl)), ?_⟩
  refine List.forall_mem_cons.mpr ⟨(tI2 h 199 rfl), ?_⟩
  refine List.forall_mem_cons.mpr ⟨(tI1 h 51 rfl), ?_⟩
  refine List.forall_mem_cons.mpr ⟨(tI1 h 53 rfl), ?_⟩
  refine List.forall_mem_cons.mpr ⟨(tI2 h 200 rfl), ?_⟩
  refine List.forall_mem_cons.mpr ⟨(tI2 h 201 rfl), ?_⟩
  refine List.forall_mem_cons.mpr ⟨(tI2 h 202 rfl), ?_⟩
  exact fun _ h => absurd h List.not_mem_nil
theorem in_wsL_law_r19 {args : Array Value} {s : State} (h : ∀ c ∈ tables_1, c.before args s = true) : ∀ w ∈ wsL_law_r19, w.before args s = true := by
  unfold wsL_law_r19
  refine List.forall_mem_cons.mpr ⟨(tI2 h 203 rfl), ?_⟩
  refine List.forall_mem_cons.mpr ⟨(tI2 h 204 rfl), ?_⟩
  refine List.forall_mem_cons.mpr ⟨(tI2 h 206 rfl), ?_⟩
  refine List.forall_mem_cons.mpr ⟨(k2_selects_private ⟨by decide, by decide⟩ (tI1 h 21 rfl) (tI2 h 205 rfl) (tI2 h 206 rfl)), ?_⟩
  refine List.forall_mem_cons.mpr ⟨(tI2 h 207 rfl), ?_⟩
  refine List.forall_mem_cons.mpr ⟨(tI2 h 208 rfl), ?_⟩
  refine List.forall_mem_cons.mpr ⟨(tI2 h 209 rfl), ?_⟩
  refine List.forall_mem_cons.mpr ⟨(tI2 h 210 rfl), ?_⟩
  refine List.forall_mem_cons.mpr ⟨(tI2 h 211 rfl), ?_⟩
  refine List.forall_mem_cons.mpr ⟨(tI1 h 46 rfl), ?_⟩
  refine List.forall_mem_cons.mpr ⟨(tI2 h 212 rfl), ?_⟩
  refine List.forall_mem_cons.mpr ⟨(tI2 h 214 rfl), ?_⟩
  refine List.forall_mem_cons.mpr ⟨(k2_selects_private ⟨by decide, by decide⟩ (tI1 h 21 rfl) (tI2 h 213 rfl) (tI2 h 214 rfl)), ?_⟩
  refine List.forall_mem_cons.mpr ⟨(tI2 h 215 rfl), ?_⟩
  refine List.forall_mem_cons.mpr ⟨(tI1 h 121 rfl), ?_⟩
  refine List.forall_mem_cons.mpr ⟨(tI1 h 116 rfl), ?_⟩
  refine List.forall_mem_cons.mpr ⟨(tI2 h 216 rfl), ?_⟩
  refine List.forall_mem_cons.mpr ⟨(tI2 h 217 rfl), ?_⟩
  refine List.forall_mem_cons.mpr ⟨(tI2 h 219 rfl), ?_⟩
  refine List.forall_mem_cons.mpr ⟨(k2_selects_private ⟨by decide, by decide⟩ (tI1 h 21 rfl) (tI2 h 218 rfl) (tI2 h 219 rfl)), ?_⟩
  refine List.forall_mem_cons.mpr ⟨(tI2 h 220 rfl), ?_⟩
  refine List.forall_mem_cons.mpr ⟨(tI2 h 221 rfl), ?_⟩
  refine List.forall_mem_cons.mpr ⟨(tI2 h 222 rfl), ?_⟩
  refine List.forall_mem_cons.mpr ⟨(tI2 h 223 rfl), ?_⟩
  exact fun _ h => absurd h List.not_mem_nil
theorem in_wsL_law_r20 {args : Array Value} {s : State} (h : ∀ c ∈ tables_1, c.before args s = true) : ∀ w ∈ wsL_law_r20, w.before args s = true := by
  unfold wsL_law_r20
  refine List.forall_mem_cons.mpr ⟨(tI2 h 224 rfl), ?_⟩
  refine List.forall_mem_cons.mpr ⟨(tI2 h 225 rfl), ?_⟩
  refine List.forall_mem_cons.mpr ⟨(tI2 h 227 rfl), ?_⟩
  refine List.forall_mem_cons.mpr ⟨(k2_selects_private ⟨by decide, by decide⟩ (tI1 h 21 rfl) (tI2 h 226 rfl) (tI2 h 227 rfl)), ?_⟩
  refine List.forall_mem_cons.mpr ⟨(tI2 h 228 rfl), ?_⟩
  refine List.forall_mem_cons.mpr ⟨(tI1 h 125 rfl), ?_⟩
  refine List.forall_mem_cons.mpr ⟨(tI1 h 99 rfl), ?_⟩
  refine List.forall_mem_cons.mpr ⟨(tI2 h 229 rfl), ?_⟩
  refine List.forall_mem_cons.mpr ⟨(tI2 h 230 rfl), ?_⟩
  refine List.forall_mem_cons.mpr ⟨(tI2 h 231 rfl), ?_⟩
  refine List.forall_mem_cons.mpr ⟨(tI2 h 232 rfl), ?_⟩
  refine List.forall_mem_cons.mpr ⟨(tI2 h 233 rfl), ?_⟩
  refine List.forall_mem_cons.mpr ⟨(tI2 h 234 rfl), ?_⟩
  refine List.forall_mem_cons.mpr ⟨(tI2 h 235 rfl), ?_⟩
  refine List.forall_mem_cons.mpr ⟨(tI2 h 236 rfl), ?_⟩
  refine List.forall_mem_cons.mpr ⟨(tI2 h 237 rfl), ?_⟩
  refine List.forall_mem_cons.mpr ⟨(tI2 h 238 rfl), ?_⟩
  refine List.forall_mem_cons.mpr ⟨(tI2 h 239 rfl), ?_⟩
  refine List.forall_mem_cons.mpr ⟨(tI3 h 0 rfl), ?_⟩
  refine List.forall_mem_cons.mpr ⟨(tI3 h 1 rfl), ?_⟩
  refine List.forall_mem_cons.mpr ⟨(tI3 h 2 rfl), ?_⟩
  refine List.forall_mem_cons.mpr ⟨(tI3 h 4 rfl), ?_⟩
  refine List.forall_mem_cons.mpr ⟨(k2_selects_private ⟨by decide, by decide⟩ (tI1 h 21 rfl) (tI3 h 3 rfl) (tI3 h 4 rfl)), ?_⟩
  refine List.forall_mem_cons.mpr ⟨(tI3 h 5 rfl), ?_⟩
  exact fun _ h => absurd h List.not_mem_nil
theorem in_wsL_law_r21 {args : Array Value} {s : State} (h : ∀ c ∈ tables_1, c.before args s = true) : ∀ w ∈ wsL_law_r21, w.before args s = true := by
  unfold wsL_law_r21
  refine List.forall_mem_cons.mpr ⟨(tI1 h 60 rfl), ?_⟩
  refine List.forall_mem_cons.mpr ⟨(tI3 h 6 rfl), ?_⟩
  refine List.forall_mem_cons.mpr ⟨(tI3 h 8 rfl), ?_⟩
  refine List.forall_mem_cons.mpr ⟨(k2_selects_private ⟨by decide, by decide⟩ (tI1 h 21 rfl) (tI3 h 7 rfl) (tI3 h 8 rfl)), ?_⟩
  refine List.forall_mem_cons.mpr ⟨(tI3 h 9 rfl), ?_⟩
  refine List.forall_mem_cons.mpr ⟨(tI1 h 97 rfl), ?_⟩
  refine List.forall_mem_cons.mpr ⟨(tI3 h 10 rfl), ?_⟩
  refine List.forall_mem_cons.mpr ⟨(tI3 h 11 rfl), ?_⟩
  refine List.forall_mem_cons.mpr ⟨(tI3 h 12 rfl), ?_⟩
  refine List.forall_mem_cons.mpr ⟨(tI3 h 13 rfl), ?_⟩
  refine List.forall_mem_cons.mpr ⟨(tI4 h 160 rfl), ?_⟩
  refine List.forall_mem_cons.mpr ⟨(tI4 h 161 rfl), ?_⟩
  refine List.forall_mem_cons.mpr ⟨(tI4 h 162 rfl), ?_⟩
  refine List.forall_mem_cons.mpr ⟨(tI4 h 163 rfl), ?_⟩
  refine List.forall_mem_cons.mpr ⟨(tI4 h 164 rfl), ?_⟩
  refine List.forall_mem_cons.mpr ⟨(tI4 h 166 rfl), ?_⟩
  refine List.forall_mem_cons.mpr ⟨(k2_selects_private ⟨by decide, by decide⟩ (tI3 h 220 rfl) (tI4 h 165 rfl) (tI4 h 166 rfl)), ?_⟩
  refine List.forall_mem_cons.mpr ⟨(tI4 h 167 rfl), ?_⟩
  refine List.forall_mem_cons.mpr ⟨(tI4 h 168 rfl), ?_⟩
  refine List.forall_mem_cons.mpr ⟨(tI4 h 170 rfl), ?_⟩
  refine List.forall_mem_cons.mpr ⟨(k2_selects_private ⟨by decide, by decide⟩ (tI3 h 220 rfl) (tI4 h 169 rfl) (tI4 h 170 rfl)), ?_⟩
  refine List.forall_mem_cons.mpr ⟨(tI4 h 171 rfl), ?_⟩
  refine List.forall_mem_cons.mpr ⟨(tI4 h 172 rfl), ?_⟩
  refine List.forall_mem_cons.mpr ⟨(tI4 h 174 rfl), ?_⟩
  exact fun _ h => absurd h List.not_mem_nil
theorem in_wsL_law_r22 {args : Array Value} {s : State} (h : ∀ c ∈ tables_1, c.before args s = true) : ∀ w ∈ wsL_law_r22, w.before args s = true := by
  unfold wsL_law_r22
  refine List.forall_mem_cons.mpr ⟨(k2_selects_private ⟨by decide, by decide⟩ (tI3 h 220 rfl) (tI4 h 173 rfl) (tI4 h 174 rfl)), ?_⟩
  refine List.forall_mem_cons.mpr ⟨(tI4 h 175 rfl), ?_⟩
  refine List.forall_mem_cons.mpr ⟨(tI4 h 176 rfl), ?_⟩
  refine List.forall_mem_cons.mpr ⟨(tI4 h 178 rfl), ?_⟩
  refine List.forall_mem_cons.mpr ⟨(k2_selects_private ⟨by decide, by decide⟩ (tI3 h 220 rfl) (tI4 h 177 rfl) (tI4 h 178 rfl)), ?_⟩
  refine List.forall_mem_cons.mpr ⟨(tI4 h 179 rfl), ?_⟩
  refine List.forall_mem_cons.mpr ⟨(tI4 h 180 rfl), ?_⟩
  refine List.forall_mem_cons.mpr ⟨(tI4 h 182 rfl), ?_⟩
  refine List.forall_mem_cons.mpr ⟨(k2_selects_private ⟨by decide, by decide⟩ (tI3 h 220 rfl) (tI4 h 181 rfl) (tI4 h 182 rfl)), ?_⟩
  refine List.forall_mem_cons.mpr ⟨(tI4 h 183 rfl), ?_⟩
  refine List.forall_mem_cons.mpr ⟨(tI4 h 184 rfl), ?_⟩
  refine List.forall_mem_cons.mpr ⟨(tI4 h 186 rfl), ?_⟩
  refine List.forall_mem_cons.mpr ⟨(k2_selects_private ⟨by decide, by decide⟩ (tI3 h 220 rfl) (tI4 h 185 rfl) (tI4 h 186 rfl)), ?_⟩
  refine List.forall_mem_cons.mpr ⟨(tI4 h 187 rfl), ?_⟩
  refine List.forall_mem_cons.mpr ⟨(tI4 h 188 rfl), ?_⟩
  refine List.forall_mem_cons.mpr ⟨(tI4 h 190 rfl), ?_⟩
  refine List.forall_mem_cons.mpr ⟨(k2_selects_private ⟨by decide, by decide⟩ (tI3 h 220 rfl) (tI4 h 189 rfl) (tI4 h 190 rfl)), ?_⟩
  refine List.forall_mem_cons.mpr ⟨(tI4 h 191 rfl), ?_⟩
  refine List.forall_mem_cons.mpr ⟨(tI4 h 192 rfl), ?_⟩
  refine List.forall_mem_cons.mpr ⟨(tI4 h 194 rfl), ?_⟩
  refine List.forall_mem_cons.mpr ⟨(k2_selects_private ⟨by decide, by decide⟩ (tI3 h 220 rfl) (tI4 h 193 rfl) (tI4 h 194 rfl)), ?_⟩
  refine List.forall_mem_cons.mpr ⟨(tI4 h 195 rfl), ?_⟩
  refine List.forall_mem_cons.mpr ⟨(tI4 h 196 rfl), ?_⟩
  refine List.forall_mem_cons.mpr ⟨(tI4 h 198 rfl), ?_⟩
  exact fun _ h => absurd h List.not_mem_nil
theorem in_wsL_law_r23 {args : Array Value} {s : State} (h : ∀ c ∈ tables_1, c.before args s = true) : ∀ w ∈ wsL_law_r23, w.before args s = true := by
  unfold wsL_law_r23
  refine List.forall_mem_cons.mpr ⟨(k2_selects_private ⟨by decide, by decide⟩ (tI3 h 220 rfl) (tI4 h 197 rfl) (tI4 h 198 rfl)), ?_⟩
  refine List.forall_mem_cons.mpr ⟨(tI4 h 199 rfl), ?_⟩
  refine List.forall_mem_cons.mpr ⟨(tI4 h 200 rfl), ?_⟩
  refine List.forall_mem_cons.mpr ⟨(tI4 h 202 rfl), ?_⟩
  refine List.forall_mem_cons.mpr ⟨(k2_selects_private ⟨by decide, by decide⟩ (tI3 h 220 rfl) (tI4 h 201 rfl) (tI4 h 202 rfl)), ?_⟩
  refine List.forall_mem_cons.mpr ⟨(tI4 h 203 rfl), ?_⟩
  refine List.forall_mem_cons.mpr ⟨(tI4 h 204 rfl), ?_⟩
  refine List.forall_mem_cons.mpr ⟨(tI4 h 206 rfl), ?_⟩
  refine List.forall_mem_cons.mpr ⟨(k2_selects_private ⟨by decide, by decide⟩ (tI3 h 220 rfl) (tI4 h 205 rfl) (tI4 h 206 rfl)), ?_⟩
  refine List.forall_mem_cons.mpr ⟨(tI4 h 207 rfl), ?_⟩
  refine List.forall_mem_cons.mpr ⟨(tI4 h 208 rfl), ?_⟩
  refine List.forall_mem_cons.mpr ⟨(tI4 h 210 rfl), ?_⟩
  refine List.forall_mem_cons.mpr ⟨(k2_selects_private ⟨by decide, by decide⟩ (tI3 h 220 rfl) (tI4 h 209 rfl) (tI4 h 210 rfl)), ?_⟩
  refine List.forall_mem_cons.mpr ⟨(tI4 h 211 rfl), ?_⟩
  refine List.forall_mem_cons.mpr ⟨(tI4 h 212 rfl), ?_⟩
  refine List.forall_mem_cons.mpr ⟨(tI4 h 214 rfl), ?_⟩
  refine List.forall_mem_cons.mpr ⟨(k2_selects_private ⟨by decide, by decide⟩ (tI3 h 220 rfl) (tI4 h 213 rfl) (tI4 h 214 rfl)), ?_⟩
  refine List.forall_mem_cons.mpr ⟨(tI4 h 215 rfl), ?_⟩
  refine List.forall_mem_cons.mpr ⟨(tI4 h 216 rfl), ?_⟩
  refine List.forall_mem_cons.mpr ⟨(tI4 h 218 rfl), ?_⟩
  refine List.forall_mem_cons.mpr ⟨(k2_selects_private ⟨by decide, by decide⟩ (tI3 h 220 rfl) (tI4 h 217 rfl) (tI4 h 218 rfl)), ?_⟩
  refine List.forall_mem_cons.mpr ⟨(tI4 h 219 rfl), ?_⟩
  refine List.forall_mem_cons.mpr ⟨(tI4 h 220 rfl), ?_⟩
  refine List.forall_mem_cons.mpr ⟨(tI4 h 222 rfl), ?_⟩
  exact fun _ h => absurd h List.not_mem_nil
theorem in_wsL_law_r24 {args : Array Value} {s : State} (h : ∀ c ∈ tables_1, c.before args s = true) : ∀ w ∈ wsL_law_r24, w.before args s = true := by
  unfold wsL_law_r24
  refine List.forall_mem_cons.mpr ⟨(k2_selects_private ⟨by decide, by decide⟩ (tI3 h 220 rfl) (tI4 h 221 rfl) (tI4 h 222 rfl)), ?_⟩
  refine List.forall_mem_cons.mpr ⟨(tI4 h 223 rfl), ?_⟩
  refine List.forall_mem_cons.mpr ⟨(tI3 h 14 rfl), ?_⟩
  refine List.forall_mem_cons.mpr ⟨(tI3 h 15 rfl), ?_⟩
  refine List.forall_mem_cons.mpr ⟨(tI3 h 16 rfl), ?_⟩
  refine List.forall_mem_cons.mpr ⟨(tI3 h 17 rfl), ?_⟩
  refine List.forall_mem_cons.mpr ⟨(tI1 h 150 rfl), ?_⟩
  refine List.forall_mem_cons.mpr ⟨(tI3 h 18 rfl), ?_⟩
  refine List.forall_mem_cons.mpr ⟨(tI3 h 19 rfl), ?_⟩
  refine List.forall_mem_cons.mpr ⟨(tI3 h 20 rfl), ?_⟩
  refine List.forall_mem_cons.mpr ⟨(tI3 h 21 rfl), ?_⟩
  refine List.forall_mem_cons.mpr ⟨(tI3 h 22 rfl), ?_⟩
  refine List.forall_mem_cons.mpr ⟨(tI4 h 224 rfl), ?_⟩
  refine List.forall_mem_cons.mpr ⟨(tI4 h 225 rfl), ?_⟩
  refine List.forall_mem_cons.mpr ⟨(tI4 h 226 rfl), ?_⟩
  refine List.forall_mem_cons.mpr ⟨(tI4 h 227 rfl), ?_⟩
  refine List.forall_mem_cons.mpr ⟨(tI3 h 23 rfl), ?_⟩
  refine List.forall_mem_cons.mpr ⟨(tI3 h 24 rfl), ?_⟩
  refine List.forall_mem_cons.mpr ⟨(tI3 h 25 rfl), ?_⟩
  refine List.forall_mem_cons.mpr ⟨(tI3 h 26 rfl), ?_⟩
  refine List.forall_mem_cons.mpr ⟨(tI1 h 154 rfl), ?_⟩
  refine List.forall_mem_cons.mpr ⟨(tI3 h 27 rfl), ?_⟩
  refine List.forall_mem_cons.mpr ⟨(tI3 h 28 rfl), ?_⟩
  refine List.forall_mem_cons.mpr ⟨(tI3 h 29 rfl), ?_⟩
  exact fun _ h => absurd h List.not_mem_nil
theorem in_wsL_law_r25 {args : Array Value} {s : State} (h : ∀ c ∈ tables_1, c.before args s = true) : ∀ w ∈ wsL_law_r25, w.before args s = true := by
  unfold wsL_law_r25
  refine List.forall_mem_cons.mpr ⟨(tI3 h 30 rfl), ?_⟩
  refine List.forall_mem_cons.mpr ⟨(tI3 h 31 rfl), ?_⟩
  refine List.forall_mem_cons.mpr ⟨(tI1 h 118 rfl), ?_⟩
  refine List.forall_mem_cons.mpr ⟨(tI1 h 114 rfl), ?_⟩
  refine List.forall_mem_cons.mpr ⟨(tI1 h 111 rfl), ?_⟩
  refine List.forall_mem_cons.mpr ⟨(tI1 h 123 rfl), ?_⟩
  refine List.forall_mem_cons.mpr ⟨(tI1 h 127 rfl), ?_⟩
  refine List.forall_mem_cons.mpr ⟨(tI4 h 228 rfl), ?_⟩
  refine List.forall_mem_cons.mpr ⟨(tI4 h 229 rfl), ?_⟩
  refine List.forall_mem_cons.mpr ⟨(tI4 h 230 rfl), ?_⟩
  refine List.forall_mem_cons.mpr ⟨(tI4 h 231 rfl), ?_⟩
  refine List.forall_mem_cons.mpr ⟨(tI3 h 32 rfl), ?_⟩
  refine List.forall_mem_cons.mpr ⟨(tI3 h 33 rfl), ?_⟩
  refine List.forall_mem_cons.mpr ⟨(tI3 h 34 rfl), ?_⟩
  refine List.forall_mem_cons.mpr ⟨(tI3 h 35 rfl), ?_⟩
  refine List.forall_mem_cons.mpr ⟨(tI1 h 152 rfl), ?_⟩
  refine List.forall_mem_cons.mpr ⟨(tI3 h 36 rfl), ?_⟩
  refine List.forall_mem_cons.mpr ⟨(tI3 h 37 rfl), ?_⟩
  refine List.forall_mem_cons.mpr ⟨(tI3 h 38 rfl), ?_⟩
  refine List.forall_mem_cons.mpr ⟨(tI3 h 39 rfl), ?_⟩
  refine List.forall_mem_cons.mpr ⟨(tI3 h 40 rfl), ?_⟩
  refine List.forall_mem_cons.mpr ⟨(tI3 h 41 rfl), ?_⟩
  refine List.forall_mem_cons.mpr ⟨(tI3 h 42 rfl), ?_⟩
  refine List.forall_mem_cons.mpr ⟨(tI3 h 43 rfl), ?_⟩
  exact fun _ h => absurd h List.not_mem_nil
theorem in_wsL_law_r26 {args : Array Value} {s : State} (h : ∀ c ∈ tables_1, c.before args s = true) : ∀ w ∈ wsL_law_r26, w.before args s = true := by
  unfold wsL_law_r26
  refine List.forall_mem_cons.mpr ⟨(tI4 h 232 rfl), ?_⟩
  refine List.forall_mem_cons.mpr ⟨(tI4 h 233 rfl), ?_⟩
  refine List.forall_mem_cons.mpr ⟨(tI4 h 234 rfl), ?_⟩
  refine List.forall_mem_cons.mpr ⟨(tI4 h 235 rfl), ?_⟩
  refine List.forall_mem_cons.mpr ⟨(tI3 h 44 rfl), ?_⟩
  refine List.forall_mem_cons.mpr ⟨(tI3 h 45 rfl), ?_⟩
  refine List.forall_mem_cons.mpr ⟨(tI3 h 46 rfl), ?_⟩
  refine List.forall_mem_cons.mpr ⟨(tI3 h 47 rfl), ?_⟩
  refine List.forall_mem_cons.mpr ⟨(tI3 h 48 rfl), ?_⟩
  refine List.forall_mem_cons.mpr ⟨(tI3 h 49 rfl), ?_⟩
  refine List.forall_mem_cons.mpr ⟨(tI4 h 236 rfl), ?_⟩
  refine List.forall_mem_cons.mpr ⟨(tI4 h 237 rfl), ?_⟩
  refine List.forall_mem_cons.mpr ⟨(tI4 h 238 rfl), ?_⟩
  refine List.forall_mem_cons.mpr ⟨(tI4 h 239 rfl), ?_⟩
  refine List.forall_mem_cons.mpr ⟨(tI3 h 50 rfl), ?_⟩
  refine List.forall_mem_cons.mpr ⟨(tI3 h 51 rfl), ?_⟩
  refine List.forall_mem_cons.mpr ⟨(tI3 h 52 rfl), ?_⟩
  refine List.forall_mem_cons.mpr ⟨(tI3 h 53 rfl), ?_⟩
  refine List.forall_mem_cons.mpr ⟨(tI3 h 54 rfl), ?_⟩
  refine List.forall_mem_cons.mpr ⟨(tI3 h 55 rfl), ?_⟩
  refine List.forall_mem_cons.mpr ⟨(tI3 h 56 rfl), ?_⟩
  refine List.forall_mem_cons.mpr ⟨(tI3 h 57 rfl), ?_⟩
  refine List.forall_mem_cons.mpr ⟨(tI5 h 0 rfl), ?_⟩
  refine List.forall_mem_cons.mpr ⟨(tI5 h 1 rfl), ?_⟩
  exact fun _ h => absurd h List.not_mem_nil
theorem in_wsL_law_r27 {args : Array Value} {s : State} (h : ∀ c ∈ tables_1, c.before args s = true) : ∀ w ∈ wsL_law_r27, w.before args s = true := by
  unfold wsL_law_r27
  refine List.forall_mem_cons.mpr ⟨(tI5 h 2 rfl), ?_⟩
  refine List.forall_mem_cons.mpr ⟨(tI5 h 3 rfl), ?_⟩
  refine List.forall_mem_cons.mpr ⟨(tI3 h 58 rfl), ?_⟩
  refine List.forall_mem_cons.mpr ⟨(tI3 h 59 rfl), ?_⟩
  refine List.forall_mem_cons.mpr ⟨(tI3 h 60 rfl), ?_⟩
  refine List.forall_mem_cons.mpr ⟨(tI3 h 61 rfl), ?_⟩
  refine List.forall_mem_cons.mpr ⟨(tI1 h 148 rfl), ?_⟩
  refine List.forall_mem_cons.mpr ⟨(tI1 h 162 rfl), ?_⟩
  refine List.forall_mem_cons.mpr ⟨(tI1 h 156 rfl), ?_⟩
  refine List.forall_mem_cons.mpr ⟨(tI1 h 158 rfl), ?_⟩
  refine List.forall_mem_cons.mpr ⟨(tI1 h 160 rfl), ?_⟩
  refine List.forall_mem_cons.mpr ⟨(tI1 h 211 rfl), ?_⟩
  refine List.forall_mem_cons.mpr ⟨(tI1 h 192 rfl), ?_⟩
  refine List.forall_mem_cons.mpr ⟨(tI3 h 62 rfl), ?_⟩
  refine List.forall_mem_cons.mpr ⟨(tI3 h 63 rfl), ?_⟩
  refine List.forall_mem_cons.mpr ⟨(tI3 h 64 rfl), ?_⟩
  refine List.forall_mem_cons.mpr ⟨(tI3 h 65 rfl), ?_⟩
  refine List.forall_mem_cons.mpr ⟨(tI3 h 66 rfl), ?_⟩
  refine List.forall_mem_cons.mpr ⟨(tI3 h 67 rfl), ?_⟩
  refine List.forall_mem_cons.mpr ⟨(tI3 h 68 rfl), ?_⟩
  refine List.forall_mem_cons.mpr ⟨(tI1 h 11 rfl), ?_⟩
  refine List.forall_mem_cons.mpr ⟨(tI3 h 69 rfl), ?_⟩
  refine List.forall_mem_cons.mpr ⟨(tI3 h 70 rfl), ?_⟩
  refine List.forall_mem_cons.mpr ⟨(tI3 h 71 rfl), ?_⟩
  exact fun _ h => absurd h List.not_mem_nil
theorem in_wsL_law_r28 {args : Array Value} {s : State} (h : ∀ c ∈ tables_1, c.before args s = true) : ∀ w ∈ wsL_law_r28, w.before args s = true := by
  unfold wsL_law_r28
  refine List.forall_mem_cons.mpr ⟨(tI3 h 72 rfl), ?_⟩
  refine List.forall_mem_cons.mpr ⟨(tI3 h 73 rfl), ?_⟩
  refine List.forall_mem_cons.mpr ⟨(tI3 h 74 rfl), ?_⟩
  refine List.forall_mem_cons.mpr ⟨(tI3 h 75 rfl), ?_⟩
  refine List.forall_mem_cons.mpr ⟨(tI3 h 76 rfl), ?_⟩
  refine List.forall_mem_cons.mpr ⟨(tI3 h 77 rfl), ?_⟩
  refine List.forall_mem_cons.mpr ⟨(tI3 h 79 rfl), ?_⟩
  refine List.forall_mem_cons.mpr ⟨(k2_selects_private ⟨by decide, by decide⟩ (tI1 h 21 rfl) (tI3 h 78 rfl) (tI3 h 79 rfl)), ?_⟩
  refine List.forall_mem_cons.mpr ⟨(tI3 h 80 rfl), ?_⟩
  refine List.forall_mem_cons.mpr ⟨(tI3 h 81 rfl), ?_⟩
  refine List.forall_mem_cons.mpr ⟨(tI3 h 83 rfl), ?_⟩
  refine List.forall_mem_cons.mpr ⟨(k2_selects_private ⟨by decide, by decide⟩ (tI1 h 21 rfl) (tI3 h 82 rfl) (tI3 h 83 rfl)), ?_⟩
  refine List.forall_mem_cons.mpr ⟨(tI3 h 84 rfl), ?_⟩
  refine List.forall_mem_cons.mpr ⟨(tI1 h 55 rfl), ?_⟩
  refine List.forall_mem_cons.mpr ⟨(tI3 h 85 rfl), ?_⟩
  refine List.forall_mem_cons.mpr ⟨(tI3 h 87 rfl), ?_⟩
  refine List.forall_mem_cons.mpr ⟨(k2_selects_private ⟨by decide, by decide⟩ (tI1 h 21 rfl) (tI3 h 86 rfl) (tI3 h 87 rfl)), ?_⟩
  refine List.forall_mem_cons.mpr ⟨(tI3 h 88 rfl), ?_⟩
  refine List.forall_mem_cons.mpr ⟨(tI3 h 89 rfl), ?_⟩
  refine List.forall_mem_cons.mpr ⟨(tI3 h 91 rfl), ?_⟩
  refine List.forall_mem_cons.mpr ⟨(k2_selects_private ⟨by decide, by decide⟩ (tI1 h 21 rfl) (tI3 h 90 rfl) (tI3 h 91 rfl)), ?_⟩
  refine List.forall_mem_cons.mpr ⟨(tI3 h 92 rfl), ?_⟩
  refine List.forall_mem_cons.mpr ⟨(tI5 h 4 rfl), ?_⟩
  refine List.forall_mem_cons.mpr ⟨(tI5 h 5 rfl), ?_⟩
  exact fun _ h => absurd h List.not_mem_nil
theorem in_wsL_law_r29 {args : Array Value} {s : State} (h : ∀ c ∈ tables_1, c.before args s = true) : ∀ w ∈ wsL_law_r29, w.before args s = true := by
  unfold wsL_law_r29
  refine List.forall_mem_cons.mpr ⟨(tI5 h 6 rfl), ?_⟩
  refine List.forall_mem_cons.mpr ⟨(tI5 h 7 rfl), ?_⟩
  refine List.forall_mem_cons.mpr ⟨(tI3 h 235 rfl), ?_⟩
  refine List.forall_mem_cons.mpr ⟨(tI5 h 8 rfl), ?_⟩
  refine List.forall_mem_cons.mpr ⟨(tI5 h 10 rfl), ?_⟩
  refine List.forall_mem_cons.mpr ⟨(k2_selects_private ⟨by decide, by decide⟩ (tI3 h 220 rfl) (tI5 h 9 rfl) (tI5 h 10 rfl)), ?_⟩
  refine List.forall_mem_cons.mpr ⟨(tI5 h 11 rfl), ?_⟩
  refine List.forall_mem_cons.mpr ⟨(tI5 h 12 rfl), ?_⟩
  refine List.forall_mem_cons.mpr ⟨(tI5 h 14 rfl), ?_⟩
  refine List.forall_mem_cons.mpr ⟨(k2_selects_private ⟨by decide, by decide⟩ (tI3 h 220 rfl) (tI5 h 13 rfl) (tI5 h 14 rfl)), ?_⟩
  refine List.forall_mem_cons.mpr ⟨(tI5 h 15 rfl), ?_⟩
  refine List.forall_mem_cons.mpr ⟨(tI5 h 16 rfl), ?_⟩
  refine List.forall_mem_cons.mpr ⟨(tI5 h 18 rfl), ?_⟩
  refine List.forall_mem_cons.mpr ⟨(k2_selects_private ⟨by decide, by decide⟩ (tI3 h 220 rfl) (tI5 h 17 rfl) (tI5 h 18 rfl)), ?_⟩
  refine List.forall_mem_cons.mpr ⟨(tI5 h 19 rfl), ?_⟩
  refine List.forall_mem_cons.mpr ⟨(tI5 h 20 rfl), ?_⟩
  refine List.forall_mem_cons.mpr ⟨(tI5 h 22 rfl), ?_⟩
  refine List.forall_mem_cons.mpr ⟨(k2_selects_private ⟨by decide, by decide⟩ (tI3 h 220 rfl) (tI5 h 21 rfl) (tI5 h 22 rfl)), ?_⟩
  refine List.forall_mem_cons.mpr ⟨(tI5 h 23 rfl), ?_⟩
  refine List.forall_mem_cons.mpr ⟨(tI5 h 24 rfl), ?_⟩
  refine List.forall_mem_cons.mpr ⟨(tI5 h 26 rfl), ?_⟩
  refine List.forall_mem_cons.mpr ⟨(k2_selects_private ⟨by decide, by decide⟩ (tI3 h 220 rfl) (tI5 h 25 rfl) (tI5 h 26 rfl)), ?_⟩
  refine List.forall_mem_cons.mpr ⟨(tI5 h 27 rfl), ?_⟩
  refine List.forall_mem_cons.mpr ⟨(tI3 h 93 rfl), ?_⟩
  exact fun _ h => absurd h List.not_mem_nil
theorem in_wsL_law_r30 {args : Array Value} {s : State} (h : ∀ c ∈ tables_1, c.before args s = true) : ∀ w ∈ wsL_law_r30, w.before args s = true := by
  unfold wsL_law_r30
  refine List.forall_mem_cons.mpr ⟨(tI3 h 94 rfl), ?_⟩
  refine List.forall_mem_cons.mpr ⟨(tI3 h 95 rfl), ?_⟩
  refine List.forall_mem_cons.mpr ⟨(tI3 h 96 rfl), ?_⟩
  refine List.forall_mem_cons.mpr ⟨(tI1 h 120 rfl), ?_⟩
  refine List.forall_mem_cons.mpr ⟨(tI3 h 97 rfl), ?_⟩
  refine List.forall_mem_cons.mpr ⟨(tI3 h 98 rfl), ?_⟩
  refine List.forall_mem_cons.mpr ⟨(tI5 h 28 rfl), ?_⟩
  refine List.forall_mem_cons.mpr ⟨(tI5 h 29 rfl), ?_⟩
  refine List.forall_mem_cons.mpr ⟨(tI5 h 30 rfl), ?_⟩
  refine List.forall_mem_cons.mpr ⟨(tI5 h 31 rfl), ?_⟩
  refine List.forall_mem_cons.mpr ⟨(tI5 h 32 rfl), ?_⟩
  refine List.forall_mem_cons.mpr ⟨(tI5 h 34 rfl), ?_⟩
  refine List.forall_mem_cons.mpr ⟨(k2_selects_private ⟨by decide, by decide⟩ (tI3 h 220 rfl) (tI5 h 33 rfl) (tI5 h 34 rfl)), ?_⟩
  refine List.forall_mem_cons.mpr ⟨(tI5 h 35 rfl), ?_⟩
  refine List.forall_mem_cons.mpr ⟨(tI5 h 36 rfl), ?_⟩
  refine List.forall_mem_cons.mpr ⟨(tI5 h 38 rfl), ?_⟩
  refine List.forall_mem_cons.mpr ⟨(k2_selects_private ⟨by decide, by decide⟩ (tI3 h 220 rfl) (tI5 h 37 rfl) (tI5 h 38 rfl)), ?_⟩
  refine List.forall_mem_cons.mpr ⟨(tI5 h 39 rfl), ?_⟩
  refine List.forall_mem_cons.mpr ⟨(tI3 h 99 rfl), ?_⟩
  refine List.forall_mem_cons.mpr ⟨(tI3 h 100 rfl), ?_⟩
  refine List.forall_mem_cons.mpr ⟨(tI3 h 101 rfl), ?_⟩
  refine List.forall_mem_cons.mpr ⟨(tI3 h 102 rfl), ?_⟩
  refine List.forall_mem_cons.mpr ⟨(tI3 h 103 rfl), ?_⟩
  refine List.forall_mem_cons.mpr ⟨(tI3 h 104 rfl), ?_⟩
  exact fun _ h => absurd h List.not_mem_nil
theorem in_wsL_law_r31 {args : Array Value} {s : State} (h : ∀ c ∈ tables_1, c.before args s = true) : ∀ w ∈ wsL_law_r31, w.before args s = true := by
  unfold wsL_law_r31
  refine List.forall_mem_cons.mpr ⟨(tI3 h 105 rfl), ?_⟩
  refine List.forall_mem_cons.mpr ⟨(tI3 h 107 rfl), ?_⟩
  refine List.forall_mem_cons.mpr ⟨(k2_selects_private ⟨by decide, by decide⟩ (tI1 h 13 rfl) (tI3 h 106 rfl) (tI3 h 107 rfl)), ?_⟩
  refine List.forall_mem_cons.mpr ⟨(tI3 h 108 rfl), ?_⟩
  refine List.forall_mem_cons.mpr ⟨(tI5 h 40 rfl), ?_⟩
  refine List.forall_mem_cons.mpr ⟨(tI5 h 41 rfl), ?_⟩
  refine List.forall_mem_cons.mpr ⟨(tI5 h 42 rfl), ?_⟩
  refine List.forall_mem_cons.mpr ⟨(tI5 h 43 rfl), ?_⟩
  refine List.forall_mem_cons.mpr ⟨(tI5 h 44 rfl), ?_⟩
  refine List.forall_mem_cons.mpr ⟨(tI5 h 46 rfl), ?_⟩
  refine List.forall_mem_cons.mpr ⟨(k2_selects_private ⟨by decide, by decide⟩ (tI3 h 220 rfl) (tI5 h 45 rfl) (tI5 h 46 rfl)), ?_⟩
  refine List.forall_mem_cons.mpr ⟨(tI5 h 47 rfl), ?_⟩
  refine List.forall_mem_cons.mpr ⟨(tI5 h 48 rfl), ?_⟩
  refine List.forall_mem_cons.mpr ⟨(tI5 h 50 rfl), ?_⟩
  refine List.forall_mem_cons.mpr ⟨(k2_selects_private ⟨by decide, by decide⟩ (tI3 h 220 rfl) (tI5 h 49 rfl) (tI5 h 50 rfl)), ?_⟩
  refine List.forall_mem_cons.mpr ⟨(tI5 h 51 rfl), ?_⟩
  refine List.forall_mem_cons.mpr ⟨(tI3 h 109 rfl), ?_⟩
  refine List.forall_mem_cons.mpr ⟨(tI3 h 110 rfl), ?_⟩
  refine List.forall_mem_cons.mpr ⟨(tI3 h 111 rfl), ?_⟩
  refine List.forall_mem_cons.mpr ⟨(tI3 h 112 rfl), ?_⟩
  refine List.forall_mem_cons.mpr ⟨(tI3 h 113 rfl), ?_⟩
  refine List.forall_mem_cons.mpr ⟨(tI3 h 114 rfl), ?_⟩
  refine List.forall_mem_cons.mpr ⟨(tI3 h 115 rfl), ?_⟩
  refine List.forall_mem_cons.mpr ⟨(tI3 h 116 rfl), ?_⟩
  exact fun _ h => absurd h List.not_mem_nil
theorem in_wsL_law_r32 {args : Array Value} {s : State} (h : ∀ c ∈ tables_1, c.before args s = true) : ∀ w ∈ wsL_law_r32, w.before args s = true := by
  unfold wsL_law_r32
  refine List.forall_mem_cons.mpr ⟨(tI3 h 117 rfl), ?_⟩
  refine List.forall_mem_cons.mpr ⟨(tI3 h 118 rfl), ?_⟩
  refine List.forall_mem_cons.mpr ⟨(tI5 h 52 rfl), ?_⟩
  refine List.forall_mem_cons.mpr ⟨(tI5 h 53 rfl), ?_⟩
  refine List.forall_mem_cons.mpr ⟨(tI5 h 54 rfl), ?_⟩
  refine List.forall_mem_cons.mpr ⟨(tI5 h 55 rfl), ?_⟩
  refine List.forall_mem_cons.mpr ⟨(tI3 h 119 rfl), ?_⟩
  refine List.forall_mem_cons.mpr ⟨(tI3 h 120 rfl), ?_⟩
  refine List.forall_mem_cons.mpr ⟨(tI3 h 121 rfl), ?_⟩
  refine List.forall_mem_cons.mpr ⟨(tI3 h 122 rfl), ?_⟩
  refine List.forall_mem_cons.mpr ⟨(tI5 h 56 rfl), ?_⟩
  refine List.forall_mem_cons.mpr ⟨(tI5 h 57 rfl), ?_⟩
  refine List.forall_mem_cons.mpr ⟨(tI5 h 58 rfl), ?_⟩
  refine List.forall_mem_cons.mpr ⟨(tI5 h 59 rfl), ?_⟩
  refine List.forall_mem_cons.mpr ⟨(tI5 h 60 rfl), ?_⟩
  refine List.forall_mem_cons.mpr ⟨(tI5 h 62 rfl), ?_⟩
  refine List.forall_mem_cons.mpr ⟨(k2_selects_private ⟨by decide, by decide⟩ (tI3 h 220 rfl) (tI5 h 61 rfl) (tI5 h 62 rfl)), ?_⟩
  refine List.forall_mem_cons.mpr ⟨(tI5 h 63 rfl), ?_⟩
  refine List.forall_mem_cons.mpr ⟨(tI3 h 123 rfl), ?_⟩
  refine List.forall_mem_cons.mpr ⟨(tI3 h 124 rfl), ?_⟩
  refine List.forall_mem_cons.mpr ⟨(tI3 h 125 rfl), ?_⟩
  refine List.forall_mem_cons.mpr ⟨(tI3 h 126 rfl), ?_⟩
  refine List.forall_mem_cons.mpr ⟨(tI3 h 130 rfl), ?_⟩
  refine List.forall_mem_cons.mpr ⟨(tI3 h 127 rfl), ?_⟩
  exact fun _ h => absurd h List.not_mem_nil
theorem in_wsL_law_r33 {args : Array Value} {s : State} (h : ∀ c ∈ tables_1, c.before args s = true) : ∀ w ∈ wsL_law_r33, w.before args s = true := by
  unfold wsL_law_r33
  refine List.forall_mem_cons.mpr ⟨(tI3 h 128 rfl), ?_⟩
  refine List.forall_mem_cons.mpr ⟨(tI3 h 129 rfl), ?_⟩
  refine List.forall_mem_cons.mpr ⟨(tI3 h 131 rfl), ?_⟩
  refine List.forall_mem_cons.mpr ⟨(tI3 h 132 rfl), ?_⟩
  refine List.forall_mem_cons.mpr ⟨(tI3 h 133 rfl), ?_⟩
  refine List.forall_mem_cons.mpr ⟨(tI3 h 134 rfl), ?_⟩
  refine List.forall_mem_cons.mpr ⟨(tI1 h 210 rfl), ?_⟩
  refine List.forall_mem_cons.mpr ⟨(tI5 h 64 rfl), ?_⟩
  refine List.forall_mem_cons.mpr ⟨(tI5 h 65 rfl), ?_⟩
  refine List.forall_mem_cons.mpr ⟨(tI5 h 66 rfl), ?_⟩
  refine List.forall_mem_cons.mpr ⟨(tI5 h 67 rfl), ?_⟩
  refine List.forall_mem_cons.mpr ⟨(tI5 h 68 rfl), ?_⟩
  refine List.forall_mem_cons.mpr ⟨(tI3 h 135 rfl), ?_⟩
  refine List.forall_mem_cons.mpr ⟨(tI3 h 136 rfl), ?_⟩
  refine List.forall_mem_cons.mpr ⟨(tI3 h 137 rfl), ?_⟩
  refine List.forall_mem_cons.mpr ⟨(tI3 h 138 rfl), ?_⟩
  refine List.forall_mem_cons.mpr ⟨(tI3 h 139 rfl), ?_⟩
  refine List.forall_mem_cons.mpr ⟨(tI3 h 140 rfl), ?_⟩
  refine List.forall_mem_cons.mpr ⟨(tI3 h 141 rfl), ?_⟩
  refine List.forall_mem_cons.mpr ⟨(tI3 h 142 rfl), ?_⟩
  refine List.forall_mem_cons.mpr ⟨(tI5 h 69 rfl), ?_⟩
  refine List.forall_mem_cons.mpr ⟨(tI5 h 70 rfl), ?_⟩
  refine List.forall_mem_cons.mpr ⟨(tI5 h 71 rfl), ?_⟩
  refine List.forall_mem_cons.mpr ⟨(tI5 h 72 rfl), ?_⟩
  exact fun _ h => absurd h List.not_mem_nil
theorem in_wsL_law_r34 {args : Array Value} {s : State} (h : ∀ c ∈ tables_1, c.before args s = true) : ∀ w ∈ wsL_law_r34, w.before args s = true := by
  unfold wsL_law_r34
  refine List.forall_mem_cons.mpr ⟨(tI3 h 143 rfl), ?_⟩
  refine List.forall_mem_cons.mpr ⟨(tI3 h 144 rfl), ?_⟩
  refine List.forall_mem_cons.mpr ⟨(tI3 h 145 rfl), ?_⟩
  refine List.forall_mem_cons.mpr ⟨(tI3 h 146 rfl), ?_⟩
  refine List.forall_mem_cons.mpr ⟨(tI3 h 147 rfl), ?_⟩
  refine List.forall_mem_cons.mpr ⟨(tI3 h 148 rfl), ?_⟩
  refine List.forall_mem_cons.mpr ⟨(tI3 h 149 rfl), ?_⟩
  refine List.forall_mem_cons.mpr ⟨(tI3 h 150 rfl), ?_⟩
  refine List.forall_mem_cons.mpr ⟨(tI1 h 212 rfl), ?_⟩
  refine List.forall_mem_cons.mpr ⟨(tI3 h 151 rfl), ?_⟩
  refine List.forall_mem_cons.mpr ⟨(tI3 h 152 rfl), ?_⟩
  refine List.forall_mem_cons.mpr ⟨(tI3 h 153 rfl), ?_⟩
  refine List.forall_mem_cons.mpr ⟨(tI3 h 154 rfl), ?_⟩
  refine List.forall_mem_cons.mpr ⟨(tI3 h 155 rfl), ?_⟩
  refine List.forall_mem_cons.mpr ⟨(tI3 h 157 rfl), ?_⟩
  refine List.forall_mem_cons.mpr ⟨(k2_selects_private ⟨by decide, by decide⟩ (tI1 h 202 rfl) (tI3 h 156 rfl) (tI3 h 157 rfl)), ?_⟩
  refine List.forall_mem_cons.mpr ⟨(tI3 h 158 rfl), ?_⟩
  refine List.forall_mem_cons.mpr ⟨(tI1 h 213 rfl), ?_⟩
  refine List.forall_mem_cons.mpr ⟨(tI1 h 215 rfl), ?_⟩
  refine List.forall_mem_cons.mpr ⟨(tI3 h 159 rfl), ?_⟩
  refine List.forall_mem_cons.mpr ⟨(tI3 h 161 rfl), ?_⟩
  refine List.forall_mem_cons.mpr ⟨(k2_selects_private ⟨by decide, by decide⟩ (tI1 h 202 rfl) (tI3 h 160 rfl) (tI3 h 161 rfl)), ?_⟩
  refine List.forall_mem_cons.mpr ⟨(tI3 h 162 rfl), ?_⟩
  refine List.forall_mem_cons.mpr ⟨(tI3 h 163 rfl), ?_⟩
  exact fun _ h => absurd h List.not_mem_nil
theorem in_wsL_law_r35 {args : Array Value} {s : State} (h : ∀ c ∈ tables_1, c.before args s = true) : ∀ w ∈ wsL_law_r35, w.before args s = true := by
  unfold wsL_law_r35
  refine List.forall_mem_cons.mpr ⟨(tI3 h 165 rfl), ?_⟩
  refine List.forall_mem_cons.mpr ⟨(k2_selects_private ⟨by decide, by decide⟩ (tI1 h 202 rfl) (tI3 h 164 rfl) (tI3 h 165 rfl)), ?_⟩
  refine List.forall_mem_cons.mpr ⟨(tI3 h 166 rfl), ?_⟩
  refine List.forall_mem_cons.mpr ⟨(tI3 h 167 rfl), ?_⟩
  refine List.forall_mem_cons.mpr ⟨(tI3 h 169 rfl), ?_⟩
  refine List.forall_mem_cons.mpr ⟨(k2_selects_private ⟨by decide, by decide⟩ (tI1 h 202 rfl) (tI3 h 168 rfl) (tI3 h 169 rfl)), ?_⟩
  refine List.forall_mem_cons.mpr ⟨(tI3 h 170 rfl), ?_⟩
  refine List.forall_mem_cons.mpr ⟨(tI3 h 171 rfl), ?_⟩
  refine List.forall_mem_cons.mpr ⟨(tI3 h 172 rfl), ?_⟩
  refine List.forall_mem_cons.mpr ⟨(tI3 h 173 rfl), ?_⟩
  refine List.forall_mem_cons.mpr ⟨(tI3 h 174 rfl), ?_⟩
  refine List.forall_mem_cons.mpr ⟨(tI3 h 176 rfl), ?_⟩
  refine List.forall_mem_cons.mpr ⟨(k2_selects_private ⟨by decide, by decide⟩ (tI1 h 202 rfl) (tI3 h 175 rfl) (tI3 h 176 rfl)), ?_⟩
  refine List.forall_mem_cons.mpr ⟨(tI3 h 177 rfl), ?_⟩
  refine List.forall_mem_cons.mpr ⟨(tI3 h 178 rfl), ?_⟩
  refine List.forall_mem_cons.mpr ⟨(tI3 h 180 rfl), ?_⟩
  refine List.forall_mem_cons.mpr ⟨(k2_selects_private ⟨by decide, by decide⟩ (tI1 h 202 rfl) (tI3 h 179 rfl) (tI3 h 180 rfl)), ?_⟩
  refine List.forall_mem_cons.mpr ⟨(tI3 h 181 rfl), ?_⟩
  refine List.forall_mem_cons.mpr ⟨(tI3 h 182 rfl), ?_⟩
  refine List.forall_mem_cons.mpr ⟨(tI3 h 184 rfl), ?_⟩
  refine List.forall_mem_cons.mpr ⟨(k2_selects_private ⟨by decide, by decide⟩ (tI1 h 202 rfl) (tI3 h 183 rfl) (tI3 h 184 rfl)), ?_⟩
  refine List.forall_mem_cons.mpr ⟨(tI3 h 185 rfl), ?_⟩
  refine List.forall_mem_cons.mpr ⟨(tI5 h 73 rfl), ?_⟩
  refine List.forall_mem_cons.mpr ⟨(tI5 h 74 rfl), ?_⟩
  exact fun _ h => absurd h List.not_mem_nil
theorem in_wsL_law_r36 {args : Array Value} {s : State} (h : ∀ c ∈ tables_1, c.before args s = true) : ∀ w ∈ wsL_law_r36, w.before args s = true := by
  unfold wsL_law_r36
  refine List.forall_mem_cons.mpr ⟨(tI5 h 75 rfl), ?_⟩
  refine List.forall_mem_cons.mpr ⟨(tI5 h 76 rfl), ?_⟩
  refine List.forall_mem_cons.mpr ⟨(tI3 h 236 rfl), ?_⟩
  refine List.forall_mem_cons.mpr ⟨(tI3 h 237 rfl), ?_⟩
  refine List.forall_mem_cons.mpr ⟨(tI3 h 238 rfl), ?_⟩
  refine List.forall_mem_cons.mpr ⟨(tI3 h 239 rfl), ?_⟩
  refine List.forall_mem_cons.mpr ⟨(tI5 h 77 rfl), ?_⟩
  refine List.forall_mem_cons.mpr ⟨(tI5 h 79 rfl), ?_⟩
  refine List.forall_mem_cons.mpr ⟨(k2_selects_private ⟨by decide, by decide⟩ (tI3 h 220 rfl) (tI5 h 78 rfl) (tI5 h 79 rfl)), ?_⟩
  refine List.forall_mem_cons.mpr ⟨(tI5 h 80 rfl), ?_⟩
  refine List.forall_mem_cons.mpr ⟨(tI5 h 81 rfl), ?_⟩
  refine List.forall_mem_cons.mpr ⟨(tI5 h 83 rfl), ?_⟩
  refine List.forall_mem_cons.mpr ⟨(k2_selects_private ⟨by decide, by decide⟩ (tI3 h 220 rfl) (tI5 h 82 rfl) (tI5 h 83 rfl)), ?_⟩
  refine List.forall_mem_cons.mpr ⟨(tI5 h 84 rfl), ?_⟩
  refine List.forall_mem_cons.mpr ⟨(tI5 h 85 rfl), ?_⟩
  refine List.forall_mem_cons.mpr ⟨(tI5 h 87 rfl), ?_⟩
  refine List.forall_mem_cons.mpr ⟨(k2_selects_private ⟨by decide, by decide⟩ (tI3 h 220 rfl) (tI5 h 86 rfl) (tI5 h 87 rfl)), ?_⟩
  refine List.forall_mem_cons.mpr ⟨(tI5 h 88 rfl), ?_⟩
  refine List.forall_mem_cons.mpr ⟨(tI5 h 89 rfl), ?_⟩
  refine List.forall_mem_cons.mpr ⟨(tI5 h 91 rfl), ?_⟩
  refine List.forall_mem_cons.mpr ⟨(k2_selects_private ⟨by decide, by decide⟩ (tI3 h 220 rfl) (tI5 h 90 rfl) (tI5 h 91 rfl)), ?_⟩
  refine List.forall_mem_cons.mpr ⟨(tI5 h 92 rfl), ?_⟩
  refine List.forall_mem_cons.mpr ⟨(tI5 h 93 rfl), ?_⟩
  refine List.forall_mem_cons.mpr ⟨(tI5 h 95 rfl), ?_⟩
  exact fun _ h => absurd h List.not_mem_nil
theorem in_wsL_law_r37 {args : Array Value} {s : State} (h : ∀ c ∈ tables_1, c.before args s = true) : ∀ w ∈ wsL_law_r37, w.before args s = true := by
  unfold wsL_law_r37
  refine List.forall_mem_cons.mpr ⟨(k2_selects_private ⟨by decide, by decide⟩ (tI3 h 220 rfl) (tI5 h 94 rfl) (tI5 h 95 rfl)), ?_⟩
  refine List.forall_mem_cons.mpr ⟨(tI5 h 96 rfl), ?_⟩
  refine List.forall_mem_cons.mpr ⟨(tI5 h 97 rfl), ?_⟩
  refine List.forall_mem_cons.mpr ⟨(tI5 h 99 rfl), ?_⟩
  refine List.forall_mem_cons.mpr ⟨(k2_selects_private ⟨by decide, by decide⟩ (tI3 h 220 rfl) (tI5 h 98 rfl) (tI5 h 99 rfl)), ?_⟩
  refine List.forall_mem_cons.mpr ⟨(tI5 h 100 rfl), ?_⟩
  refine List.forall_mem_cons.mpr ⟨(tI5 h 101 rfl), ?_⟩
  refine List.forall_mem_cons.mpr ⟨(tI5 h 103 rfl), ?_⟩
  refine List.forall_mem_cons.mpr ⟨(k2_selects_private ⟨by decide, by decide⟩ (tI3 h 220 rfl) (tI5 h 102 rfl) (tI5 h 103 rfl)), ?_⟩
  refine List.forall_mem_cons.mpr ⟨(tI5 h 104 rfl), ?_⟩
  refine List.forall_mem_cons.mpr ⟨(tI3 h 186 rfl), ?_⟩
  refine List.forall_mem_cons.mpr ⟨(tI3 h 187 rfl), ?_⟩
  refine List.forall_mem_cons.mpr ⟨(tI3 h 188 rfl), ?_⟩
  refine List.forall_mem_cons.mpr ⟨(tI3 h 189 rfl), ?_⟩
  refine List.forall_mem_cons.mpr ⟨(tI3 h 190 rfl), ?_⟩
  refine List.forall_mem_cons.mpr ⟨(tI3 h 191 rfl), ?_⟩
  refine List.forall_mem_cons.mpr ⟨(tI3 h 192 rfl), ?_⟩
  refine List.forall_mem_cons.mpr ⟨(tI3 h 193 rfl), ?_⟩
  refine List.forall_mem_cons.mpr ⟨(tI3 h 194 rfl), ?_⟩
  refine List.forall_mem_cons.mpr ⟨(tI3 h 195 rfl), ?_⟩
  refine List.forall_mem_cons.mpr ⟨(tI3 h 197 rfl), ?_⟩
  refine List.forall_mem_cons.mpr ⟨(k2_selects_private ⟨by decide, by decide⟩ (tI1 h 13 rfl) (tI3 h 196 rfl) (tI3 h 197 rfl)), ?_⟩
  refine List.forall_mem_cons.mpr ⟨(tI3 h 198 rfl), ?_⟩
  refine List.forall_mem_cons.mpr ⟨(tI1 h 216 rfl), ?_⟩
  exact fun _ h => absurd h List.not_mem_nil
theorem in_wsL_law_r38 {args : Array Value} {s : State} (h : ∀ c ∈ tables_1, c.before args s = true) : ∀ w ∈ wsL_law_r38, w.before args s = true := by
  unfold wsL_law_r38
  refine List.forall_mem_cons.mpr ⟨(tI1 h 209 rfl), ?_⟩
  refine List.forall_mem_cons.mpr ⟨(tI3 h 199 rfl), ?_⟩
  refine List.forall_mem_cons.mpr ⟨(tI3 h 201 rfl), ?_⟩
  refine List.forall_mem_cons.mpr ⟨(k2_selects_private ⟨by decide, by decide⟩ (tI1 h 13 rfl) (tI3 h 200 rfl) (tI3 h 201 rfl)), ?_⟩
  refine List.forall_mem_cons.mpr ⟨(tI3 h 202 rfl), ?_⟩
  refine List.forall_mem_cons.mpr ⟨(tI1 h 214 rfl), ?_⟩
  refine List.forall_mem_cons.mpr ⟨(tI5 h 105 rfl), ?_⟩
  refine List.forall_mem_cons.mpr ⟨(tI5 h 106 rfl), ?_⟩
  refine List.forall_mem_cons.mpr ⟨(tI5 h 107 rfl), ?_⟩
  refine List.forall_mem_cons.mpr ⟨(tI5 h 108 rfl), ?_⟩
  refine List.forall_mem_cons.mpr ⟨(tI5 h 109 rfl), ?_⟩
  refine List.forall_mem_cons.mpr ⟨(tI5 h 110 rfl), ?_⟩
  refine List.forall_mem_cons.mpr ⟨(tI5 h 112 rfl), ?_⟩
  refine List.forall_mem_cons.mpr ⟨(k2_selects_private ⟨by decide, by decide⟩ (tI3 h 220 rfl) (tI5 h 111 rfl) (tI5 h 112 rfl)), ?_⟩
  refine List.forall_mem_cons.mpr ⟨(tI5 h 113 rfl), ?_⟩
  refine List.forall_mem_cons.mpr ⟨(tI5 h 114 rfl), ?_⟩
  refine List.forall_mem_cons.mpr ⟨(tI5 h 116 rfl), ?_⟩
  refine List.forall_mem_cons.mpr ⟨(k2_selects_private ⟨by decide, by decide⟩ (tI3 h 220 rfl) (tI5 h 115 rfl) (tI5 h 116 rfl)), ?_⟩
  refine List.forall_mem_cons.mpr ⟨(tI5 h 117 rfl), ?_⟩
  refine List.forall_mem_cons.mpr ⟨(tI3 h 203 rfl), ?_⟩
  refine List.forall_mem_cons.mpr ⟨(tI3 h 204 rfl), ?_⟩
  refine List.forall_mem_cons.mpr ⟨(tI3 h 205 rfl), ?_⟩
  refine List.forall_mem_cons.mpr ⟨(tI3 h 206 rfl), ?_⟩
  refine List.forall_mem_cons.mpr ⟨(tI3 h 207 rfl), ?_⟩
  exact fun _ h => absurd h List.not_mem_nil
theorem in_wsL_law_r39 {args : Array Value} {s : State} (h : ∀ c ∈ tables_1, c.before args s = true) : ∀ w ∈ wsL_law_r39, w.before args s = true := by
  unfold wsL_law_r39
  refine List.forall_mem_cons.mpr ⟨(tI3 h 208 rfl), ?_⟩
  refine List.forall_mem_cons.mpr ⟨(tI3 h 209 rfl), ?_⟩
  refine List.forall_mem_cons.mpr ⟨(tI3 h 210 rfl), ?_⟩
  refine List.forall_mem_cons.mpr ⟨(tI5 h 118 rfl), ?_⟩
  refine List.forall_mem_cons.mpr ⟨(tI5 h 119 rfl), ?_⟩
  refine List.forall_mem_cons.mpr ⟨(tI5 h 120 rfl), ?_⟩
  refine List.forall_mem_cons.mpr ⟨(tI5 h 121 rfl), ?_⟩
  refine List.forall_mem_cons.mpr ⟨(tI3 h 211 rfl), ?_⟩
  refine List.forall_mem_cons.mpr ⟨(tI3 h 212 rfl), ?_⟩
  refine List.forall_mem_cons.mpr ⟨(tI3 h 213 rfl), ?_⟩
  refine List.forall_mem_cons.mpr ⟨(tI3 h 214 rfl), ?_⟩
  refine List.forall_mem_cons.mpr ⟨(tI5 h 122 rfl), ?_⟩
  refine List.forall_mem_cons.mpr ⟨(tI5 h 123 rfl), ?_⟩
  refine List.forall_mem_cons.mpr ⟨(tI5 h 124 rfl), ?_⟩
  refine List.forall_mem_cons.mpr ⟨(tI5 h 125 rfl), ?_⟩
  refine List.forall_mem_cons.mpr ⟨(tI3 h 215 rfl), ?_⟩
  refine List.forall_mem_cons.mpr ⟨(tI3 h 216 rfl), ?_⟩
  refine List.forall_mem_cons.mpr ⟨(tI3 h 217 rfl), ?_⟩
  refine List.forall_mem_cons.mpr ⟨(tI3 h 218 rfl), ?_⟩
  refine List.forall_mem_cons.mpr ⟨(tI5 h 126 rfl), ?_⟩
  refine List.forall_mem_cons.mpr ⟨(tI5 h 127 rfl), ?_⟩
  refine List.forall_mem_cons.mpr ⟨(tI5 h 128 rfl), ?_⟩
  refine List.forall_mem_cons.mpr ⟨(tI5 h 129 rfl), ?_⟩
  exact fun _ h => absurd h List.not_mem_nil
theorem in_wsX00 {args : Array Value} {s : State} (h : ∀ c ∈ tables_1, c.before args s = true) : ∀ w ∈ wsX00, w.before args s = true := by
  intro w hw
  obtain ⟨k, hk, rfl⟩ := List.mem_map.mp hw
  have hk := List.mem_range.mp hk
  match k, hk with
  | 0, _ => exact (tI1 h 193 rfl)
  | 1, _ => exact (tI1 h 195 rfl)
  | 2, _ => exact (tI1 h 197 rfl)
  | k + 3, hk => exact absurd hk (by omega)
theorem in_wsX10 {args : Array Value} {s : State} (h : ∀ c ∈ tables_1, c.before args s = true) : ∀ w ∈ wsX10, w.before args s = true := by
  intro w hw
  obtain ⟨k, hk, rfl⟩ := List.mem_map.mp hw
  have hk := List.mem_range.mp hk
  match k, hk with
  | 0, _ => exact (tI1 h 100 rfl)
  | 1, _ => exact (tI1 h 102 rfl)
  | k + 2, hk => exact absurd hk (by omega)
theorem in_wsX20 {args : Array Value} {s : State} (h : ∀ c ∈ tables_1, c.before args s = true) : ∀ w ∈ wsX20, w.before args s = true := by
  intro w hw
  obtain ⟨k, hk, rfl⟩ := List.mem_map.mp hw
  have hk := List.mem_range.mp hk
  match k, hk with
  | 0, _ => exact (tI1 h 63 rfl)
  | 1, _ => exact (tI1 h 65 rfl)
  | 2, _ => exact (tI1 h 67 rfl)
  | 3, _ => exact (tI1 h 69 rfl)
  | 4, _ => exact (tI1 h 71 rfl)
  | 5, _ => exact (tI1 h 73 rfl)
  | 6, _ => exact (tI1 h 75 rfl)
  | 7, _ => exact (tI1 h 77 rfl)
  | 8, _ => exact (tI1 h 79 rfl)
  | 9, _ => exact (tI1 h 81 rfl)
  | 10, _ => exact (tI1 h 83 rfl)
  | 11, _ => exact (tI1 h 85 rfl)
  | 12, _ => exact (tI1 h 87 rfl)
  | k + 13, hk => exact absurd hk (by omega)
theorem in_wsX30 {args : Array Value} {s : State} (h : ∀ c ∈ tables_1, c.before args s = true) : ∀ w ∈ wsX30, w.before args s = true := by
  intro w hw
  obtain ⟨k, hk, rfl⟩ := List.mem_map.mp hw
  have hk := List.mem_range.mp hk
  match k, hk with
  | 0, _ => exact (tI1 h 217 rfl)
  | 1, _ => exact (tI1 h 219 rfl)
  | 2, _ => exact (tI1 h 221 rfl)
  | 3, _ => exact (tI1 h 223 rfl)
  | 4, _ => exact (tI1 h 225 rfl)
  | 5, _ => exact (tI1 h 227 rfl)
  | k + 6, hk => exact absurd hk (by omega)
theorem in_wsX40 {args : Array Value} {s : State} (h : ∀ c ∈ tables_1, c.before args s = true) : ∀ w ∈ wsX40, w.before args s = true := by
  intro w hw
  obtain ⟨k, hk, rfl⟩ := List.mem_map.mp hw
  have hk := List.mem_range.mp hk
  match k, hk with
  | 0, _ => exact (tI1 h 163 rfl)
  | 1, _ => exact (tI1 h 165 rfl)
  | 2, _ => exact (tI1 h 167 rfl)
  | 3, _ => exact (tI1 h 169 rfl)
  | 4, _ => exact (tI1 h 171 rfl)
  | 5, _ => exact (tI1 h 173 rfl)
  | 6, _ => exact (tI1 h 175 rfl)
  | 7, _ => exact (tI1 h 177 rfl)
  | k + 8, hk => exact absurd hk (by omega)
theorem in_wsX50 {args : Array Value} {s : State} (h : ∀ c ∈ tables_1, c.before args s = true) : ∀ w ∈ wsX50, w.before args s = true := by
  intro w hw
  obtain ⟨k, hk, rfl⟩ := List.mem_map.mp hw
  have hk := List.mem_range.mp hk
  match k, hk with
  | 0, _ => exact (tI1 h 128 rfl)
  | 1, _ => exact (tI1 h 130 rfl)
  | 2, _ => exact (tI1 h 132 rfl)
  | 3, _ => exact (tI1 h 134 rfl)
  | 4, _ => exact (tI1 h 136 rfl)
  | 5, _ => exact (tI1 h 138 rfl)
  | 6, _ => exact (tI1 h 140 rfl)
  | 7, _ => exact (tI1 h 142 rfl)
  | 8, _ => exact (tI1 h 144 rfl)
  | k + 9, hk => exact absurd hk (by omega)
theorem in_wsX60 {args : Array Value} {s : State} (h : ∀ c ∈ tables_1, c.before args s = true) : ∀ w ∈ wsX60, w.before args s = true := by
  intro w hw
  obtain ⟨k, hk, rfl⟩ := List.mem_map.mp hw
  have hk := List.mem_range.mp hk
  match k, hk with
  | 0, _ => exact (tI1 h 237 rfl)
  | 1, _ => exact (tI1 h 239 rfl)
  | 2, _ => exact (tI2 h 1 rfl)
  | 3, _ => exact (tI2 h 3 rfl)
  | 4, _ => exact (tI2 h 5 rfl)
  | 5, _ => exact (tI2 h 7 rfl)
  | k + 6, hk => exact absurd hk (by omega)
theorem in_wsX70 {args : Array Value} {s : State} (h : ∀ c ∈ tables_1, c.before args s = true) : ∀ w ∈ wsX70, w.before args s = true := by
  intro w hw
  obtain ⟨k, hk, rfl⟩ := List.mem_map.mp hw
  have hk := List.mem_range.mp hk
  match k, hk with
  | 0, _ => exact (tI4 h 3 rfl)
  | 1, _ => exact (tI4 h 5 rfl)
  | 2, _ => exact (tI4 h 7 rfl)
  | 3, _ => exact (tI4 h 9 rfl)
  | 4, _ => exact (tI4 h 11 rfl)
  | 5, _ => exact (tI4 h 13 rfl)
  | 6, _ => exact (tI4 h 15 rfl)
  | 7, _ => exact (tI4 h 17 rfl)
  | 8, _ => exact (tI4 h 19 rfl)
  | 9, _ => exact (tI4 h 21 rfl)
  | 10, _ => exact (tI4 h 23 rfl)
  | 11, _ => exact (tI4 h 25 rfl)
  | 12, _ => exact (tI4 h 27 rfl)
  | 13, _ => exact (tI4 h 29 rfl)
  | 14, _ => exact (tI4 h 31 rfl)
  | 15, _ => exact (tI4 h 33 rfl)
  | 16, _ => exact (tI4 h 35 rfl)
  | 17, _ => exact (tI4 h 37 rfl)
  | k + 18, hk => exact absurd hk (by omega)
theorem xT_of {args : Array Value} {s : State} (h : ∀ c ∈ tables_1, c.before args s = true) : ∀ w ∈ xT, w.before args s = true := by
  unfold xT wsL_law
  exact (List.forall_mem_append.mpr ⟨(List.forall_mem_append.mpr ⟨(List.forall_mem_append.mpr ⟨(List.forall_mem_append.mpr ⟨(List.forall_mem_append.mpr ⟨(List.forall_mem_append.mpr ⟨(List.forall_mem_append.mpr ⟨(List.forall_mem_append.mpr ⟨(List.forall_mem_append.mpr ⟨(List.forall_mem_append.mpr ⟨in_wsL_law_r1 h, (List.forall_mem_append.mpr ⟨in_wsL_law_r2 h, (List.forall_mem_append.mpr ⟨in_wsL_law_r3 h, (List.forall_mem_append.mpr ⟨in_wsL_law_r4 h, (List.forall_mem_append.mpr ⟨in_wsL_law_r5 h, (List.forall_mem_append.mpr ⟨in_wsL_law_r6 h, (List.forall_mem_append.mpr ⟨in_wsL_law_r7 h, (List.forall_mem_append.mpr ⟨in_wsL_law_r8 h, (List.forall_mem_append.mpr ⟨in_wsL_law_r9 h, (List.forall_mem_append.mpr ⟨in_wsL_law_r10 h, (List.forall_mem_append.mpr ⟨in_wsL_law_r11 h, (List.forall_mem_append.mpr ⟨in_wsL_law_r12 h, (List.forall_mem_append.mpr ⟨in_wsL_law_r13 h, (List.forall_mem_append.mpr ⟨in_wsL_law_r14 h, (List.forall_mem_append.mpr ⟨in_wsL_law_r15 h, (List.forall_mem_append.mpr ⟨in_wsL_law_r16 h, (List.forall_mem_append.mpr ⟨in_wsL_law_r17 h, (List.forall_mem_append.mpr ⟨in_wsL_law_r18 h, (List.forall_mem_append.mpr ⟨in_wsL_law_r19 h, (List.forall_mem_append.mpr ⟨in_wsL_law_r20 h, (List.forall_mem_append.mpr ⟨in_wsL_law_r21 h, (List.forall_mem_append.mpr ⟨in_wsL_law_r22 h, (List.forall_mem_append.mpr ⟨in_wsL_law_r23 h, (List.forall_mem_append.mpr ⟨in_wsL_law_r24 h, (List.forall_mem_append.mpr ⟨in_wsL_law_r25 h, (List.forall_mem_append.mpr ⟨in_wsL_law_r26 h, (List.forall_mem_append.mpr ⟨in_wsL_law_r27 h, (List.forall_mem_append.mpr ⟨in_wsL_law_r28 h, (List.forall_mem_append.mpr ⟨in_wsL_law_r29 h, (List.forall_mem_append.mpr ⟨in_wsL_law_r30 h, (List.forall_mem_append.mpr ⟨in_wsL_law_r31 h, (List.forall_mem_append.mpr ⟨in_wsL_law_r32 h, (List.forall_mem_append.mpr ⟨in_wsL_law_r33 h, (List.forall_mem_append.mpr ⟨in_wsL_law_r34 h, (List.forall_mem_append.mpr ⟨in_wsL_law_r35 h, (List.forall_mem_append.mpr ⟨in_wsL_law_r36 h, (List.forall_mem_append.mpr ⟨in_wsL_law_r37 h, (List.forall_mem_append.mpr ⟨in_wsL_law_r38 h, (in_wsL_law_r39 h)⟩)⟩)⟩)⟩)⟩)⟩)⟩)⟩)⟩)⟩)⟩)⟩)⟩)⟩)⟩)⟩)⟩)⟩)⟩)⟩)⟩)⟩)⟩)⟩)⟩)⟩)⟩)⟩)⟩)⟩)⟩)⟩)⟩)⟩)⟩)⟩)⟩)⟩), in_wsX60 h⟩), in_wsX70 h⟩), in_wsX40 h⟩), in_wsX00 h⟩), in_wsX30 h⟩), in_wsX20 h⟩), in_wsX10 h⟩), in_wsX50 h⟩), fun _ h => absurd h List.not_mem_nil⟩)
