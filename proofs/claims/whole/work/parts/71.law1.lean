/-! ===== the law: changes ===== -/
section LAWC
variable {p : Program} {l : Launch} {e : Env} {s : State} {m : MethodId} {below : List Frame} {meth : Method} {c : Code} {H : Heap} {locs : List Loc} {Q : State → Prop}
variable {ls : Array Slot} {X : xX} {b L t : Nat} {xs : Nat → Int32}
set_option maxHeartbeats 4000000 in
set_option maxRecDepth 100000 in
theorem L_set (C : lw_C p s m c b L xs X) (ht : 4 * t + 4 ≤ L) (h : LawSt X t H locs) (hl : lv_has ls 4 (lawL X b t))
    (kk : ∀ (H : Heap) (locs : List Loc), LawSt X (t + 1) H locs → W p l e room_1 s m #[Value.ref b] below meth c H locs 603 9687 Q (F0 m 803 ls [])) : W p l e room_1 s m #[Value.ref b] below meth c H locs 603 9687 Q (F0 m 148 ls []) := by
  obtain ⟨hx, hb, hml, hown, hts, hK, hX, hbl, hL⟩ := id C
  obtain ⟨S, sv, hs, pf, sn, nb, f, sg, M, U, V, pb, pc, pd, pe, pg, ph, pp, pq, pt, pu, hW, hI⟩ := h
  obtain ⟨qd, qf, qm, ⟨-, -, h2m⟩, ⟨g1, g2, g3, g4⟩, -⟩ := id hI.2.2.2.1
  obtain ⟨pn, p8, p2, p10, -⟩ := id hI.2.1.2.2
  have hS0 := hI.1 0 (by omega)
  have hz := hI.2.2.1.1
  have hn4 := ZS.n4 hS0 hz
  have hN16 : cN (S 0) ≤ 16 := hS0.hn16
  have hH8 : cH (S 0) ≤ 8 := hS0.hh8
  have hW8 : cW (S 0) ≤ 8 := hS0.hw8
  have hY := hz.mw
  have hn10 : f 10 = nI (f 10).toNatClampNeg := by rw [p10, nI_clamp (by omega)]
  have hn10b : (f 10).toNatClampNeg ≤ 80 := by rw [p10, nI_clamp (by omega)]; exact p8
  have hB : 16000 * t < 2 ^ 30 := by omega
  have hE := I_set (x := (xs (4 * t + 1))) (v := (xs (4 * t + 2))) hI g1 g2 g3 g4
  obtain ⟨hE, hI'⟩ := hE
  refine lv_aload_n hx hb dL_law_148 rfl (lv_at hl 1 rfl) ?_
  refine L_arg C ht hW hl (k := 1) (by omega) (by decide) dL_law_149 dL_law_150 dL_law_151 dL_law_152 dL_law_153 ?_
  refine L_arg C ht hW hl (k := 2) (by omega) (by decide) dL_law_154 dL_law_155 dL_law_156 dL_law_157 dL_law_158 ?_
  refine x_callV hx hb hml hown hts hK.1 hW hl.1 (c_X6_set l X (S := S) (sv := sv) (hs := hs) (pf := pf) (sn := sn) (nb := nb) (ρ := xMa f sg M U V pb pc pd pe pg ph pp pq pt pu) (x := (xs (4 * t + 1))) (v := (xs (4 * t + 2))) (hS := hI.1) (hH := hI.2.2.2.1.ok) (ho0 := rfl) (ho1 := rfl) (hres := rfl)) xF_mi5.1 xF_mi5.2 (by decide) rfl xw_90 xw_91 xw_92 xw_2 xw_93 hdV_yX6_set ⟨(Nat.le_of_ble_eq_true rfl), (Nat.le_of_ble_eq_true rfl)⟩ rfl (Nat.le_of_ble_eq_true rfl) ⟨(Nat.le_of_ble_eq_true rfl), (Nat.le_of_ble_eq_true rfl)⟩ dL_law_159 (fun H locs hW => ?_)
  refine lv_aload_n hx hb dL_law_162 rfl (lv_at hl 2 rfl) ?_
  refine L_arg C ht hW hl (k := 1) (by omega) (by decide) dL_law_163 dL_law_164 dL_law_165 dL_law_166 dL_law_167 ?_
  refine L_arg C ht hW hl (k := 2) (by omega) (by decide) dL_law_168 dL_law_169 dL_law_170 dL_law_171 dL_law_172 ?_
  have hW := XG.in12 hW
  refine x_callV hx hb hml hown hts hK.1 hW hl.1 (c_X7_set l X _ (f := f) (sg := sg) (L := M) (O := U) (Y := V) (pb := pb) (pc := pc) (pd := pd) (pe := pe) (pg := pg) (ph := ph) (pp := pp) (pq := pq) (pt := pt) (pu := pu) (pf := qf) (pm := qm) (x := (xs (4 * t + 1))) (v := (xs (4 * t + 2))) (hpf := g1) (hpf6 := g2) (hpm := g3) (hpm6 := g4) (ho0 := rfl) (ho1 := rfl) (ho2 := rfl) (hres := rfl)) (xF_model 0 (by decide)).1 (show xsh (xkey 12 0 0) = (7, 18) from by decide +kernel) (by decide) rfl xw_155 xw_156 xw_157 xw_5 xw_158 hdV_yX7_set ⟨(Nat.le_of_ble_eq_true rfl), (Nat.le_of_ble_eq_true rfl)⟩ rfl (Nat.le_of_ble_eq_true rfl) ⟨(Nat.le_of_ble_eq_true rfl), (Nat.le_of_ble_eq_true rfl)⟩ dL_law_173 (fun H locs hW => ?_)
  refine lv_icmp_eq (tgt := 803) hx hb dL_law_176 (by decide) (fun _ => ?_) (fun c => absurd hE c)
  exact kk _ _ (LawSt.mk (XG.out12 hW) (hI'.le (by omega)))
set_option maxHeartbeats 4000000 in
set_option maxRecDepth 100000 in
theorem L_lamp (C : lw_C p s m c b L xs X) (ht : 4 * t + 4 ≤ L) (h : LawSt X t H locs) (hl : lv_has ls 4 (lawL X b t))
    (kk : ∀ (H : Heap) (locs : List Loc), LawSt X (t + 1) H locs → W p l e room_1 s m #[Value.ref b] below meth c H locs 603 9687 Q (F0 m 803 ls [])) : W p l e room_1 s m #[Value.ref b] below meth c H locs 603 9687 Q (F0 m 181 ls []) := by
  obtain ⟨hx, hb, hml, hown, hts, hK, hX, hbl, hL⟩ := id C
  obtain ⟨S, sv, hs, pf, sn, nb, f, sg, M, U, V, pb, pc, pd, pe, pg, ph, pp, pq, pt, pu, hW, hI⟩ := h
  obtain ⟨qd, qf, qm, ⟨-, -, h2m⟩, ⟨g1, g2, g3, g4⟩, -⟩ := id hI.2.2.2.1
  obtain ⟨pn, p8, p2, p10, -⟩ := id hI.2.1.2.2
  have hS0 := hI.1 0 (by omega)
  have hz := hI.2.2.1.1
  have hn4 := ZS.n4 hS0 hz
  have hN16 : cN (S 0) ≤ 16 := hS0.hn16
  have hH8 : cH (S 0) ≤ 8 := hS0.hh8
  have hW8 : cW (S 0) ≤ 8 := hS0.hw8
  have hY := hz.mw
  have hn10 : f 10 = nI (f 10).toNatClampNeg := by rw [p10, nI_clamp (by omega)]
  have hn10b : (f 10).toNatClampNeg ≤ 80 := by rw [p10, nI_clamp (by omega)]; exact p8
  have hB : 16000 * t < 2 ^ 30 := by omega
  have hE := I_lamp (x := (xs (4 * t + 1))) (y := (xs (4 * t + 2))) hI g1 g2 g3 g4
  obtain ⟨hE, hI'⟩ := hE
  refine lv_aload_n hx hb dL_law_181 rfl (lv_at hl 1 rfl) ?_
  refine L_arg C ht hW hl (k := 1) (by omega) (by decide) dL_law_182 dL_law_183 dL_law_184 dL_law_185 dL_law_186 ?_
  refine L_arg C ht hW hl (k := 2) (by omega) (by decide) dL_law_187 dL_law_188 dL_law_189 dL_law_190 dL_law_191 ?_
  refine x_callV hx hb hml hown hts hK.1 hW hl.1 (c_X6_lamp l X (S := S) (sv := sv) (hs := hs) (pf := pf) (sn := sn) (nb := nb) (ρ := xMa f sg M U V pb pc pd pe pg ph pp pq pt pu) (x := (xs (4 * t + 1))) (y := (xs (4 * t + 2))) (hS := hI.1) (hH := hI.2.2.2.1.ok) (ho0 := rfl) (ho1 := rfl) (hres := rfl)) xF_mi5.1 xF_mi5.2 (by decide) rfl xw_171 xw_172 xw_173 xw_2 xw_174 hdV_yX6_lamp ⟨(Nat.le_of_ble_eq_true rfl), (Nat.le_of_ble_eq_true rfl)⟩ rfl (Nat.le_of_ble_eq_true rfl) ⟨(Nat.le_of_ble_eq_true rfl), (Nat.le_of_ble_eq_true rfl)⟩ dL_law_192 (fun H locs hW => ?_)
  refine lv_aload_n hx hb dL_law_195 rfl (lv_at hl 2 rfl) ?_
  refine L_arg C ht hW hl (k := 1) (by omega) (by decide) dL_law_196 dL_law_197 dL_law_198 dL_law_199 dL_law_200 ?_
  refine L_arg C ht hW hl (k := 2) (by omega) (by decide) dL_law_201 dL_law_202 dL_law_203 dL_law_204 dL_law_205 ?_
  have hW := XG.in12 hW
  refine x_callV hx hb hml hown hts hK.1 hW hl.1 (c_X7_lamp l X _ (f := f) (sg := sg) (L := M) (O := U) (Y := V) (pb := pb) (pc := pc) (pd := pd) (pe := pe) (pg := pg) (ph := ph) (pp := pp) (pq := pq) (pt := pt) (pu := pu) (n := cN (S 0)) (pf := qf) (pm := qm) (x := (xs (4 * t + 1))) (y := (xs (4 * t + 2))) (hn := hn4.1) (hn16 := hN16) (hpf := g1) (hpf6 := g2) (hpm := g3) (hpm6 := g4) (ho0 := rfl) (ho1 := rfl) (ho2 := rfl) (ho3 := rfl) (hres := rfl)) (xF_model 0 (by decide)).1 (show xsh (xkey 12 0 0) = (7, 18) from by decide +kernel) (by decide) rfl xw_187 xw_188 xw_189 xw_5 xw_190 hdV_yX7_lamp ⟨(Nat.le_of_ble_eq_true rfl), (Nat.le_of_ble_eq_true rfl)⟩ rfl (Nat.le_of_ble_eq_true rfl) ⟨(Nat.le_of_ble_eq_true rfl), (Nat.le_of_ble_eq_true rfl)⟩ dL_law_206 (fun H locs hW => ?_)
  refine lv_icmp_eq (tgt := 803) hx hb dL_law_209 (by decide) (fun _ => ?_) (fun c => absurd hE c)
  exact kk _ _ (LawSt.mk (XG.out12 hW) (hI'.le (by omega)))
set_option maxHeartbeats 4000000 in
set_option maxRecDepth 100000 in
theorem L_house (C : lw_C p s m c b L xs X) (ht : 4 * t + 4 ≤ L) (h : LawSt X t H locs) (hl : lv_has ls 4 (lawL X b t))
    (kk : ∀ (H : Heap) (locs : List Loc), LawSt X (t + 1) H locs → W p l e room_1 s m #[Value.ref b] below meth c H locs 603 9687 Q (F0 m 803 ls [])) : W p l e room_1 s m #[Value.ref b] below meth c H locs 603 9687 Q (F0 m 214 ls []) := by
  obtain ⟨hx, hb, hml, hown, hts, hK, hX, hbl, hL⟩ := id C
  obtain ⟨S, sv, hs, pf, sn, nb, f, sg, M, U, V, pb, pc, pd, pe, pg, ph, pp, pq, pt, pu, hW, hI⟩ := h
  obtain ⟨qd, qf, qm, ⟨-, -, h2m⟩, ⟨g1, g2, g3, g4⟩, -⟩ := id hI.2.2.2.1
  obtain ⟨pn, p8, p2, p10, -⟩ := id hI.2.1.2.2
  have hS0 := hI.1 0 (by omega)
  have hz := hI.2.2.1.1
  have hn4 := ZS.n4 hS0 hz
  have hN16 : cN (S 0) ≤ 16 := hS0.hn16
  have hH8 : cH (S 0) ≤ 8 := hS0.hh8
  have hW8 : cW (S 0) ≤ 8 := hS0.hw8
  have hY := hz.mw
  have hn10 : f 10 = nI (f 10).toNatClampNeg := by rw [p10, nI_clamp (by omega)]
  have hn10b : (f 10).toNatClampNeg ≤ 80 := by rw [p10, nI_clamp (by omega)]; exact p8
  have hB : 16000 * t < 2 ^ 30 := by omega
  have hE := I_house (x := (xs (4 * t + 1))) hI g1 g2 g3 g4
  obtain ⟨hE, hI'⟩ := hE
  refine lv_aload_n hx hb dL_law_214 rfl (lv_at hl 1 rfl) ?_
  refine L_arg C ht hW hl (k := 1) (by omega) (by decide) dL_law_215 dL_law_216 dL_law_217 dL_law_218 dL_law_219 ?_
  refine x_callV hx hb hml hown hts hK.1 hW hl.1 (c_X6_house l X (S := S) (sv := sv) (hs := hs) (pf := pf) (sn := sn) (nb := nb) (ρ := xMa f sg M U V pb pc pd pe pg ph pp pq pt pu) (x := (xs (4 * t + 1))) (hS := hI.1) (hH := hI.2.2.2.1.ok) (ho0 := rfl) (ho1 := rfl) (hres := rfl)) xF_mi5.1 xF_mi5.2 (by decide) rfl xw_206 xw_207 xw_208 xw_2 xw_209 hdV_yX6_house ⟨(Nat.le_of_ble_eq_true rfl), (Nat.le_of_ble_eq_true rfl)⟩ rfl (Nat.le_of_ble_eq_true rfl) ⟨(Nat.le_of_ble_eq_true rfl), (Nat.le_of_ble_eq_true rfl)⟩ dL_law_220 (fun H locs hW => ?_)
  refine lv_aload_n hx hb dL_law_223 rfl (lv_at hl 2 rfl) ?_
  refine L_arg C ht hW hl (k := 1) (by omega) (by decide) dL_law_224 dL_law_225 dL_law_226 dL_law_227 dL_law_228 ?_
  have hW := XG.in12 hW
  refine x_callV hx hb hml hown hts hK.1 hW hl.1 (c_X7_house l X _ (f := f) (sg := sg) (L := M) (O := U) (Y := V) (pb := pb) (pc := pc) (pd := pd) (pe := pe) (pg := pg) (ph := ph) (pp := pp) (pq := pq) (pt := pt) (pu := pu) (nh := cH (S 0)) (pf := qf) (pm := qm) (x := (xs (4 * t + 1))) (hh := hn4.2.1) (hh8 := hH8) (hpf := g1) (hpf6 := g2) (hpm := g3) (hpm6 := g4) (ho0 := rfl) (ho1 := rfl) (ho2 := rfl) (ho3 := rfl) (hres := rfl)) (xF_model 0 (by decide)).1 (show xsh (xkey 12 0 0) = (7, 18) from by decide +kernel) (by decide) rfl xw_218 xw_219 xw_220 xw_5 xw_221 hdV_yX7_house ⟨(Nat.le_of_ble_eq_true rfl), (Nat.le_of_ble_eq_true rfl)⟩ rfl (Nat.le_of_ble_eq_true rfl) ⟨(Nat.le_of_ble_eq_true rfl), (Nat.le_of_ble_eq_true rfl)⟩ dL_law_229 (fun H locs hW => ?_)
  refine lv_icmp_eq (tgt := 803) hx hb dL_law_232 (by decide) (fun _ => ?_) (fun c => absurd hE c)
  exact kk _ _ (LawSt.mk (XG.out12 hW) (hI'.le (by omega)))
set_option maxHeartbeats 4000000 in
set_option maxRecDepth 100000 in
theorem L_walker (C : lw_C p s m c b L xs X) (ht : 4 * t + 4 ≤ L) (h : LawSt X t H locs) (hl : lv_has ls 4 (lawL X b t))
    (kk : ∀ (H : Heap) (locs : List Loc), LawSt X (t + 1) H locs → W p l e room_1 s m #[Value.ref b] below meth c H locs 603 9687 Q (F0 m 803 ls [])) : W p l e room_1 s m #[Value.ref b] below meth c H locs 603 9687 Q (F0 m 237 ls []) := by
  obtain ⟨hx, hb, hml, hown, hts, hK, hX, hbl, hL⟩ := id C
  obtain ⟨S, sv, hs, pf, sn, nb, f, sg, M, U, V, pb, pc, pd, pe, pg, ph, pp, pq, pt, pu, hW, hI⟩ := h
  obtain ⟨qd, qf, qm, ⟨-, -, h2m⟩, ⟨g1, g2, g3, g4⟩, -⟩ := id hI.2.2.2.1
  obtain ⟨pn, p8, p2, p10, -⟩ := id hI.2.1.2.2
  have hS0 := hI.1 0 (by omega)
  have hz := hI.2.2.1.1
  have hn4 := ZS.n4 hS0 hz
  have hN16 : cN (S 0) ≤ 16 := hS0.hn16
  have hH8 : cH (S 0) ≤ 8 := hS0.hh8
  have hW8 : cW (S 0) ≤ 8 := hS0.hw8
  have hY := hz.mw
  have hn10 : f 10 = nI (f 10).toNatClampNeg := by rw [p10, nI_clamp (by omega)]
  have hn10b : (f 10).toNatClampNeg ≤ 80 := by rw [p10, nI_clamp (by omega)]; exact p8
  have hB : 16000 * t < 2 ^ 30 := by omega
  have hE := I_walker (x := (xs (4 * t + 1))) (y := (xs (4 * t + 2))) hI g1 g2 g3 g4
  obtain ⟨hE, hI'⟩ := hE
  refine lv_aload_n hx hb dL_law_237 rfl (lv_at hl 1 rfl) ?_
  refine L_arg C ht hW hl (k := 1) (by omega) (by decide) dL_law_238 dL_law_239 dL_law_240 dL_law_241 dL_law_242 ?_
  refine L_arg C ht hW hl (k := 2) (by omega) (by decide) dL_law_243 dL_law_244 dL_law_245 dL_law_246 dL_law_247 ?_
  refine x_callV hx hb hml hown hts hK.1 hW hl.1 (c_X6_walker l X (S := S) (sv := sv) (hs := hs) (pf := pf) (sn := sn) (nb := nb) (ρ := xMa f sg M U V pb pc pd pe pg ph pp pq pt pu) (x := (xs (4 * t + 1))) (y := (xs (4 * t + 2))) (hS := hI.1) (hH := hI.2.2.2.1.ok) (ho0 := rfl) (ho1 := rfl) (hres := rfl)) xF_mi5.1 xF_mi5.2 (by decide) rfl xw_222 xw_223 xw_224 xw_2 xw_225 hdV_yX6_walker ⟨(Nat.le_of_ble_eq_true rfl), (Nat.le_of_ble_eq_true rfl)⟩ rfl (Nat.le_of_ble_eq_true rfl) ⟨(Nat.le_of_ble_eq_true rfl), (Nat.le_of_ble_eq_true rfl)⟩ dL_law_248 (fun H locs hW => ?_)
  refine lv_aload_n hx hb dL_law_251 rfl (lv_at hl 2 rfl) ?_
  refine L_arg C ht hW hl (k := 1) (by omega) (by decide) dL_law_252 dL_law_253 dL_law_254 dL_law_255 dL_law_256 ?_
  refine L_arg C ht hW hl (k := 2) (by omega) (by decide) dL_law_257 dL_law_258 dL_law_259 dL_law_260 dL_law_261 ?_
  have hW := XG.in12 hW
  refine x_callV hx hb hml hown hts hK.1 hW hl.1 (c_X7_walker l X _ (f := f) (sg := sg) (L := M) (O := U) (Y := V) (pb := pb) (pc := pc) (pd := pd) (pe := pe) (pg := pg) (ph := ph) (pp := pp) (pq := pq) (pt := pt) (pu := pu) (nw := cW (S 0)) (pf := qf) (pm := qm) (x := (xs (4 * t + 1))) (y := (xs (4 * t + 2))) (hw := hn4.2.2) (hw8 := hW8) (hpf := g1) (hpf6 := g2) (hpm := g3) (hpm6 := g4) (ho0 := rfl) (ho1 := rfl) (ho2 := rfl) (ho3 := rfl) (hres := rfl)) (xF_model 0 (by decide)).1 (show xsh (xkey 12 0 0) = (7, 18) from by decide +kernel) (by decide) rfl xw_234 xw_235 xw_236 xw_5 xw_237 hdV_yX7_walker ⟨(Nat.le_of_ble_eq_true rfl), (Nat.le_of_ble_eq_true rfl)⟩ rfl (Nat.le_of_ble_eq_true rfl) ⟨(Nat.le_of_ble_eq_true rfl), (Nat.le_of_ble_eq_true rfl)⟩ dL_law_262 (fun H locs hW => ?_)
  refine lv_icmp_eq (tgt := 803) hx hb dL_law_265 (by decide) (fun _ => ?_) (fun c => absurd hE c)
  exact kk _ _ (LawSt.mk (XG.out12 hW) (hI'.le (by omega)))
set_option maxHeartbeats 4000000 in
set_option maxRecDepth 100000 in
theorem L_goal (C : lw_C p s m c b L xs X) (ht : 4 * t + 4 ≤ L) (h : LawSt X t H locs) (hl : lv_has ls 4 (lawL X b t))
    (kk : ∀ (H : Heap) (locs : List Loc), LawSt X (t + 1) H locs → W p l e room_1 s m #[Value.ref b] below meth c H locs 603 9687 Q (F0 m 803 ls [])) : W p l e room_1 s m #[Value.ref b] below meth c H locs 603 9687 Q (F0 m 270 ls []) := by
  obtain ⟨hx, hb, hml, hown, hts, hK, hX, hbl, hL⟩ := id C
  obtain ⟨S, sv, hs, pf, sn, nb, f, sg, M, U, V, pb, pc, pd, pe, pg, ph, pp, pq, pt, pu, hW, hI⟩ := h
  obtain ⟨qd, qf, qm, ⟨-, -, h2m⟩, ⟨g1, g2, g3, g4⟩, -⟩ := id hI.2.2.2.1
  obtain ⟨pn, p8, p2, p10, -⟩ := id hI.2.1.2.2
  have hS0 := hI.1 0 (by omega)
  have hz := hI.2.2.1.1
  have hn4 := ZS.n4 hS0 hz
  have hN16 : cN (S 0) ≤ 16 := hS0.hn16
  have hH8 : cH (S 0) ≤ 8 := hS0.hh8
  have hW8 : cW (S 0) ≤ 8 := hS0.hw8
  have hY := hz.mw
  have hn10 : f 10 = nI (f 10).toNatClampNeg := by rw [p10, nI_clamp (by omega)]
  have hn10b : (f 10).toNatClampNeg ≤ 80 := by rw [p10, nI_clamp (by omega)]; exact p8
  have hB : 16000 * t < 2 ^ 30 := by omega
  have hE := I_goal (x := (xs (4 * t + 1))) (a := (xs (4 * t + 2))) (b := (xs (4 * t + 3))) hI g1 g2 g3 g4
  obtain ⟨hE, hI'⟩ := hE
  refine lv_aload_n hx hb dL_law_270 rfl (lv_at hl 1 rfl) ?_
  refine L_arg C ht hW hl (k := 1) (by omega) (by decide) dL_law_271 dL_law_272 dL_law_273 dL_law_274 dL_law_275 ?_
  refine L_arg C ht hW hl (k := 2) (by omega) (by decide) dL_law_276 dL_law_277 dL_law_278 dL_law_279 dL_law_280 ?_
  refine L_arg C ht hW hl (k := 3) (by omega) (by decide) dL_law_281 dL_law_282 dL_law_283 dL_law_284 dL_law_285 ?_
  refine x_callV hx hb hml hown hts hK.1 hW hl.1 (c_X6_goal l X (S := S) (sv := sv) (hs := hs) (pf := pf) (sn := sn) (nb := nb) (ρ := xMa f sg M U V pb pc pd pe pg ph pp pq pt pu) (x := (xs (4 * t + 1))) (a := (xs (4 * t + 2))) (b := (xs (4 * t + 3))) (hS := hI.1) (hH := hI.2.2.2.1.ok) (ho0 := rfl) (ho1 := rfl) (hres := rfl)) xF_mi5.1 xF_mi5.2 (by decide) rfl xw_250 xw_251 xw_252 xw_2 xw_253 hdV_yX6_goal ⟨(Nat.le_of_ble_eq_true rfl), (Nat.le_of_ble_eq_true rfl)⟩ rfl (Nat.le_of_ble_eq_true rfl) ⟨(Nat.le_of_ble_eq_true rfl), (Nat.le_of_ble_eq_true rfl)⟩ dL_law_286 (fun H locs hW => ?_)
  refine lv_aload_n hx hb dL_law_289 rfl (lv_at hl 2 rfl) ?_
  refine L_arg C ht hW hl (k := 1) (by omega) (by decide) dL_law_290 dL_law_291 dL_law_292 dL_law_293 dL_law_294 ?_
  refine L_arg C ht hW hl (k := 2) (by omega) (by decide) dL_law_295 dL_law_296 dL_law_297 dL_law_298 dL_law_299 ?_
  refine L_arg C ht hW hl (k := 3) (by omega) (by decide) dL_law_300 dL_law_301 dL_law_302 dL_law_303 dL_law_304 ?_
  have hW := XG.in12 hW
  refine x_callV hx hb hml hown hts hK.1 hW hl.1 (c_X7_goal l X _ (f := f) (sg := sg) (L := M) (O := U) (Y := V) (pb := pb) (pc := pc) (pd := pd) (pe := pe) (pg := pg) (ph := ph) (pp := pp) (pq := pq) (pt := pt) (pu := pu) (nw := cW (S 0)) (pf := qf) (pm := qm) (x := (xs (4 * t + 1))) (a := (xs (4 * t + 2))) (b := (xs (4 * t + 3))) (hw := hn4.2.2) (hw8 := hW8) (hY := hY) (hpf := g1) (hpf6 := g2) (hpm := g3) (hpm6 := g4) (ho0 := rfl) (ho1 := rfl) (ho2 := rfl) (hres := rfl)) (xF_model 0 (by decide)).1 (show xsh (xkey 12 0 0) = (7, 18) from by decide +kernel) (by decide) rfl xw_266 xw_267 xw_268 xw_5 xw_269 hdV_yX7_goal ⟨(Nat.le_of_ble_eq_true rfl), (Nat.le_of_ble_eq_true rfl)⟩ rfl (Nat.le_of_ble_eq_true rfl) ⟨(Nat.le_of_ble_eq_true rfl), (Nat.le_of_ble_eq_true rfl)⟩ dL_law_305 (fun H locs hW => ?_)
  refine lv_icmp_eq (tgt := 803) hx hb dL_law_308 (by decide) (fun _ => ?_) (fun c => absurd hE c)
  exact kk _ _ (LawSt.mk (XG.out12 hW) (hI'.le (by omega)))
set_option maxHeartbeats 4000000 in
set_option maxRecDepth 100000 in
theorem L_mend (C : lw_C p s m c b L xs X) (ht : 4 * t + 4 ≤ L) (h : LawSt X t H locs) (hl : lv_has ls 4 (lawL X b t))
    (kk : ∀ (H : Heap) (locs : List Loc), LawSt X (t + 1) H locs → W p l e room_1 s m #[Value.ref b] below meth c H locs 603 9687 Q (F0 m 803 ls [])) : W p l e room_1 s m #[Value.ref b] below meth c H locs 603 9687 Q (F0 m 313 ls []) := by
  obtain ⟨hx, hb, hml, hown, hts, hK, hX, hbl, hL⟩ := id C
  obtain ⟨S, sv, hs, pf, sn, nb, f, sg, M, U, V, pb, pc, pd, pe, pg, ph, pp, pq, pt, pu, hW, hI⟩ := h
  obtain ⟨qd, qf, qm, ⟨-, -, h2m⟩, ⟨g1, g2, g3, g4⟩, -⟩ := id hI.2.2.2.1
  obtain ⟨pn, p8, p2, p10, -⟩ := id hI.2.1.2.2
  have hS0 := hI.1 0 (by omega)
  have hz := hI.2.2.1.1
  have hn4 := ZS.n4 hS0 hz
  have hN16 : cN (S 0) ≤ 16 := hS0.hn16
  have hH8 : cH (S 0) ≤ 8 := hS0.hh8
  have hW8 : cW (S 0) ≤ 8 := hS0.hw8
  have hY := hz.mw
  have hn10 : f 10 = nI (f 10).toNatClampNeg := by rw [p10, nI_clamp (by omega)]
  have hn10b : (f 10).toNatClampNeg ≤ 80 := by rw [p10, nI_clamp (by omega)]; exact p8
  have hB : 16000 * t < 2 ^ 30 := by omega
  have hE := I_mend (x := (xs (4 * t + 1))) (k := (xs (4 * t + 2))) hI g1 g2 g3 g4
  obtain ⟨hE, hI'⟩ := hE
  refine lv_aload_n hx hb dL_law_313 rfl (lv_at hl 1 rfl) ?_
  refine L_arg C ht hW hl (k := 1) (by omega) (by decide) dL_law_314 dL_law_315 dL_law_316 dL_law_317 dL_law_318 ?_
  refine L_arg C ht hW hl (k := 2) (by omega) (by decide) dL_law_319 dL_law_320 dL_law_321 dL_law_322 dL_law_323 ?_
  refine x_callV hx hb hml hown hts hK.1 hW hl.1 (c_X6_mend l X (S := S) (sv := sv) (hs := hs) (pf := pf) (sn := sn) (nb := nb) (ρ := xMa f sg M U V pb pc pd pe pg ph pp pq pt pu) (x := (xs (4 * t + 1))) (h := (xs (4 * t + 2))) (hS := hI.1) (hH := hI.2.2.2.1.ok) (ho0 := rfl) (ho1 := rfl) (hres := rfl)) xF_mi5.1 xF_mi5.2 (by decide) rfl xw_286 xw_287 xw_288 xw_2 xw_289 hdV_yX6_mend ⟨(Nat.le_of_ble_eq_true rfl), (Nat.le_of_ble_eq_true rfl)⟩ rfl (Nat.le_of_ble_eq_true rfl) ⟨(Nat.le_of_ble_eq_true rfl), (Nat.le_of_ble_eq_true rfl)⟩ dL_law_324 (fun H locs hW => ?_)
  refine lv_aload_n hx hb dL_law_327 rfl (lv_at hl 2 rfl) ?_
  refine L_arg C ht hW hl (k := 1) (by omega) (by decide) dL_law_328 dL_law_329 dL_law_330 dL_law_331 dL_law_332 ?_
  refine L_arg C ht hW hl (k := 2) (by omega) (by decide) dL_law_333 dL_law_334 dL_law_335 dL_law_336 dL_law_337 ?_
  have hW := XG.in12 hW
  refine x_callV hx hb hml hown hts hK.1 hW hl.1 (c_X7_mend l X _ (f := f) (sg := sg) (L := M) (O := U) (Y := V) (pb := pb) (pc := pc) (pd := pd) (pe := pe) (pg := pg) (ph := ph) (pp := pp) (pq := pq) (pt := pt) (pu := pu) (n := cN (S 0)) (pf := qf) (pm := qm) (x := (xs (4 * t + 1))) (h := (xs (4 * t + 2))) (hn := hn4.1) (hn16 := hN16) (hpf := g1) (hpf6 := g2) (hpm := g3) (hpm6 := g4) (ho0 := rfl) (ho1 := rfl) (ho2 := rfl) (hres := rfl)) (xF_model 0 (by decide)).1 (show xsh (xkey 12 0 0) = (7, 18) from by decide +kernel) (by decide) rfl xw_303 xw_304 xw_305 xw_5 xw_306 hdV_yX7_mend ⟨(Nat.le_of_ble_eq_true rfl), (Nat.le_of_ble_eq_true rfl)⟩ rfl (Nat.le_of_ble_eq_true rfl) ⟨(Nat.le_of_ble_eq_true rfl), (Nat.le_of_ble_eq_true rfl)⟩ dL_law_338 (fun H locs hW => ?_)
  refine lv_icmp_eq (tgt := 803) hx hb dL_law_341 (by decide) (fun _ => ?_) (fun c => absurd hE c)
  exact kk _ _ (LawSt.mk (XG.out12 hW) (hI'.le (by omega)))
set_option maxHeartbeats 4000000 in
set_option maxRecDepth 100000 in
theorem L_cough (C : lw_C p s m c b L xs X) (ht : 4 * t + 4 ≤ L) (h : LawSt X t H locs) (hl : lv_has ls 4 (lawL X b t))
    (kk : ∀ (H : Heap) (locs : List Loc), LawSt X (t + 1) H locs → W p l e room_1 s m #[Value.ref b] below meth c H locs 603 9687 Q (F0 m 803 ls [])) : W p l e room_1 s m #[Value.ref b] below meth c H locs 603 9687 Q (F0 m 346 ls []) := by
  obtain ⟨hx, hb, hml, hown, hts, hK, hX, hbl, hL⟩ := id C
  obtain ⟨S, sv, hs, pf, sn, nb, f, sg, M, U, V, pb, pc, pd, pe, pg, ph, pp, pq, pt, pu, hW, hI⟩ := h
  obtain ⟨qd, qf, qm, ⟨-, -, h2m⟩, ⟨g1, g2, g3, g4⟩, -⟩ := id hI.2.2.2.1
  obtain ⟨pn, p8, p2, p10, -⟩ := id hI.2.1.2.2
  have hS0 := hI.1 0 (by omega)
  have hz := hI.2.2.1.1
  have hn4 := ZS.n4 hS0 hz
  have hN16 : cN (S 0) ≤ 16 := hS0.hn16
  have hH8 : cH (S 0) ≤ 8 := hS0.hh8
  have hW8 : cW (S 0) ≤ 8 := hS0.hw8
  have hY := hz.mw
  have hn10 : f 10 = nI (f 10).toNatClampNeg := by rw [p10, nI_clamp (by omega)]
  have hn10b : (f 10).toNatClampNeg ≤ 80 := by rw [p10, nI_clamp (by omega)]; exact p8
  have hB : 16000 * t < 2 ^ 30 := by omega
  have hE := I_cough (x := (xs (4 * t + 1))) hI g1 g2 g3 g4
  obtain ⟨hE, hI'⟩ := hE
  refine lv_aload_n hx hb dL_law_346 rfl (lv_at hl 1 rfl) ?_
  refine L_arg C ht hW hl (k := 1) (by omega) (by decide) dL_law_347 dL_law_348 dL_law_349 dL_law_350 dL_law_351 ?_
  refine x_callV hx hb hml hown hts hK.1 hW hl.1 (c_X6_cough l X (S := S) (sv := sv) (hs := hs) (pf := pf) (sn := sn) (nb := nb) (ρ := xMa f sg M U V pb pc pd pe pg ph pp pq pt pu) (x := (xs (4 * t + 1))) (hS := hI.1) (hH := hI.2.2.2.1.ok) (ho0 := rfl) (ho1 := rfl) (hres := rfl)) xF_mi5.1 xF_mi5.2 (by decide) rfl xw_323 xw_324 xw_325 xw_2 xw_326 hdV_yX6_cough ⟨(Nat.le_of_ble_eq_true rfl), (Nat.le_of_ble_eq_true rfl)⟩ rfl (Nat.le_of_ble_eq_true rfl) ⟨(Nat.le_of_ble_eq_true rfl), (Nat.le_of_ble_eq_true rfl)⟩ dL_law_352 (fun H locs hW => ?_)
  refine lv_aload_n hx hb dL_law_355 rfl (lv_at hl 2 rfl) ?_
  refine L_arg C ht hW hl (k := 1) (by omega) (by decide) dL_law_356 dL_law_357 dL_law_358 dL_law_359 dL_law_360 ?_
  have hW := XG.in12 hW
  refine x_callV hx hb hml hown hts hK.1 hW hl.1 (c_X7_cough l X _ (f := f) (sg := sg) (L := M) (O := U) (Y := V) (pb := pb) (pc := pc) (pd := pd) (pe := pe) (pg := pg) (ph := ph) (pp := pp) (pq := pq) (pt := pt) (pu := pu) (n := cN (S 0)) (pf := qf) (pm := qm) (x := (xs (4 * t + 1))) (hn := hn4.1) (hn16 := hN16) (hpf := g1) (hpf6 := g2) (hpm := g3) (hpm6 := g4) (ho0 := rfl) (ho1 := rfl) (ho2 := rfl) (hres := rfl)) (xF_model 0 (by decide)).1 (show xsh (xkey 12 0 0) = (7, 18) from by decide +kernel) (by decide) rfl xw_365 xw_366 xw_367 xw_5 xw_368 hdV_yX7_cough ⟨(Nat.le_of_ble_eq_true rfl), (Nat.le_of_ble_eq_true rfl)⟩ rfl (Nat.le_of_ble_eq_true rfl) ⟨(Nat.le_of_ble_eq_true rfl), (Nat.le_of_ble_eq_true rfl)⟩ dL_law_361 (fun H locs hW => ?_)
  refine lv_icmp_eq (tgt := 803) hx hb dL_law_364 (by decide) (fun _ => ?_) (fun c => absurd hE c)
  exact kk _ _ (LawSt.mk (XG.out12 hW) (hI'.le (by omega)))
set_option maxHeartbeats 4000000 in
set_option maxRecDepth 100000 in
theorem L_ticks (C : lw_C p s m c b L xs X) (ht : 4 * t + 4 ≤ L) (h : LawSt X t H locs) (hl : lv_has ls 4 (lawL X b t))
    (kk : ∀ (H : Heap) (locs : List Loc), LawSt X (t + 1) H locs → W p l e room_1 s m #[Value.ref b] below meth c H locs 603 9687 Q (F0 m 803 ls [])) : W p l e room_1 s m #[Value.ref b] below meth c H locs 603 9687 Q (F0 m 369 ls []) := by
  obtain ⟨hx, hb, hml, hown, hts, hK, hX, hbl, hL⟩ := id C
  obtain ⟨S, sv, hs, pf, sn, nb, f, sg, M, U, V, pb, pc, pd, pe, pg, ph, pp, pq, pt, pu, hW, hI⟩ := h
  obtain ⟨qd, qf, qm, ⟨-, -, h2m⟩, ⟨g1, g2, g3, g4⟩, -⟩ := id hI.2.2.2.1
  obtain ⟨pn, p8, p2, p10, -⟩ := id hI.2.1.2.2
  have hS0 := hI.1 0 (by omega)
  have hz := hI.2.2.1.1
  have hn4 := ZS.n4 hS0 hz
  have hN16 : cN (S 0) ≤ 16 := hS0.hn16
  have hH8 : cH (S 0) ≤ 8 := hS0.hh8
  have hW8 : cW (S 0) ≤ 8 := hS0.hw8
  have hY := hz.mw
  have hn10 : f 10 = nI (f 10).toNatClampNeg := by rw [p10, nI_clamp (by omega)]
  have hn10b : (f 10).toNatClampNeg ≤ 80 := by rw [p10, nI_clamp (by omega)]; exact p8
  have hB : 16000 * t < 2 ^ 30 := by omega
  have hE := I_ticks (x := (xs (4 * t + 1))) (g := pg) (q := ph) hB hI g1 g2 g3 g4
  obtain ⟨hE, hI'⟩ := hE
  refine lv_aload_n hx hb dL_law_369 rfl (lv_at hl 1 rfl) ?_
  refine L_arg C ht hW hl (k := 1) (by omega) (by decide) dL_law_370 dL_law_371 dL_law_372 dL_law_373 dL_law_374 ?_
  refine x_callV hx hb hml hown hts hK.1 hW hl.1 (c_X6_ticks l X (S := S) (sv := sv) (hs := hs) (pf := pf) (sn := sn) (nb := nb) (ρ := xMa f sg M U V pb pc pd pe pg ph pp pq pt pu) (x := (xs (4 * t + 1))) (hS := hI.1) (hH := hI.2.2.2.1.ok) (ho0 := rfl) (ho1 := rfl) (hres := rfl)) xF_mi5.1 xF_mi5.2 (by decide) rfl xw_392 xw_393 xw_394 xw_2 xw_395 hdV_yX6_ticks ⟨(Nat.le_of_ble_eq_true rfl), (Nat.le_of_ble_eq_true rfl)⟩ rfl (Nat.le_of_ble_eq_true rfl) ⟨(Nat.le_of_ble_eq_true rfl), (Nat.le_of_ble_eq_true rfl)⟩ dL_law_375 (fun H locs hW => ?_)
  refine lv_aload_n hx hb dL_law_378 rfl (lv_at hl 2 rfl) ?_
  refine L_arg C ht hW hl (k := 1) (by omega) (by decide) dL_law_379 dL_law_380 dL_law_381 dL_law_382 dL_law_383 ?_
  have hW := XG.in12 hW
  refine x_callV hx hb hml hown hts hK.1 hW hl.1 (c_X7_ticks l X _ (f := f) (sg := sg) (L := M) (O := U) (Y := V) (pb := pb) (pc := pc) (pd := pd) (pe := pe) (pg := pg) (ph := ph) (pp := pp) (pq := pq) (pt := pt) (pu := pu) (n := cN (S 0)) (nh := cH (S 0)) (nw := cW (S 0)) (pf := qf) (pm := qm) (x := (xs (4 * t + 1))) (hn := hn4.1) (hn16 := hN16) (hh := hn4.2.1) (hh8 := hH8) (hw := hn4.2.2) (hw8 := hW8) (hY := hY) (hpf := g1) (hpf6 := g2) (hpm := g3) (hpm6 := g4) (ho0 := rfl) (ho1 := rfl) (ho2 := rfl) (ho3 := rfl) (ho4 := rfl) (ho5 := rfl) (ho6 := rfl) (ho7 := rfl) (hres := rfl)) (xF_model 0 (by decide)).1 (show xsh (xkey 12 0 0) = (7, 18) from by decide +kernel) (by decide) rfl xw_490 xw_491 xw_492 xw_5 xw_493 hdV_yX7_ticks ⟨(Nat.le_of_ble_eq_true rfl), (Nat.le_of_ble_eq_true rfl)⟩ rfl (Nat.le_of_ble_eq_true rfl) ⟨(Nat.le_of_ble_eq_true rfl), (Nat.le_of_ble_eq_true rfl)⟩ dL_law_384 (fun H locs hW => ?_)
  refine lv_icmp_eq (tgt := 803) hx hb dL_law_387 (by decide) (fun _ => ?_) (fun c => absurd hE c)
  exact kk _ _ (LawSt.mk (XG.out12 hW) (hI'.le (by omega)))
end LAWC
