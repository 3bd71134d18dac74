def lw_lv (b a1 a2 : Nat) (i : Int32) : List (Nat × Value) := [(0, .ref b), (1, .ref a1), (2, .ref a2), (3, .int i)]
section LAW
variable {p : Program} {e : Env} {s : State} {m : MethodId} {below : List Frame} {meth : Method} {c : Code} {l : Launch} {b L : Nat} {xs : Nat → Int32} {D : va_G} {a0 : Nat} {ag : Nat → Int64} {H : Heap} {locs : List Loc} {la : Array Slot} {cells slots : Nat} {Q : State → Prop}
/-- the script's j-th int, at i = 0 -/
theorem lw_arg {pc j a1 a2 : Nat} {x : Int32} {st : List Value} (C0 : lw_At p s m meth c b L xs) (hS : va_S (fun q : Nat => s.heap.size ≤ q) s.heap H locs) (hl : lv_has la 4 (lw_lv b a1 a2 0)) (hj : j < L) (hL : L ≤ 6) (hx : Int32.ofInt j = x) (hj2 : x.toNatClampNeg = j ∧ ¬ x < 0)
    (d0 : decode code pc = .ok (.aload_n 0, 1)) (d1 : decode code (pc + 1) = .ok (.iload_n 3, 1)) (d2 : decode code (pc + 1 + 1) = .ok (.iconst j, 1)) (d3 : decode code (pc + 1 + 1 + 1) = .ok (.iadd, 1)) (d4 : decode code (pc + 1 + 1 + 1 + 1) = .ok (.iaload, 1))
    (K : W p l e room_1 s m #[Value.ref b] below meth c H locs cells slots Q (F0 m (pc + 5) la (.int (xs j) :: st))) : W p l e room_1 s m #[Value.ref b] below meth c H locs cells slots Q (F0 m pc la st) := by
  obtain ⟨hx0, hb, hr, hml, hown, hts, hX, hbl, hlocks, hgv⟩ := C0
  have hbA : ¬ (fun q : Nat => s.heap.size ≤ q) b := Nat.not_le.mpr hbl
  refine lv_aload_n hx0 hb d0 rfl (lv_at hl 0 rfl) ?_
  refine lv_iload_n hx0 hb d1 rfl (lv_at hl 3 rfl) ?_
  refine lv_iconst hx0 hb d2 hx ?_
  refine lv_iadd hx0 hb d3 ?_
  have e0 : (0 : Int32) + x = x := Int32.zero_add x
  rw [e0]
  refine va_sld hx0 hb hX hbl hbA hS (i := x) (fun h => ?_) d4 ?_
  · rcases h with h | h
    · exact hj2.2 h
    · rw [hj2.1] at h; omega
  · rw [hj2.1]; exact K
/-- what is left when both have answered alike -/
theorem lw_end {a1 a2 : Nat} (C0 : lw_At p s m meth c b L xs) (hL6 : L = 6) (hS : va_S (fun q : Nat => s.heap.size ≤ q) s.heap H locs) (hl : lv_has la 4 (lw_lv b a1 a2 0)) (hc : cells ≤ 600000) (hs : slots ≤ 7302250) : W p l e room_1 s m #[Value.ref b] below meth c H locs cells slots (lw_Z below #[Value.ref b] s) (F0 m 1516 la []) := by
  obtain ⟨hx0, hb, hr, hml, hown, hts, hX, hbl, hlocks, hgv⟩ := C0
  have hbA : ¬ (fun q : Nat => s.heap.size ≤ q) b := Nat.not_le.mpr hbl
  refine lv_iinc (v := 6) (lv' := [(3, .int 6), (0, .ref b), (1, .ref a1), (2, .ref a2)]) hx0 hb dl_1516 hl (k := 3) rfl (by decide +kernel) (by decide) rfl (fun la hl => ?_)
  refine lv_goto (tgt := 18) hx0 hb dl_1519 (by decide) ?_
  refine lv_iload_n hx0 hb dl_18 rfl (lv_at hl 0 rfl) ?_
  refine lv_aload_n hx0 hb dl_19 rfl (lv_at hl 1 rfl) ?_
  refine va_slen hx0 hb hX hbl hbA hS dl_20 ?_
  refine lv_bipush (v := 6) hx0 hb dl_21 (by decide) ?_
  refine lv_isub hx0 hb dl_23 ?_
  refine lv_icmp_gt (tgt := 1522) hx0 hb dl_24 (by decide) (fun _ => ?_) (fun z => absurd (by subst hL6; decide +kernel) z)
  refine lv_iconst (v := 1) hx0 hb dl_1522 (by decide) ?_
  refine va_forget (fun q hq => hS.2.2 q hq) ?_
  refine W.widen hc hs ?_
  exact lw_ret hx0 hb hr hlocks dl_1523
theorem lw_S {h : mx_H} (hR : mx_Rp (tB l D s.heap.size (fun _ => a0) s.heap (mx_tau ag)).2.1.1 s h H) (hL : ∀ q ∈ locs, mx_up (tB l D s.heap.size (fun _ => a0) s.heap (mx_tau ag)).2.1 q.base) : va_S (fun q : Nat => s.heap.size ≤ q) s.heap H locs := by
  have h3 : H.size = s.heap.size + (h.1 - 1) := hR.2.2.1
  have h4 : ∀ q, q < s.heap.size → H[q]? = s.heap[q]? := hR.2.2.2.1
  exact ⟨by omega, fun q hq _ => h4 q hq, fun q hq => hL q hq⟩
set_option maxHeartbeats 4000000 in
set_option maxRecDepth 100000 in
theorem lc_0 {as : List Value} (C0 : lw_At p s m meth c b L xs) (hL : L ≤ 6) (hL6 : L = 6) (A : mx_Wx (tB l D s.heap.size (fun _ => a0) s.heap (mx_tau ag)) p s m #[Value.ref b] c code 4 R_law) (hR : mx_Rp (tB l D s.heap.size (fun _ => a0) s.heap (mx_tau ag)).2.1.1 s h_4 H) (hLo : ∀ q ∈ locs, mx_up (tB l D s.heap.size (fun _ => a0) s.heap (mx_tau ag)).2.1 q.base) (hcx : ∃ fs, mx_cell h_4 1 = some (.inl (11, fs))) (hn4 : h_4.1 = 83) (hs4 : h_4.2.1 ≤ 1000000) (hl : lv_has la 4 (lw_lv b (mx_rho (tB l D s.heap.size (fun _ => a0) s.heap (mx_tau ag)).2.1.1 1) (mx_rho (tB l D s.heap.size (fun _ => a0) s.heap (mx_tau ag)).2.1.1 56) 0))
    (has : as.map (mx_v (tB l D s.heap.size (fun _ => a0) s.heap (mx_tau ag)).2.1.1) = [.int (xs 1), .int (xs 2), .int (xs 3), .int (xs 4), .int (xs 5)]) (hlen : as.length = 5) (hTw : mx_Tw (tB l D s.heap.size (fun _ => a0) s.heap (mx_tau ag)) false 89 157 as) : W p l e room_1 s m #[Value.ref b] below meth c H locs 82 h_4.2.1 (lw_Z below #[Value.ref b] s) (F0 m 228 la []) := by
  obtain ⟨hx0, hb, hr, hml, hown, hts, hX, hbl, hlocks, hgv⟩ := id C0
  obtain ⟨v, q1, q2, fs, hc1, hc2, hcell2, hb1, hb2, hv⟩ := hTw
  have hS := lw_S hR hLo
  refine lv_aload_n hx0 hb dl_228 rfl (lv_at hl 1 rfl) ?_
  refine lw_arg C0 hS hl (j := 1) (x := 1) (by omega) hL (by decide) (by decide +kernel) dl_229 dl_230 dl_231 dl_232 dl_233 ?_
  refine lw_arg C0 hS hl (j := 2) (x := 2) (by omega) hL (by decide) (by decide +kernel) dl_234 dl_235 dl_236 dl_237 dl_238 ?_
  refine lw_arg C0 hS hl (j := 3) (x := 3) (by omega) hL (by decide) (by decide +kernel) dl_239 dl_240 dl_241 dl_242 dl_243 ?_
  refine lw_arg C0 hS hl (j := 4) (x := 4) (by omega) hL (by decide) (by decide +kernel) dl_244 dl_245 dl_246 dl_247 dl_248 ?_
  refine lw_arg C0 hS hl (j := 5) (x := 5) (by omega) hL (by decide) (by decide +kernel) dl_249 dl_250 dl_251 dl_252 dl_253 ?_
  refine W.eq (g2 := F0 m 254 la ((as.map (mx_v (tB l D s.heap.size (fun _ => a0) s.heap (mx_tau ag)).2.1.1)).reverse ++ .ref (mx_rho (tB l D s.heap.size (fun _ => a0) s.heap (mx_tau ag)).2.1.1 1) :: [])) (by rw [has]; rfl) ?_
  obtain ⟨fs1, hcell1⟩ := hcx
  have le1 := hc1.choose_spec.2.1
  have le2 := hc2.choose_spec.2.1
  refine mx_Wcallv (B := (tB l D s.heap.size (fun _ => a0) s.heap (mx_tau ag))) (ci := 11) (r := cr_11) (n := 5) A dl_254 me_89 rfl hcell1 (tw lx_2_189 rfl) (tw lx_2_190 rfl) (tw lx_2_188 rfl) hc1 hlen hl.1 (by decide) hR hLo (by decide) (by decide) ⟨by have := le1.1; have := le2.1; show 82 + (q1.1 - h_4.1) ≤ 600000; simp only [] at *; omega, by have := le1.2; have := le2.2; show h_4.2.1 + (q1.2.1 - h_4.2.1) ≤ 7302250; simp only [] at *; omega⟩ (fun H1 locs1 hR1 hLo1 => ?_)
  have hS1 := lw_S hR1 hLo1
  clear hS
  have hS := hS1
  refine W.eq (g2 := F0 m 257 la (mx_v (tB l D s.heap.size (fun _ => a0) s.heap (mx_tau ag)).2.1.1 v :: [])) rfl ?_
  refine lv_aload_n hx0 hb dl_257 rfl (lv_at hl 2 rfl) ?_
  refine lw_arg C0 hS hl (j := 1) (x := 1) (by omega) hL (by decide) (by decide +kernel) dl_258 dl_259 dl_260 dl_261 dl_262 ?_
  refine lw_arg C0 hS hl (j := 2) (x := 2) (by omega) hL (by decide) (by decide +kernel) dl_263 dl_264 dl_265 dl_266 dl_267 ?_
  refine lw_arg C0 hS hl (j := 3) (x := 3) (by omega) hL (by decide) (by decide +kernel) dl_268 dl_269 dl_270 dl_271 dl_272 ?_
  refine lw_arg C0 hS hl (j := 4) (x := 4) (by omega) hL (by decide) (by decide +kernel) dl_273 dl_274 dl_275 dl_276 dl_277 ?_
  refine lw_arg C0 hS hl (j := 5) (x := 5) (by omega) hL (by decide) (by decide +kernel) dl_278 dl_279 dl_280 dl_281 dl_282 ?_
  refine W.eq (g2 := F0 m 283 la ((as.map (mx_v (tB l D s.heap.size (fun _ => a0) s.heap (mx_tau ag)).2.1.1)).reverse ++ .ref (mx_rho (tB l D s.heap.size (fun _ => a0) s.heap (mx_tau ag)).2.1.1 56) :: mx_v (tB l D s.heap.size (fun _ => a0) s.heap (mx_tau ag)).2.1.1 v :: [])) (by rw [has]; rfl) ?_
  refine mx_Wcallv (B := (tB l D s.heap.size (fun _ => a0) s.heap (mx_tau ag))) (ci := 12) (r := cr_12) (n := 5) A dl_283 me_157 rfl hcell2 (tw lx_6_95 rfl) (tw lx_6_96 rfl) (tw lx_6_94 rfl) hc2 hlen hl.1 (by obtain ⟨x, rfl⟩ := hv; exact Nat.le_of_ble_eq_true rfl) hR1 hLo1 (by decide) (by decide) ⟨by have := le1.1; have := le2.1; show 82 + (q1.1 - h_4.1) + (q2.1 - q1.1) ≤ 600000; simp only [] at *; omega, by have := le1.2; have := le2.2; show h_4.2.1 + (q1.2.1 - h_4.2.1) + (q2.2.1 - q1.2.1) ≤ 7302250; simp only [] at *; omega⟩ (fun H2 locs2 hR2 hLo2 => ?_)
  refine W.eq (g2 := F0 m 286 la (mx_v (tB l D s.heap.size (fun _ => a0) s.heap (mx_tau ag)).2.1.1 v :: mx_v (tB l D s.heap.size (fun _ => a0) s.heap (mx_tau ag)).2.1.1 v :: [])) rfl ?_
  have hS2 := lw_S hR2 hLo2
  have hend := lw_end (cells := 82 + (q1.1 - h_4.1) + (q2.1 - q1.1)) (slots := h_4.2.1 + (q1.2.1 - h_4.2.1) + (q2.2.1 - q1.2.1)) (e := e) (below := below) (l := l) C0 hL6 hS2 hl (by have := le1.1; have := le2.1; simp only [] at *; omega) (by have := le1.2; have := le2.2; simp only [] at *; omega)
  obtain ⟨x, rfl⟩ := hv
  refine lv_icmp_eq (tgt := 1516) hx0 hb dl_286 (by decide) (fun _ => hend) (fun z => absurd rfl z)
set_option maxHeartbeats 4000000 in
set_option maxRecDepth 100000 in
theorem lc_1 {as : List Value} (C0 : lw_At p s m meth c b L xs) (hL : L ≤ 6) (hL6 : L = 6) (A : mx_Wx (tB l D s.heap.size (fun _ => a0) s.heap (mx_tau ag)) p s m #[Value.ref b] c code 4 R_law) (hR : mx_Rp (tB l D s.heap.size (fun _ => a0) s.heap (mx_tau ag)).2.1.1 s h_4 H) (hLo : ∀ q ∈ locs, mx_up (tB l D s.heap.size (fun _ => a0) s.heap (mx_tau ag)).2.1 q.base) (hcx : ∃ fs, mx_cell h_4 1 = some (.inl (11, fs))) (hn4 : h_4.1 = 83) (hs4 : h_4.2.1 ≤ 1000000) (hl : lv_has la 4 (lw_lv b (mx_rho (tB l D s.heap.size (fun _ => a0) s.heap (mx_tau ag)).2.1.1 1) (mx_rho (tB l D s.heap.size (fun _ => a0) s.heap (mx_tau ag)).2.1.1 56) 0))
    (has : as.map (mx_v (tB l D s.heap.size (fun _ => a0) s.heap (mx_tau ag)).2.1.1) = [.int (xs 1)]) (hlen : as.length = 1) (hTw : mx_Tw (tB l D s.heap.size (fun _ => a0) s.heap (mx_tau ag)) false 90 182 as) : W p l e room_1 s m #[Value.ref b] below meth c H locs 82 h_4.2.1 (lw_Z below #[Value.ref b] s) (F0 m 291 la []) := by
  obtain ⟨hx0, hb, hr, hml, hown, hts, hX, hbl, hlocks, hgv⟩ := id C0
  obtain ⟨v, q1, q2, fs, hc1, hc2, hcell2, hb1, hb2, hv⟩ := hTw
  have hS := lw_S hR hLo
  refine lv_aload_n hx0 hb dl_291 rfl (lv_at hl 1 rfl) ?_
  refine lw_arg C0 hS hl (j := 1) (x := 1) (by omega) hL (by decide) (by decide +kernel) dl_292 dl_293 dl_294 dl_295 dl_296 ?_
  refine W.eq (g2 := F0 m 297 la ((as.map (mx_v (tB l D s.heap.size (fun _ => a0) s.heap (mx_tau ag)).2.1.1)).reverse ++ .ref (mx_rho (tB l D s.heap.size (fun _ => a0) s.heap (mx_tau ag)).2.1.1 1) :: [])) (by rw [has]; rfl) ?_
  obtain ⟨fs1, hcell1⟩ := hcx
  have le1 := hc1.choose_spec.2.1
  have le2 := hc2.choose_spec.2.1
  refine mx_Wcallv (B := (tB l D s.heap.size (fun _ => a0) s.heap (mx_tau ag))) (ci := 11) (r := cr_11) (n := 1) A dl_297 me_90 rfl hcell1 (tw lx_2_197 rfl) (tw lx_2_198 rfl) (tw lx_2_196 rfl) hc1 hlen hl.1 (by decide) hR hLo (by decide) (by decide) ⟨by have := le1.1; have := le2.1; show 82 + (q1.1 - h_4.1) ≤ 600000; simp only [] at *; omega, by have := le1.2; have := le2.2; show h_4.2.1 + (q1.2.1 - h_4.2.1) ≤ 7302250; simp only [] at *; omega⟩ (fun H1 locs1 hR1 hLo1 => ?_)
  have hS1 := lw_S hR1 hLo1
  clear hS
  have hS := hS1
  refine W.eq (g2 := F0 m 300 la (mx_v (tB l D s.heap.size (fun _ => a0) s.heap (mx_tau ag)).2.1.1 v :: [])) rfl ?_
  refine lv_aload_n hx0 hb dl_300 rfl (lv_at hl 2 rfl) ?_
  refine lw_arg C0 hS hl (j := 1) (x := 1) (by omega) hL (by decide) (by decide +kernel) dl_301 dl_302 dl_303 dl_304 dl_305 ?_
  refine W.eq (g2 := F0 m 306 la ((as.map (mx_v (tB l D s.heap.size (fun _ => a0) s.heap (mx_tau ag)).2.1.1)).reverse ++ .ref (mx_rho (tB l D s.heap.size (fun _ => a0) s.heap (mx_tau ag)).2.1.1 56) :: mx_v (tB l D s.heap.size (fun _ => a0) s.heap (mx_tau ag)).2.1.1 v :: [])) (by rw [has]; rfl) ?_
  refine mx_Wcallv (B := (tB l D s.heap.size (fun _ => a0) s.heap (mx_tau ag))) (ci := 12) (r := cr_12) (n := 1) A dl_306 me_182 rfl hcell2 (tw lx_6_99 rfl) (tw lx_6_100 rfl) (tw lx_6_98 rfl) hc2 hlen hl.1 (by obtain ⟨x, rfl⟩ := hv; exact Nat.le_of_ble_eq_true rfl) hR1 hLo1 (by decide) (by decide) ⟨by have := le1.1; have := le2.1; show 82 + (q1.1 - h_4.1) + (q2.1 - q1.1) ≤ 600000; simp only [] at *; omega, by have := le1.2; have := le2.2; show h_4.2.1 + (q1.2.1 - h_4.2.1) + (q2.2.1 - q1.2.1) ≤ 7302250; simp only [] at *; omega⟩ (fun H2 locs2 hR2 hLo2 => ?_)
  refine W.eq (g2 := F0 m 309 la (mx_v (tB l D s.heap.size (fun _ => a0) s.heap (mx_tau ag)).2.1.1 v :: mx_v (tB l D s.heap.size (fun _ => a0) s.heap (mx_tau ag)).2.1.1 v :: [])) rfl ?_
  have hS2 := lw_S hR2 hLo2
  have hend := lw_end (cells := 82 + (q1.1 - h_4.1) + (q2.1 - q1.1)) (slots := h_4.2.1 + (q1.2.1 - h_4.2.1) + (q2.2.1 - q1.2.1)) (e := e) (below := below) (l := l) C0 hL6 hS2 hl (by have := le1.1; have := le2.1; simp only [] at *; omega) (by have := le1.2; have := le2.2; simp only [] at *; omega)
  obtain ⟨x, rfl⟩ := hv
  refine lv_icmp_eq (tgt := 1516) hx0 hb dl_309 (by decide) (fun _ => hend) (fun z => absurd rfl z)
set_option maxHeartbeats 4000000 in
set_option maxRecDepth 100000 in
theorem lc_2 {as : List Value} (C0 : lw_At p s m meth c b L xs) (hL : L ≤ 6) (hL6 : L = 6) (A : mx_Wx (tB l D s.heap.size (fun _ => a0) s.heap (mx_tau ag)) p s m #[Value.ref b] c code 4 R_law) (hR : mx_Rp (tB l D s.heap.size (fun _ => a0) s.heap (mx_tau ag)).2.1.1 s h_4 H) (hLo : ∀ q ∈ locs, mx_up (tB l D s.heap.size (fun _ => a0) s.heap (mx_tau ag)).2.1 q.base) (hcx : ∃ fs, mx_cell h_4 1 = some (.inl (11, fs))) (hn4 : h_4.1 = 83) (hs4 : h_4.2.1 ≤ 1000000) (hl : lv_has la 4 (lw_lv b (mx_rho (tB l D s.heap.size (fun _ => a0) s.heap (mx_tau ag)).2.1.1 1) (mx_rho (tB l D s.heap.size (fun _ => a0) s.heap (mx_tau ag)).2.1.1 56) 0))
    (has : as.map (mx_v (tB l D s.heap.size (fun _ => a0) s.heap (mx_tau ag)).2.1.1) = [.int (xs 1)]) (hlen : as.length = 1) (hTw : mx_Tw (tB l D s.heap.size (fun _ => a0) s.heap (mx_tau ag)) false 91 183 as) : W p l e room_1 s m #[Value.ref b] below meth c H locs 82 h_4.2.1 (lw_Z below #[Value.ref b] s) (F0 m 314 la []) := by
  obtain ⟨hx0, hb, hr, hml, hown, hts, hX, hbl, hlocks, hgv⟩ := id C0
  obtain ⟨v, q1, q2, fs, hc1, hc2, hcell2, hb1, hb2, hv⟩ := hTw
  have hS := lw_S hR hLo
  refine lv_aload_n hx0 hb dl_314 rfl (lv_at hl 1 rfl) ?_
  refine lw_arg C0 hS hl (j := 1) (x := 1) (by omega) hL (by decide) (by decide +kernel) dl_315 dl_316 dl_317 dl_318 dl_319 ?_
  refine W.eq (g2 := F0 m 320 la ((as.map (mx_v (tB l D s.heap.size (fun _ => a0) s.heap (mx_tau ag)).2.1.1)).reverse ++ .ref (mx_rho (tB l D s.heap.size (fun _ => a0) s.heap (mx_tau ag)).2.1.1 1) :: [])) (by rw [has]; rfl) ?_
  obtain ⟨fs1, hcell1⟩ := hcx
  have le1 := hc1.choose_spec.2.1
  have le2 := hc2.choose_spec.2.1
  refine mx_Wcallv (B := (tB l D s.heap.size (fun _ => a0) s.heap (mx_tau ag))) (ci := 11) (r := cr_11) (n := 1) A dl_320 me_91 rfl hcell1 (tw lx_3_181 rfl) (tw lx_3_182 rfl) (tw lx_3_180 rfl) hc1 hlen hl.1 (by decide) hR hLo (by decide) (by decide) ⟨by have := le1.1; have := le2.1; show 82 + (q1.1 - h_4.1) ≤ 600000; simp only [] at *; omega, by have := le1.2; have := le2.2; show h_4.2.1 + (q1.2.1 - h_4.2.1) ≤ 7302250; simp only [] at *; omega⟩ (fun H1 locs1 hR1 hLo1 => ?_)
  have hS1 := lw_S hR1 hLo1
  clear hS
  have hS := hS1
  refine W.eq (g2 := F0 m 323 la (mx_v (tB l D s.heap.size (fun _ => a0) s.heap (mx_tau ag)).2.1.1 v :: [])) rfl ?_
  refine lv_aload_n hx0 hb dl_323 rfl (lv_at hl 2 rfl) ?_
  refine lw_arg C0 hS hl (j := 1) (x := 1) (by omega) hL (by decide) (by decide +kernel) dl_324 dl_325 dl_326 dl_327 dl_328 ?_
  refine W.eq (g2 := F0 m 329 la ((as.map (mx_v (tB l D s.heap.size (fun _ => a0) s.heap (mx_tau ag)).2.1.1)).reverse ++ .ref (mx_rho (tB l D s.heap.size (fun _ => a0) s.heap (mx_tau ag)).2.1.1 56) :: mx_v (tB l D s.heap.size (fun _ => a0) s.heap (mx_tau ag)).2.1.1 v :: [])) (by rw [has]; rfl) ?_
  refine mx_Wcallv (B := (tB l D s.heap.size (fun _ => a0) s.heap (mx_tau ag))) (ci := 12) (r := cr_12) (n := 1) A dl_329 me_183 rfl hcell2 (tw lx_6_212 rfl) (tw lx_6_213 rfl) (tw lx_6_211 rfl) hc2 hlen hl.1 (by obtain ⟨x, rfl⟩ := hv; exact Nat.le_of_ble_eq_true rfl) hR1 hLo1 (by decide) (by decide) ⟨by have := le1.1; have := le2.1; show 82 + (q1.1 - h_4.1) + (q2.1 - q1.1) ≤ 600000; simp only [] at *; omega, by have := le1.2; have := le2.2; show h_4.2.1 + (q1.2.1 - h_4.2.1) + (q2.2.1 - q1.2.1) ≤ 7302250; simp only [] at *; omega⟩ (fun H2 locs2 hR2 hLo2 => ?_)
  refine W.eq (g2 := F0 m 332 la (mx_v (tB l D s.heap.size (fun _ => a0) s.heap (mx_tau ag)).2.1.1 v :: mx_v (tB l D s.heap.size (fun _ => a0) s.heap (mx_tau ag)).2.1.1 v :: [])) rfl ?_
  have hS2 := lw_S hR2 hLo2
  have hend := lw_end (cells := 82 + (q1.1 - h_4.1) + (q2.1 - q1.1)) (slots := h_4.2.1 + (q1.2.1 - h_4.2.1) + (q2.2.1 - q1.2.1)) (e := e) (below := below) (l := l) C0 hL6 hS2 hl (by have := le1.1; have := le2.1; simp only [] at *; omega) (by have := le1.2; have := le2.2; simp only [] at *; omega)
  obtain ⟨x, rfl⟩ := hv
  refine lv_icmp_eq (tgt := 1516) hx0 hb dl_332 (by decide) (fun _ => hend) (fun z => absurd rfl z)
set_option maxHeartbeats 4000000 in
set_option maxRecDepth 100000 in
theorem lc_3 {as : List Value} (C0 : lw_At p s m meth c b L xs) (hL : L ≤ 6) (hL6 : L = 6) (A : mx_Wx (tB l D s.heap.size (fun _ => a0) s.heap (mx_tau ag)) p s m #[Value.ref b] c code 4 R_law) (hR : mx_Rp (tB l D s.heap.size (fun _ => a0) s.heap (mx_tau ag)).2.1.1 s h_4 H) (hLo : ∀ q ∈ locs, mx_up (tB l D s.heap.size (fun _ => a0) s.heap (mx_tau ag)).2.1 q.base) (hcx : ∃ fs, mx_cell h_4 1 = some (.inl (11, fs))) (hn4 : h_4.1 = 83) (hs4 : h_4.2.1 ≤ 1000000) (hl : lv_has la 4 (lw_lv b (mx_rho (tB l D s.heap.size (fun _ => a0) s.heap (mx_tau ag)).2.1.1 1) (mx_rho (tB l D s.heap.size (fun _ => a0) s.heap (mx_tau ag)).2.1.1 56) 0))
    (has : as.map (mx_v (tB l D s.heap.size (fun _ => a0) s.heap (mx_tau ag)).2.1.1) = [.int (xs 1)]) (hlen : as.length = 1) (hTw : mx_Tw (tB l D s.heap.size (fun _ => a0) s.heap (mx_tau ag)) false 92 199 as) : W p l e room_1 s m #[Value.ref b] below meth c H locs 82 h_4.2.1 (lw_Z below #[Value.ref b] s) (F0 m 337 la []) := by
  obtain ⟨hx0, hb, hr, hml, hown, hts, hX, hbl, hlocks, hgv⟩ := id C0
  obtain ⟨v, q1, q2, fs, hc1, hc2, hcell2, hb1, hb2, hv⟩ := hTw
  have hS := lw_S hR hLo
  refine lv_aload_n hx0 hb dl_337 rfl (lv_at hl 1 rfl) ?_
  refine lw_arg C0 hS hl (j := 1) (x := 1) (by omega) hL (by decide) (by decide +kernel) dl_338 dl_339 dl_340 dl_341 dl_342 ?_
  refine W.eq (g2 := F0 m 343 la ((as.map (mx_v (tB l D s.heap.size (fun _ => a0) s.heap (mx_tau ag)).2.1.1)).reverse ++ .ref (mx_rho (tB l D s.heap.size (fun _ => a0) s.heap (mx_tau ag)).2.1.1 1) :: [])) (by rw [has]; rfl) ?_
  obtain ⟨fs1, hcell1⟩ := hcx
  have le1 := hc1.choose_spec.2.1
  have le2 := hc2.choose_spec.2.1
  refine mx_Wcallv (B := (tB l D s.heap.size (fun _ => a0) s.heap (mx_tau ag))) (ci := 11) (r := cr_11) (n := 1) A dl_343 me_92 rfl hcell1 (tw lx_3_185 rfl) (tw lx_3_186 rfl) (tw lx_3_184 rfl) hc1 hlen hl.1 (by decide) hR hLo (by decide) (by decide) ⟨by have := le1.1; have := le2.1; show 82 + (q1.1 - h_4.1) ≤ 600000; simp only [] at *; omega, by have := le1.2; have := le2.2; show h_4.2.1 + (q1.2.1 - h_4.2.1) ≤ 7302250; simp only [] at *; omega⟩ (fun H1 locs1 hR1 hLo1 => ?_)
  have hS1 := lw_S hR1 hLo1
  clear hS
  have hS := hS1
  refine W.eq (g2 := F0 m 346 la (mx_v (tB l D s.heap.size (fun _ => a0) s.heap (mx_tau ag)).2.1.1 v :: [])) rfl ?_
  refine lv_aload_n hx0 hb dl_346 rfl (lv_at hl 2 rfl) ?_
  refine lw_arg C0 hS hl (j := 1) (x := 1) (by omega) hL (by decide) (by decide +kernel) dl_347 dl_348 dl_349 dl_350 dl_351 ?_
  refine W.eq (g2 := F0 m 352 la ((as.map (mx_v (tB l D s.heap.size (fun _ => a0) s.heap (mx_tau ag)).2.1.1)).reverse ++ .ref (mx_rho (tB l D s.heap.size (fun _ => a0) s.heap (mx_tau ag)).2.1.1 56) :: mx_v (tB l D s.heap.size (fun _ => a0) s.heap (mx_tau ag)).2.1.1 v :: [])) (by rw [has]; rfl) ?_
  refine mx_Wcallv (B := (tB l D s.heap.size (fun _ => a0) s.heap (mx_tau ag))) (ci := 12) (r := cr_12) (n := 1) A dl_352 me_199 rfl hcell2 (tw lx_6_216 rfl) (tw lx_6_217 rfl) (tw lx_6_215 rfl) hc2 hlen hl.1 (by obtain ⟨x, rfl⟩ := hv; exact Nat.le_of_ble_eq_true rfl) hR1 hLo1 (by decide) (by decide) ⟨by have := le1.1; have := le2.1; show 82 + (q1.1 - h_4.1) + (q2.1 - q1.1) ≤ 600000; simp only [] at *; omega, by have := le1.2; have := le2.2; show h_4.2.1 + (q1.2.1 - h_4.2.1) + (q2.2.1 - q1.2.1) ≤ 7302250; simp only [] at *; omega⟩ (fun H2 locs2 hR2 hLo2 => ?_)
  refine W.eq (g2 := F0 m 355 la (mx_v (tB l D s.heap.size (fun _ => a0) s.heap (mx_tau ag)).2.1.1 v :: mx_v (tB l D s.heap.size (fun _ => a0) s.heap (mx_tau ag)).2.1.1 v :: [])) rfl ?_
  have hS2 := lw_S hR2 hLo2
  have hend := lw_end (cells := 82 + (q1.1 - h_4.1) + (q2.1 - q1.1)) (slots := h_4.2.1 + (q1.2.1 - h_4.2.1) + (q2.2.1 - q1.2.1)) (e := e) (below := below) (l := l) C0 hL6 hS2 hl (by have := le1.1; have := le2.1; simp only [] at *; omega) (by have := le1.2; have := le2.2; simp only [] at *; omega)
  obtain ⟨x, rfl⟩ := hv
  refine lv_icmp_eq (tgt := 1516) hx0 hb dl_355 (by decide) (fun _ => hend) (fun z => absurd rfl z)
set_option maxHeartbeats 4000000 in
set_option maxRecDepth 100000 in
theorem lc_4 {as : List Value} (C0 : lw_At p s m meth c b L xs) (hL : L ≤ 6) (hL6 : L = 6) (A : mx_Wx (tB l D s.heap.size (fun _ => a0) s.heap (mx_tau ag)) p s m #[Value.ref b] c code 4 R_law) (hR : mx_Rp (tB l D s.heap.size (fun _ => a0) s.heap (mx_tau ag)).2.1.1 s h_4 H) (hLo : ∀ q ∈ locs, mx_up (tB l D s.heap.size (fun _ => a0) s.heap (mx_tau ag)).2.1 q.base) (hcx : ∃ fs, mx_cell h_4 1 = some (.inl (11, fs))) (hn4 : h_4.1 = 83) (hs4 : h_4.2.1 ≤ 1000000) (hl : lv_has la 4 (lw_lv b (mx_rho (tB l D s.heap.size (fun _ => a0) s.heap (mx_tau ag)).2.1.1 1) (mx_rho (tB l D s.heap.size (fun _ => a0) s.heap (mx_tau ag)).2.1.1 56) 0))
    (has : as.map (mx_v (tB l D s.heap.size (fun _ => a0) s.heap (mx_tau ag)).2.1.1) = [.int (xs 1)]) (hlen : as.length = 1) (hTw : mx_Tw (tB l D s.heap.size (fun _ => a0) s.heap (mx_tau ag)) false 93 200 as) : W p l e room_1 s m #[Value.ref b] below meth c H locs 82 h_4.2.1 (lw_Z below #[Value.ref b] s) (F0 m 360 la []) := by
  obtain ⟨hx0, hb, hr, hml, hown, hts, hX, hbl, hlocks, hgv⟩ := id C0
  obtain ⟨v, q1, q2, fs, hc1, hc2, hcell2, hb1, hb2, hv⟩ := hTw
  have hS := lw_S hR hLo
  refine lv_aload_n hx0 hb dl_360 rfl (lv_at hl 1 rfl) ?_
  refine lw_arg C0 hS hl (j := 1) (x := 1) (by omega) hL (by decide) (by decide +kernel) dl_361 dl_362 dl_363 dl_364 dl_365 ?_
  refine W.eq (g2 := F0 m 366 la ((as.map (mx_v (tB l D s.heap.size (fun _ => a0) s.heap (mx_tau ag)).2.1.1)).reverse ++ .ref (mx_rho (tB l D s.heap.size (fun _ => a0) s.heap (mx_tau ag)).2.1.1 1) :: [])) (by rw [has]; rfl) ?_
  obtain ⟨fs1, hcell1⟩ := hcx
  have le1 := hc1.choose_spec.2.1
  have le2 := hc2.choose_spec.2.1
  refine mx_Wcallv (B := (tB l D s.heap.size (fun _ => a0) s.heap (mx_tau ag))) (ci := 11) (r := cr_11) (n := 1) A dl_366 me_93 rfl hcell1 (tw lx_3_198 rfl) (tw lx_3_199 rfl) (tw lx_3_197 rfl) hc1 hlen hl.1 (by decide) hR hLo (by decide) (by decide) ⟨by have := le1.1; have := le2.1; show 82 + (q1.1 - h_4.1) ≤ 600000; simp only [] at *; omega, by have := le1.2; have := le2.2; show h_4.2.1 + (q1.2.1 - h_4.2.1) ≤ 7302250; simp only [] at *; omega⟩ (fun H1 locs1 hR1 hLo1 => ?_)
  have hS1 := lw_S hR1 hLo1
  clear hS
  have hS := hS1
  refine W.eq (g2 := F0 m 369 la (mx_v (tB l D s.heap.size (fun _ => a0) s.heap (mx_tau ag)).2.1.1 v :: [])) rfl ?_
  refine lv_aload_n hx0 hb dl_369 rfl (lv_at hl 2 rfl) ?_
  refine lw_arg C0 hS hl (j := 1) (x := 1) (by omega) hL (by decide) (by decide +kernel) dl_370 dl_371 dl_372 dl_373 dl_374 ?_
  refine W.eq (g2 := F0 m 375 la ((as.map (mx_v (tB l D s.heap.size (fun _ => a0) s.heap (mx_tau ag)).2.1.1)).reverse ++ .ref (mx_rho (tB l D s.heap.size (fun _ => a0) s.heap (mx_tau ag)).2.1.1 56) :: mx_v (tB l D s.heap.size (fun _ => a0) s.heap (mx_tau ag)).2.1.1 v :: [])) (by rw [has]; rfl) ?_
  refine mx_Wcallv (B := (tB l D s.heap.size (fun _ => a0) s.heap (mx_tau ag))) (ci := 12) (r := cr_12) (n := 1) A dl_375 me_200 rfl hcell2 (tw lx_6_228 rfl) (tw lx_6_229 rfl) (tw lx_6_227 rfl) hc2 hlen hl.1 (by obtain ⟨x, rfl⟩ := hv; exact Nat.le_of_ble_eq_true rfl) hR1 hLo1 (by decide) (by decide) ⟨by have := le1.1; have := le2.1; show 82 + (q1.1 - h_4.1) + (q2.1 - q1.1) ≤ 600000; simp only [] at *; omega, by have := le1.2; have := le2.2; show h_4.2.1 + (q1.2.1 - h_4.2.1) + (q2.2.1 - q1.2.1) ≤ 7302250; simp only [] at *; omega⟩ (fun H2 locs2 hR2 hLo2 => ?_)
  refine W.eq (g2 := F0 m 378 la (mx_v (tB l D s.heap.size (fun _ => a0) s.heap (mx_tau ag)).2.1.1 v :: mx_v (tB l D s.heap.size (fun _ => a0) s.heap (mx_tau ag)).2.1.1 v :: [])) rfl ?_
  have hS2 := lw_S hR2 hLo2
  have hend := lw_end (cells := 82 + (q1.1 - h_4.1) + (q2.1 - q1.1)) (slots := h_4.2.1 + (q1.2.1 - h_4.2.1) + (q2.2.1 - q1.2.1)) (e := e) (below := below) (l := l) C0 hL6 hS2 hl (by have := le1.1; have := le2.1; simp only [] at *; omega) (by have := le1.2; have := le2.2; simp only [] at *; omega)
  obtain ⟨x, rfl⟩ := hv
  refine lv_icmp_eq (tgt := 1516) hx0 hb dl_378 (by decide) (fun _ => hend) (fun z => absurd rfl z)
set_option maxHeartbeats 4000000 in
set_option maxRecDepth 100000 in
theorem lc_5 {as : List Value} (C0 : lw_At p s m meth c b L xs) (hL : L ≤ 6) (hL6 : L = 6) (A : mx_Wx (tB l D s.heap.size (fun _ => a0) s.heap (mx_tau ag)) p s m #[Value.ref b] c code 4 R_law) (hR : mx_Rp (tB l D s.heap.size (fun _ => a0) s.heap (mx_tau ag)).2.1.1 s h_4 H) (hLo : ∀ q ∈ locs, mx_up (tB l D s.heap.size (fun _ => a0) s.heap (mx_tau ag)).2.1 q.base) (hcx : ∃ fs, mx_cell h_4 1 = some (.inl (11, fs))) (hn4 : h_4.1 = 83) (hs4 : h_4.2.1 ≤ 1000000) (hl : lv_has la 4 (lw_lv b (mx_rho (tB l D s.heap.size (fun _ => a0) s.heap (mx_tau ag)).2.1.1 1) (mx_rho (tB l D s.heap.size (fun _ => a0) s.heap (mx_tau ag)).2.1.1 56) 0))
    (has : as.map (mx_v (tB l D s.heap.size (fun _ => a0) s.heap (mx_tau ag)).2.1.1) = [.int (xs 1), .int (xs 2)]) (hlen : as.length = 2) (hTw : mx_Tw (tB l D s.heap.size (fun _ => a0) s.heap (mx_tau ag)) false 94 201 as) : W p l e room_1 s m #[Value.ref b] below meth c H locs 82 h_4.2.1 (lw_Z below #[Value.ref b] s) (F0 m 383 la []) := by
  obtain ⟨hx0, hb, hr, hml, hown, hts, hX, hbl, hlocks, hgv⟩ := id C0
  obtain ⟨v, q1, q2, fs, hc1, hc2, hcell2, hb1, hb2, hv⟩ := hTw
  have hS := lw_S hR hLo
  refine lv_aload_n hx0 hb dl_383 rfl (lv_at hl 1 rfl) ?_
  refine lw_arg C0 hS hl (j := 1) (x := 1) (by omega) hL (by decide) (by decide +kernel) dl_384 dl_385 dl_386 dl_387 dl_388 ?_
  refine lw_arg C0 hS hl (j := 2) (x := 2) (by omega) hL (by decide) (by decide +kernel) dl_389 dl_390 dl_391 dl_392 dl_393 ?_
  refine W.eq (g2 := F0 m 394 la ((as.map (mx_v (tB l D s.heap.size (fun _ => a0) s.heap (mx_tau ag)).2.1.1)).reverse ++ .ref (mx_rho (tB l D s.heap.size (fun _ => a0) s.heap (mx_tau ag)).2.1.1 1) :: [])) (by rw [has]; rfl) ?_
  obtain ⟨fs1, hcell1⟩ := hcx
  have le1 := hc1.choose_spec.2.1
  have le2 := hc2.choose_spec.2.1
  refine mx_Wcallv (B := (tB l D s.heap.size (fun _ => a0) s.heap (mx_tau ag))) (ci := 11) (r := cr_11) (n := 2) A dl_394 me_94 rfl hcell1 (tw lx_3_214 rfl) (tw lx_3_215 rfl) (tw lx_3_213 rfl) hc1 hlen hl.1 (by decide) hR hLo (by decide) (by decide) ⟨by have := le1.1; have := le2.1; show 82 + (q1.1 - h_4.1) ≤ 600000; simp only [] at *; omega, by have := le1.2; have := le2.2; show h_4.2.1 + (q1.2.1 - h_4.2.1) ≤ 7302250; simp only [] at *; omega⟩ (fun H1 locs1 hR1 hLo1 => ?_)
  have hS1 := lw_S hR1 hLo1
  clear hS
  have hS := hS1
  refine W.eq (g2 := F0 m 397 la (mx_v (tB l D s.heap.size (fun _ => a0) s.heap (mx_tau ag)).2.1.1 v :: [])) rfl ?_
  refine lv_aload_n hx0 hb dl_397 rfl (lv_at hl 2 rfl) ?_
  refine lw_arg C0 hS hl (j := 1) (x := 1) (by omega) hL (by decide) (by decide +kernel) dl_398 dl_399 dl_400 dl_401 dl_402 ?_
  refine lw_arg C0 hS hl (j := 2) (x := 2) (by omega) hL (by decide) (by decide +kernel) dl_403 dl_404 dl_405 dl_406 dl_407 ?_
  refine W.eq (g2 := F0 m 408 la ((as.map (mx_v (tB l D s.heap.size (fun _ => a0) s.heap (mx_tau ag)).2.1.1)).reverse ++ .ref (mx_rho (tB l D s.heap.size (fun _ => a0) s.heap (mx_tau ag)).2.1.1 56) :: mx_v (tB l D s.heap.size (fun _ => a0) s.heap (mx_tau ag)).2.1.1 v :: [])) (by rw [has]; rfl) ?_
  refine mx_Wcallv (B := (tB l D s.heap.size (fun _ => a0) s.heap (mx_tau ag))) (ci := 12) (r := cr_12) (n := 2) A dl_408 me_201 rfl hcell2 (tw lx_7_5 rfl) (tw lx_7_6 rfl) (tw lx_7_4 rfl) hc2 hlen hl.1 (by obtain ⟨x, rfl⟩ := hv; exact Nat.le_of_ble_eq_true rfl) hR1 hLo1 (by decide) (by decide) ⟨by have := le1.1; have := le2.1; show 82 + (q1.1 - h_4.1) + (q2.1 - q1.1) ≤ 600000; simp only [] at *; omega, by have := le1.2; have := le2.2; show h_4.2.1 + (q1.2.1 - h_4.2.1) + (q2.2.1 - q1.2.1) ≤ 7302250; simp only [] at *; omega⟩ (fun H2 locs2 hR2 hLo2 => ?_)
  refine W.eq (g2 := F0 m 411 la (mx_v (tB l D s.heap.size (fun _ => a0) s.heap (mx_tau ag)).2.1.1 v :: mx_v (tB l D s.heap.size (fun _ => a0) s.heap (mx_tau ag)).2.1.1 v :: [])) rfl ?_
  have hS2 := lw_S hR2 hLo2
  have hend := lw_end (cells := 82 + (q1.1 - h_4.1) + (q2.1 - q1.1)) (slots := h_4.2.1 + (q1.2.1 - h_4.2.1) + (q2.2.1 - q1.2.1)) (e := e) (below := below) (l := l) C0 hL6 hS2 hl (by have := le1.1; have := le2.1; simp only [] at *; omega) (by have := le1.2; have := le2.2; simp only [] at *; omega)
  obtain ⟨x, rfl⟩ := hv
  refine lv_icmp_eq (tgt := 1516) hx0 hb dl_411 (by decide) (fun _ => hend) (fun z => absurd rfl z)
set_option maxHeartbeats 4000000 in
set_option maxRecDepth 100000 in
theorem lc_6 {as : List Value} (C0 : lw_At p s m meth c b L xs) (hL : L ≤ 6) (hL6 : L = 6) (A : mx_Wx (tB l D s.heap.size (fun _ => a0) s.heap (mx_tau ag)) p s m #[Value.ref b] c code 4 R_law) (hR : mx_Rp (tB l D s.heap.size (fun _ => a0) s.heap (mx_tau ag)).2.1.1 s h_4 H) (hLo : ∀ q ∈ locs, mx_up (tB l D s.heap.size (fun _ => a0) s.heap (mx_tau ag)).2.1 q.base) (hcx : ∃ fs, mx_cell h_4 1 = some (.inl (11, fs))) (hn4 : h_4.1 = 83) (hs4 : h_4.2.1 ≤ 1000000) (hl : lv_has la 4 (lw_lv b (mx_rho (tB l D s.heap.size (fun _ => a0) s.heap (mx_tau ag)).2.1.1 1) (mx_rho (tB l D s.heap.size (fun _ => a0) s.heap (mx_tau ag)).2.1.1 56) 0))
    (has : as.map (mx_v (tB l D s.heap.size (fun _ => a0) s.heap (mx_tau ag)).2.1.1) = [.int (xs 1)]) (hlen : as.length = 1) (hTw : mx_Tw (tB l D s.heap.size (fun _ => a0) s.heap (mx_tau ag)) false 95 206 as) : W p l e room_1 s m #[Value.ref b] below meth c H locs 82 h_4.2.1 (lw_Z below #[Value.ref b] s) (F0 m 416 la []) := by
  obtain ⟨hx0, hb, hr, hml, hown, hts, hX, hbl, hlocks, hgv⟩ := id C0
  obtain ⟨v, q1, q2, fs, hc1, hc2, hcell2, hb1, hb2, hv⟩ := hTw
  have hS := lw_S hR hLo
  refine lv_aload_n hx0 hb dl_416 rfl (lv_at hl 1 rfl) ?_
  refine lw_arg C0 hS hl (j := 1) (x := 1) (by omega) hL (by decide) (by decide +kernel) dl_417 dl_418 dl_419 dl_420 dl_421 ?_
  refine W.eq (g2 := F0 m 422 la ((as.map (mx_v (tB l D s.heap.size (fun _ => a0) s.heap (mx_tau ag)).2.1.1)).reverse ++ .ref (mx_rho (tB l D s.heap.size (fun _ => a0) s.heap (mx_tau ag)).2.1.1 1) :: [])) (by rw [has]; rfl) ?_
  obtain ⟨fs1, hcell1⟩ := hcx
  have le1 := hc1.choose_spec.2.1
  have le2 := hc2.choose_spec.2.1
  refine mx_Wcallv (B := (tB l D s.heap.size (fun _ => a0) s.heap (mx_tau ag))) (ci := 11) (r := cr_11) (n := 1) A dl_422 me_95 rfl hcell1 (tw lx_3_235 rfl) (tw lx_3_236 rfl) (tw lx_3_234 rfl) hc1 hlen hl.1 (by decide) hR hLo (by decide) (by decide) ⟨by have := le1.1; have := le2.1; show 82 + (q1.1 - h_4.1) ≤ 600000; simp only [] at *; omega, by have := le1.2; have := le2.2; show h_4.2.1 + (q1.2.1 - h_4.2.1) ≤ 7302250; simp only [] at *; omega⟩ (fun H1 locs1 hR1 hLo1 => ?_)
  have hS1 := lw_S hR1 hLo1
  clear hS
  have hS := hS1
  refine W.eq (g2 := F0 m 425 la (mx_v (tB l D s.heap.size (fun _ => a0) s.heap (mx_tau ag)).2.1.1 v :: [])) rfl ?_
  refine lv_aload_n hx0 hb dl_425 rfl (lv_at hl 2 rfl) ?_
  refine lw_arg C0 hS hl (j := 1) (x := 1) (by omega) hL (by decide) (by decide +kernel) dl_426 dl_427 dl_428 dl_429 dl_430 ?_
  refine W.eq (g2 := F0 m 431 la ((as.map (mx_v (tB l D s.heap.size (fun _ => a0) s.heap (mx_tau ag)).2.1.1)).reverse ++ .ref (mx_rho (tB l D s.heap.size (fun _ => a0) s.heap (mx_tau ag)).2.1.1 56) :: mx_v (tB l D s.heap.size (fun _ => a0) s.heap (mx_tau ag)).2.1.1 v :: [])) (by rw [has]; rfl) ?_
  refine mx_Wcallv (B := (tB l D s.heap.size (fun _ => a0) s.heap (mx_tau ag))) (ci := 12) (r := cr_12) (n := 1) A dl_431 me_206 rfl hcell2 (tw lx_7_27 rfl) (tw lx_7_28 rfl) (tw lx_7_26 rfl) hc2 hlen hl.1 (by obtain ⟨x, rfl⟩ := hv; exact Nat.le_of_ble_eq_true rfl) hR1 hLo1 (by decide) (by decide) ⟨by have := le1.1; have := le2.1; show 82 + (q1.1 - h_4.1) + (q2.1 - q1.1) ≤ 600000; simp only [] at *; omega, by have := le1.2; have := le2.2; show h_4.2.1 + (q1.2.1 - h_4.2.1) + (q2.2.1 - q1.2.1) ≤ 7302250; simp only [] at *; omega⟩ (fun H2 locs2 hR2 hLo2 => ?_)
  refine W.eq (g2 := F0 m 434 la (mx_v (tB l D s.heap.size (fun _ => a0) s.heap (mx_tau ag)).2.1.1 v :: mx_v (tB l D s.heap.size (fun _ => a0) s.heap (mx_tau ag)).2.1.1 v :: [])) rfl ?_
  have hS2 := lw_S hR2 hLo2
  have hend := lw_end (cells := 82 + (q1.1 - h_4.1) + (q2.1 - q1.1)) (slots := h_4.2.1 + (q1.2.1 - h_4.2.1) + (q2.2.1 - q1.2.1)) (e := e) (below := below) (l := l) C0 hL6 hS2 hl (by have := le1.1; have := le2.1; simp only [] at *; omega) (by have := le1.2; have := le2.2; simp only [] at *; omega)
  obtain ⟨x, rfl⟩ := hv
  refine lv_icmp_eq (tgt := 1516) hx0 hb dl_434 (by decide) (fun _ => hend) (fun z => absurd rfl z)
set_option maxHeartbeats 4000000 in
set_option maxRecDepth 100000 in
theorem lc_7 {as : List Value} (C0 : lw_At p s m meth c b L xs) (hL : L ≤ 6) (hL6 : L = 6) (A : mx_Wx (tB l D s.heap.size (fun _ => a0) s.heap (mx_tau ag)) p s m #[Value.ref b] c code 4 R_law) (hR : mx_Rp (tB l D s.heap.size (fun _ => a0) s.heap (mx_tau ag)).2.1.1 s h_4 H) (hLo : ∀ q ∈ locs, mx_up (tB l D s.heap.size (fun _ => a0) s.heap (mx_tau ag)).2.1 q.base) (hcx : ∃ fs, mx_cell h_4 1 = some (.inl (11, fs))) (hn4 : h_4.1 = 83) (hs4 : h_4.2.1 ≤ 1000000) (hl : lv_has la 4 (lw_lv b (mx_rho (tB l D s.heap.size (fun _ => a0) s.heap (mx_tau ag)).2.1.1 1) (mx_rho (tB l D s.heap.size (fun _ => a0) s.heap (mx_tau ag)).2.1.1 56) 0))
    (has : as.map (mx_v (tB l D s.heap.size (fun _ => a0) s.heap (mx_tau ag)).2.1.1) = [.int (xs 1)]) (hlen : as.length = 1) (hTw : mx_Tw (tB l D s.heap.size (fun _ => a0) s.heap (mx_tau ag)) false 96 207 as) : W p l e room_1 s m #[Value.ref b] below meth c H locs 82 h_4.2.1 (lw_Z below #[Value.ref b] s) (F0 m 439 la []) := by
  obtain ⟨hx0, hb, hr, hml, hown, hts, hX, hbl, hlocks, hgv⟩ := id C0
  obtain ⟨v, q1, q2, fs, hc1, hc2, hcell2, hb1, hb2, hv⟩ := hTw
  have hS := lw_S hR hLo
  refine lv_aload_n hx0 hb dl_439 rfl (lv_at hl 1 rfl) ?_
  refine lw_arg C0 hS hl (j := 1) (x := 1) (by omega) hL (by decide) (by decide +kernel) dl_440 dl_441 dl_442 dl_443 dl_444 ?_
  refine W.eq (g2 := F0 m 445 la ((as.map (mx_v (tB l D s.heap.size (fun _ => a0) s.heap (mx_tau ag)).2.1.1)).reverse ++ .ref (mx_rho (tB l D s.heap.size (fun _ => a0) s.heap (mx_tau ag)).2.1.1 1) :: [])) (by rw [has]; rfl) ?_
  obtain ⟨fs1, hcell1⟩ := hcx
  have le1 := hc1.choose_spec.2.1
  have le2 := hc2.choose_spec.2.1
  refine mx_Wcallv (B := (tB l D s.heap.size (fun _ => a0) s.heap (mx_tau ag))) (ci := 11) (r := cr_11) (n := 1) A dl_445 me_96 rfl hcell1 (tw lx_4_24 rfl) (tw lx_4_25 rfl) (tw lx_4_23 rfl) hc1 hlen hl.1 (by decide) hR hLo (by decide) (by decide) ⟨by have := le1.1; have := le2.1; show 82 + (q1.1 - h_4.1) ≤ 600000; simp only [] at *; omega, by have := le1.2; have := le2.2; show h_4.2.1 + (q1.2.1 - h_4.2.1) ≤ 7302250; simp only [] at *; omega⟩ (fun H1 locs1 hR1 hLo1 => ?_)
  have hS1 := lw_S hR1 hLo1
  clear hS
  have hS := hS1
  refine W.eq (g2 := F0 m 448 la (mx_v (tB l D s.heap.size (fun _ => a0) s.heap (mx_tau ag)).2.1.1 v :: [])) rfl ?_
  refine lv_aload_n hx0 hb dl_448 rfl (lv_at hl 2 rfl) ?_
  refine lw_arg C0 hS hl (j := 1) (x := 1) (by omega) hL (by decide) (by decide +kernel) dl_449 dl_450 dl_451 dl_452 dl_453 ?_
  refine W.eq (g2 := F0 m 454 la ((as.map (mx_v (tB l D s.heap.size (fun _ => a0) s.heap (mx_tau ag)).2.1.1)).reverse ++ .ref (mx_rho (tB l D s.heap.size (fun _ => a0) s.heap (mx_tau ag)).2.1.1 56) :: mx_v (tB l D s.heap.size (fun _ => a0) s.heap (mx_tau ag)).2.1.1 v :: [])) (by rw [has]; rfl) ?_
  refine mx_Wcallv (B := (tB l D s.heap.size (fun _ => a0) s.heap (mx_tau ag))) (ci := 12) (r := cr_12) (n := 1) A dl_454 me_207 rfl hcell2 (tw lx_7_43 rfl) (tw lx_7_44 rfl) (tw lx_7_42 rfl) hc2 hlen hl.1 (by obtain ⟨x, rfl⟩ := hv; exact Nat.le_of_ble_eq_true rfl) hR1 hLo1 (by decide) (by decide) ⟨by have := le1.1; have := le2.1; show 82 + (q1.1 - h_4.1) + (q2.1 - q1.1) ≤ 600000; simp only [] at *; omega, by have := le1.2; have := le2.2; show h_4.2.1 + (q1.2.1 - h_4.2.1) + (q2.2.1 - q1.2.1) ≤ 7302250; simp only [] at *; omega⟩ (fun H2 locs2 hR2 hLo2 => ?_)
  refine W.eq (g2 := F0 m 457 la (mx_v (tB l D s.heap.size (fun _ => a0) s.heap (mx_tau ag)).2.1.1 v :: mx_v (tB l D s.heap.size (fun _ => a0) s.heap (mx_tau ag)).2.1.1 v :: [])) rfl ?_
  have hS2 := lw_S hR2 hLo2
  have hend := lw_end (cells := 82 + (q1.1 - h_4.1) + (q2.1 - q1.1)) (slots := h_4.2.1 + (q1.2.1 - h_4.2.1) + (q2.2.1 - q1.2.1)) (e := e) (below := below) (l := l) C0 hL6 hS2 hl (by have := le1.1; have := le2.1; simp only [] at *; omega) (by have := le1.2; have := le2.2; simp only [] at *; omega)
  obtain ⟨x, rfl⟩ := hv
  refine lv_icmp_eq (tgt := 1516) hx0 hb dl_457 (by decide) (fun _ => hend) (fun z => absurd rfl z)
set_option maxHeartbeats 4000000 in
set_option maxRecDepth 100000 in
theorem lc_8 {as : List Value} (C0 : lw_At p s m meth c b L xs) (hL : L ≤ 6) (hL6 : L = 6) (A : mx_Wx (tB l D s.heap.size (fun _ => a0) s.heap (mx_tau ag)) p s m #[Value.ref b] c code 4 R_law) (hR : mx_Rp (tB l D s.heap.size (fun _ => a0) s.heap (mx_tau ag)).2.1.1 s h_4 H) (hLo : ∀ q ∈ locs, mx_up (tB l D s.heap.size (fun _ => a0) s.heap (mx_tau ag)).2.1 q.base) (hcx : ∃ fs, mx_cell h_4 1 = some (.inl (11, fs))) (hn4 : h_4.1 = 83) (hs4 : h_4.2.1 ≤ 1000000) (hl : lv_has la 4 (lw_lv b (mx_rho (tB l D s.heap.size (fun _ => a0) s.heap (mx_tau ag)).2.1.1 1) (mx_rho (tB l D s.heap.size (fun _ => a0) s.heap (mx_tau ag)).2.1.1 56) 0))
    (has : as.map (mx_v (tB l D s.heap.size (fun _ => a0) s.heap (mx_tau ag)).2.1.1) = [.int (xs 1), .int (xs 2)]) (hlen : as.length = 2) (hTw : mx_Tw (tB l D s.heap.size (fun _ => a0) s.heap (mx_tau ag)) false 97 211 as) : W p l e room_1 s m #[Value.ref b] below meth c H locs 82 h_4.2.1 (lw_Z below #[Value.ref b] s) (F0 m 462 la []) := by
  obtain ⟨hx0, hb, hr, hml, hown, hts, hX, hbl, hlocks, hgv⟩ := id C0
  obtain ⟨v, q1, q2, fs, hc1, hc2, hcell2, hb1, hb2, hv⟩ := hTw
  have hS := lw_S hR hLo
  refine lv_aload_n hx0 hb dl_462 rfl (lv_at hl 1 rfl) ?_
  refine lw_arg C0 hS hl (j := 1) (x := 1) (by omega) hL (by decide) (by decide +kernel) dl_463 dl_464 dl_465 dl_466 dl_467 ?_
  refine lw_arg C0 hS hl (j := 2) (x := 2) (by omega) hL (by decide) (by decide +kernel) dl_468 dl_469 dl_470 dl_471 dl_472 ?_
  refine W.eq (g2 := F0 m 473 la ((as.map (mx_v (tB l D s.heap.size (fun _ => a0) s.heap (mx_tau ag)).2.1.1)).reverse ++ .ref (mx_rho (tB l D s.heap.size (fun _ => a0) s.heap (mx_tau ag)).2.1.1 1) :: [])) (by rw [has]; rfl) ?_
  obtain ⟨fs1, hcell1⟩ := hcx
  have le1 := hc1.choose_spec.2.1
  have le2 := hc2.choose_spec.2.1
  refine mx_Wcallv (B := (tB l D s.heap.size (fun _ => a0) s.heap (mx_tau ag))) (ci := 11) (r := cr_11) (n := 2) A dl_473 me_97 rfl hcell1 (tw lx_4_28 rfl) (tw lx_4_29 rfl) (tw lx_4_27 rfl) hc1 hlen hl.1 (by decide) hR hLo (by decide) (by decide) ⟨by have := le1.1; have := le2.1; show 82 + (q1.1 - h_4.1) ≤ 600000; simp only [] at *; omega, by have := le1.2; have := le2.2; show h_4.2.1 + (q1.2.1 - h_4.2.1) ≤ 7302250; simp only [] at *; omega⟩ (fun H1 locs1 hR1 hLo1 => ?_)
  have hS1 := lw_S hR1 hLo1
  clear hS
  have hS := hS1
  refine W.eq (g2 := F0 m 476 la (mx_v (tB l D s.heap.size (fun _ => a0) s.heap (mx_tau ag)).2.1.1 v :: [])) rfl ?_
  refine lv_aload_n hx0 hb dl_476 rfl (lv_at hl 2 rfl) ?_
  refine lw_arg C0 hS hl (j := 1) (x := 1) (by omega) hL (by decide) (by decide +kernel) dl_477 dl_478 dl_479 dl_480 dl_481 ?_
  refine lw_arg C0 hS hl (j := 2) (x := 2) (by omega) hL (by decide) (by decide +kernel) dl_482 dl_483 dl_484 dl_485 dl_486 ?_
  refine W.eq (g2 := F0 m 487 la ((as.map (mx_v (tB l D s.heap.size (fun _ => a0) s.heap (mx_tau ag)).2.1.1)).reverse ++ .ref (mx_rho (tB l D s.heap.size (fun _ => a0) s.heap (mx_tau ag)).2.1.1 56) :: mx_v (tB l D s.heap.size (fun _ => a0) s.heap (mx_tau ag)).2.1.1 v :: [])) (by rw [has]; rfl) ?_
  refine mx_Wcallv (B := (tB l D s.heap.size (fun _ => a0) s.heap (mx_tau ag))) (ci := 12) (r := cr_12) (n := 2) A dl_487 me_211 rfl hcell2 (tw lx_7_48 rfl) (tw lx_7_49 rfl) (tw lx_7_47 rfl) hc2 hlen hl.1 (by obtain ⟨x, rfl⟩ := hv; exact Nat.le_of_ble_eq_true rfl) hR1 hLo1 (by decide) (by decide) ⟨by have := le1.1; have := le2.1; show 82 + (q1.1 - h_4.1) + (q2.1 - q1.1) ≤ 600000; simp only [] at *; omega, by have := le1.2; have := le2.2; show h_4.2.1 + (q1.2.1 - h_4.2.1) + (q2.2.1 - q1.2.1) ≤ 7302250; simp only [] at *; omega⟩ (fun H2 locs2 hR2 hLo2 => ?_)
  refine W.eq (g2 := F0 m 490 la (mx_v (tB l D s.heap.size (fun _ => a0) s.heap (mx_tau ag)).2.1.1 v :: mx_v (tB l D s.heap.size (fun _ => a0) s.heap (mx_tau ag)).2.1.1 v :: [])) rfl ?_
  have hS2 := lw_S hR2 hLo2
  have hend := lw_end (cells := 82 + (q1.1 - h_4.1) + (q2.1 - q1.1)) (slots := h_4.2.1 + (q1.2.1 - h_4.2.1) + (q2.2.1 - q1.2.1)) (e := e) (below := below) (l := l) C0 hL6 hS2 hl (by have := le1.1; have := le2.1; simp only [] at *; omega) (by have := le1.2; have := le2.2; simp only [] at *; omega)
  obtain ⟨x, rfl⟩ := hv
  refine lv_icmp_eq (tgt := 1516) hx0 hb dl_490 (by decide) (fun _ => hend) (fun z => absurd rfl z)
set_option maxHeartbeats 4000000 in
set_option maxRecDepth 100000 in
theorem lc_9 {as : List Value} (C0 : lw_At p s m meth c b L xs) (hL : L ≤ 6) (hL6 : L = 6) (A : mx_Wx (tB l D s.heap.size (fun _ => a0) s.heap (mx_tau ag)) p s m #[Value.ref b] c code 4 R_law) (hR : mx_Rp (tB l D s.heap.size (fun _ => a0) s.heap (mx_tau ag)).2.1.1 s h_4 H) (hLo : ∀ q ∈ locs, mx_up (tB l D s.heap.size (fun _ => a0) s.heap (mx_tau ag)).2.1 q.base) (hcx : ∃ fs, mx_cell h_4 1 = some (.inl (11, fs))) (hn4 : h_4.1 = 83) (hs4 : h_4.2.1 ≤ 1000000) (hl : lv_has la 4 (lw_lv b (mx_rho (tB l D s.heap.size (fun _ => a0) s.heap (mx_tau ag)).2.1.1 1) (mx_rho (tB l D s.heap.size (fun _ => a0) s.heap (mx_tau ag)).2.1.1 56) 0))
    (has : as.map (mx_v (tB l D s.heap.size (fun _ => a0) s.heap (mx_tau ag)).2.1.1) = [.int (xs 1), .int (xs 2)]) (hlen : as.length = 2) (hTw : mx_Tw (tB l D s.heap.size (fun _ => a0) s.heap (mx_tau ag)) false 98 214 as) : W p l e room_1 s m #[Value.ref b] below meth c H locs 82 h_4.2.1 (lw_Z below #[Value.ref b] s) (F0 m 495 la []) := by
  obtain ⟨hx0, hb, hr, hml, hown, hts, hX, hbl, hlocks, hgv⟩ := id C0
  obtain ⟨v, q1, q2, fs, hc1, hc2, hcell2, hb1, hb2, hv⟩ := hTw
  have hS := lw_S hR hLo
  refine lv_aload_n hx0 hb dl_495 rfl (lv_at hl 1 rfl) ?_
  refine lw_arg C0 hS hl (j := 1) (x := 1) (by omega) hL (by decide) (by decide +kernel) dl_496 dl_497 dl_498 dl_499 dl_500 ?_
  refine lw_arg C0 hS hl (j := 2) (x := 2) (by omega) hL (by decide) (by decide +kernel) dl_501 dl_502 dl_503 dl_504 dl_505 ?_
  refine W.eq (g2 := F0 m 506 la ((as.map (mx_v (tB l D s.heap.size (fun _ => a0) s.heap (mx_tau ag)).2.1.1)).reverse ++ .ref (mx_rho (tB l D s.heap.size (fun _ => a0) s.heap (mx_tau ag)).2.1.1 1) :: [])) (by rw [has]; rfl) ?_
  obtain ⟨fs1, hcell1⟩ := hcx
  have le1 := hc1.choose_spec.2.1
  have le2 := hc2.choose_spec.2.1
  refine mx_Wcallv (B := (tB l D s.heap.size (fun _ => a0) s.heap (mx_tau ag))) (ci := 11) (r := cr_11) (n := 2) A dl_506 me_98 rfl hcell1 (tw lx_4_41 rfl) (tw lx_4_42 rfl) (tw lx_4_40 rfl) hc1 hlen hl.1 (by decide) hR hLo (by decide) (by decide) ⟨by have := le1.1; have := le2.1; show 82 + (q1.1 - h_4.1) ≤ 600000; simp only [] at *; omega, by have := le1.2; have := le2.2; show h_4.2.1 + (q1.2.1 - h_4.2.1) ≤ 7302250; simp only [] at *; omega⟩ (fun H1 locs1 hR1 hLo1 => ?_)
  have hS1 := lw_S hR1 hLo1
  clear hS
  have hS := hS1
  refine W.eq (g2 := F0 m 509 la (mx_v (tB l D s.heap.size (fun _ => a0) s.heap (mx_tau ag)).2.1.1 v :: [])) rfl ?_
  refine lv_aload_n hx0 hb dl_509 rfl (lv_at hl 2 rfl) ?_
  refine lw_arg C0 hS hl (j := 1) (x := 1) (by omega) hL (by decide) (by decide +kernel) dl_510 dl_511 dl_512 dl_513 dl_514 ?_
  refine lw_arg C0 hS hl (j := 2) (x := 2) (by omega) hL (by decide) (by decide +kernel) dl_515 dl_516 dl_517 dl_518 dl_519 ?_
  refine W.eq (g2 := F0 m 520 la ((as.map (mx_v (tB l D s.heap.size (fun _ => a0) s.heap (mx_tau ag)).2.1.1)).reverse ++ .ref (mx_rho (tB l D s.heap.size (fun _ => a0) s.heap (mx_tau ag)).2.1.1 56) :: mx_v (tB l D s.heap.size (fun _ => a0) s.heap (mx_tau ag)).2.1.1 v :: [])) (by rw [has]; rfl) ?_
  refine mx_Wcallv (B := (tB l D s.heap.size (fun _ => a0) s.heap (mx_tau ag))) (ci := 12) (r := cr_12) (n := 2) A dl_520 me_214 rfl hcell2 (tw lx_7_67 rfl) (tw lx_7_68 rfl) (tw lx_7_66 rfl) hc2 hlen hl.1 (by obtain ⟨x, rfl⟩ := hv; exact Nat.le_of_ble_eq_true rfl) hR1 hLo1 (by decide) (by decide) ⟨by have := le1.1; have := le2.1; show 82 + (q1.1 - h_4.1) + (q2.1 - q1.1) ≤ 600000; simp only [] at *; omega, by have := le1.2; have := le2.2; show h_4.2.1 + (q1.2.1 - h_4.2.1) + (q2.2.1 - q1.2.1) ≤ 7302250; simp only [] at *; omega⟩ (fun H2 locs2 hR2 hLo2 => ?_)
  refine W.eq (g2 := F0 m 523 la (mx_v (tB l D s.heap.size (fun _ => a0) s.heap (mx_tau ag)).2.1.1 v :: mx_v (tB l D s.heap.size (fun _ => a0) s.heap (mx_tau ag)).2.1.1 v :: [])) rfl ?_
  have hS2 := lw_S hR2 hLo2
  have hend := lw_end (cells := 82 + (q1.1 - h_4.1) + (q2.1 - q1.1)) (slots := h_4.2.1 + (q1.2.1 - h_4.2.1) + (q2.2.1 - q1.2.1)) (e := e) (below := below) (l := l) C0 hL6 hS2 hl (by have := le1.1; have := le2.1; simp only [] at *; omega) (by have := le1.2; have := le2.2; simp only [] at *; omega)
  obtain ⟨x, rfl⟩ := hv
  refine lv_icmp_eq (tgt := 1516) hx0 hb dl_523 (by decide) (fun _ => hend) (fun z => absurd rfl z)
set_option maxHeartbeats 4000000 in
set_option maxRecDepth 100000 in
theorem lc_10 {as : List Value} (C0 : lw_At p s m meth c b L xs) (hL : L ≤ 6) (hL6 : L = 6) (A : mx_Wx (tB l D s.heap.size (fun _ => a0) s.heap (mx_tau ag)) p s m #[Value.ref b] c code 4 R_law) (hR : mx_Rp (tB l D s.heap.size (fun _ => a0) s.heap (mx_tau ag)).2.1.1 s h_4 H) (hLo : ∀ q ∈ locs, mx_up (tB l D s.heap.size (fun _ => a0) s.heap (mx_tau ag)).2.1 q.base) (hcx : ∃ fs, mx_cell h_4 1 = some (.inl (11, fs))) (hn4 : h_4.1 = 83) (hs4 : h_4.2.1 ≤ 1000000) (hl : lv_has la 4 (lw_lv b (mx_rho (tB l D s.heap.size (fun _ => a0) s.heap (mx_tau ag)).2.1.1 1) (mx_rho (tB l D s.heap.size (fun _ => a0) s.heap (mx_tau ag)).2.1.1 56) 0))
    (has : as.map (mx_v (tB l D s.heap.size (fun _ => a0) s.heap (mx_tau ag)).2.1.1) = [.int (xs 1)]) (hlen : as.length = 1) (hTw : mx_Tw (tB l D s.heap.size (fun _ => a0) s.heap (mx_tau ag)) false 99 215 as) : W p l e room_1 s m #[Value.ref b] below meth c H locs 82 h_4.2.1 (lw_Z below #[Value.ref b] s) (F0 m 528 la []) := by
  obtain ⟨hx0, hb, hr, hml, hown, hts, hX, hbl, hlocks, hgv⟩ := id C0
  obtain ⟨v, q1, q2, fs, hc1, hc2, hcell2, hb1, hb2, hv⟩ := hTw
  have hS := lw_S hR hLo
  refine lv_aload_n hx0 hb dl_528 rfl (lv_at hl 1 rfl) ?_
  refine lw_arg C0 hS hl (j := 1) (x := 1) (by omega) hL (by decide) (by decide +kernel) dl_529 dl_530 dl_531 dl_532 dl_533 ?_
  refine W.eq (g2 := F0 m 534 la ((as.map (mx_v (tB l D s.heap.size (fun _ => a0) s.heap (mx_tau ag)).2.1.1)).reverse ++ .ref (mx_rho (tB l D s.heap.size (fun _ => a0) s.heap (mx_tau ag)).2.1.1 1) :: [])) (by rw [has]; rfl) ?_
  obtain ⟨fs1, hcell1⟩ := hcx
  have le1 := hc1.choose_spec.2.1
  have le2 := hc2.choose_spec.2.1
  refine mx_Wcallv (B := (tB l D s.heap.size (fun _ => a0) s.heap (mx_tau ag))) (ci := 11) (r := cr_11) (n := 1) A dl_534 me_99 rfl hcell1 (tw lx_4_49 rfl) (tw lx_4_50 rfl) (tw lx_4_48 rfl) hc1 hlen hl.1 (by decide) hR hLo (by decide) (by decide) ⟨by have := le1.1; have := le2.1; show 82 + (q1.1 - h_4.1) ≤ 600000; simp only [] at *; omega, by have := le1.2; have := le2.2; show h_4.2.1 + (q1.2.1 - h_4.2.1) ≤ 7302250; simp only [] at *; omega⟩ (fun H1 locs1 hR1 hLo1 => ?_)
  have hS1 := lw_S hR1 hLo1
  clear hS
  have hS := hS1
  refine W.eq (g2 := F0 m 537 la (mx_v (tB l D s.heap.size (fun _ => a0) s.heap (mx_tau ag)).2.1.1 v :: [])) rfl ?_
  refine lv_aload_n hx0 hb dl_537 rfl (lv_at hl 2 rfl) ?_
  refine lw_arg C0 hS hl (j := 1) (x := 1) (by omega) hL (by decide) (by decide +kernel) dl_538 dl_539 dl_540 dl_541 dl_542 ?_
  refine W.eq (g2 := F0 m 543 la ((as.map (mx_v (tB l D s.heap.size (fun _ => a0) s.heap (mx_tau ag)).2.1.1)).reverse ++ .ref (mx_rho (tB l D s.heap.size (fun _ => a0) s.heap (mx_tau ag)).2.1.1 56) :: mx_v (tB l D s.heap.size (fun _ => a0) s.heap (mx_tau ag)).2.1.1 v :: [])) (by rw [has]; rfl) ?_
  refine mx_Wcallv (B := (tB l D s.heap.size (fun _ => a0) s.heap (mx_tau ag))) (ci := 12) (r := cr_12) (n := 1) A dl_543 me_215 rfl hcell2 (tw lx_7_79 rfl) (tw lx_7_80 rfl) (tw lx_7_78 rfl) hc2 hlen hl.1 (by obtain ⟨x, rfl⟩ := hv; exact Nat.le_of_ble_eq_true rfl) hR1 hLo1 (by decide) (by decide) ⟨by have := le1.1; have := le2.1; show 82 + (q1.1 - h_4.1) + (q2.1 - q1.1) ≤ 600000; simp only [] at *; omega, by have := le1.2; have := le2.2; show h_4.2.1 + (q1.2.1 - h_4.2.1) + (q2.2.1 - q1.2.1) ≤ 7302250; simp only [] at *; omega⟩ (fun H2 locs2 hR2 hLo2 => ?_)
  refine W.eq (g2 := F0 m 546 la (mx_v (tB l D s.heap.size (fun _ => a0) s.heap (mx_tau ag)).2.1.1 v :: mx_v (tB l D s.heap.size (fun _ => a0) s.heap (mx_tau ag)).2.1.1 v :: [])) rfl ?_
  have hS2 := lw_S hR2 hLo2
  have hend := lw_end (cells := 82 + (q1.1 - h_4.1) + (q2.1 - q1.1)) (slots := h_4.2.1 + (q1.2.1 - h_4.2.1) + (q2.2.1 - q1.2.1)) (e := e) (below := below) (l := l) C0 hL6 hS2 hl (by have := le1.1; have := le2.1; simp only [] at *; omega) (by have := le1.2; have := le2.2; simp only [] at *; omega)
  obtain ⟨x, rfl⟩ := hv
  refine lv_icmp_eq (tgt := 1516) hx0 hb dl_546 (by decide) (fun _ => hend) (fun z => absurd rfl z)
set_option maxHeartbeats 4000000 in
set_option maxRecDepth 100000 in
theorem lc_11 {as : List Value} (C0 : lw_At p s m meth c b L xs) (hL : L ≤ 6) (hL6 : L = 6) (A : mx_Wx (tB l D s.heap.size (fun _ => a0) s.heap (mx_tau ag)) p s m #[Value.ref b] c code 4 R_law) (hR : mx_Rp (tB l D s.heap.size (fun _ => a0) s.heap (mx_tau ag)).2.1.1 s h_4 H) (hLo : ∀ q ∈ locs, mx_up (tB l D s.heap.size (fun _ => a0) s.heap (mx_tau ag)).2.1 q.base) (hcx : ∃ fs, mx_cell h_4 1 = some (.inl (11, fs))) (hn4 : h_4.1 = 83) (hs4 : h_4.2.1 ≤ 1000000) (hl : lv_has la 4 (lw_lv b (mx_rho (tB l D s.heap.size (fun _ => a0) s.heap (mx_tau ag)).2.1.1 1) (mx_rho (tB l D s.heap.size (fun _ => a0) s.heap (mx_tau ag)).2.1.1 56) 0))
    (has : as.map (mx_v (tB l D s.heap.size (fun _ => a0) s.heap (mx_tau ag)).2.1.1) = [.int (xs 1)]) (hlen : as.length = 1) (hTw : mx_Tw (tB l D s.heap.size (fun _ => a0) s.heap (mx_tau ag)) false 100 216 as) : W p l e room_1 s m #[Value.ref b] below meth c H locs 82 h_4.2.1 (lw_Z below #[Value.ref b] s) (F0 m 551 la []) := by
  obtain ⟨hx0, hb, hr, hml, hown, hts, hX, hbl, hlocks, hgv⟩ := id C0
  obtain ⟨v, q1, q2, fs, hc1, hc2, hcell2, hb1, hb2, hv⟩ := hTw
  have hS := lw_S hR hLo
  refine lv_aload_n hx0 hb dl_551 rfl (lv_at hl 1 rfl) ?_
  refine lw_arg C0 hS hl (j := 1) (x := 1) (by omega) hL (by decide) (by decide +kernel) dl_552 dl_553 dl_554 dl_555 dl_556 ?_
  refine W.eq (g2 := F0 m 557 la ((as.map (mx_v (tB l D s.heap.size (fun _ => a0) s.heap (mx_tau ag)).2.1.1)).reverse ++ .ref (mx_rho (tB l D s.heap.size (fun _ => a0) s.heap (mx_tau ag)).2.1.1 1) :: [])) (by rw [has]; rfl) ?_
  obtain ⟨fs1, hcell1⟩ := hcx
  have le1 := hc1.choose_spec.2.1
  have le2 := hc2.choose_spec.2.1
  refine mx_Wcallv (B := (tB l D s.heap.size (fun _ => a0) s.heap (mx_tau ag))) (ci := 11) (r := cr_11) (n := 1) A dl_557 me_100 rfl hcell1 (tw lx_4_57 rfl) (tw lx_4_58 rfl) (tw lx_4_56 rfl) hc1 hlen hl.1 (by decide) hR hLo (by decide) (by decide) ⟨by have := le1.1; have := le2.1; show 82 + (q1.1 - h_4.1) ≤ 600000; simp only [] at *; omega, by have := le1.2; have := le2.2; show h_4.2.1 + (q1.2.1 - h_4.2.1) ≤ 7302250; simp only [] at *; omega⟩ (fun H1 locs1 hR1 hLo1 => ?_)
  have hS1 := lw_S hR1 hLo1
  clear hS
  have hS := hS1
  refine W.eq (g2 := F0 m 560 la (mx_v (tB l D s.heap.size (fun _ => a0) s.heap (mx_tau ag)).2.1.1 v :: [])) rfl ?_
  refine lv_aload_n hx0 hb dl_560 rfl (lv_at hl 2 rfl) ?_
  refine lw_arg C0 hS hl (j := 1) (x := 1) (by omega) hL (by decide) (by decide +kernel) dl_561 dl_562 dl_563 dl_564 dl_565 ?_
  refine W.eq (g2 := F0 m 566 la ((as.map (mx_v (tB l D s.heap.size (fun _ => a0) s.heap (mx_tau ag)).2.1.1)).reverse ++ .ref (mx_rho (tB l D s.heap.size (fun _ => a0) s.heap (mx_tau ag)).2.1.1 56) :: mx_v (tB l D s.heap.size (fun _ => a0) s.heap (mx_tau ag)).2.1.1 v :: [])) (by rw [has]; rfl) ?_
  refine mx_Wcallv (B := (tB l D s.heap.size (fun _ => a0) s.heap (mx_tau ag))) (ci := 12) (r := cr_12) (n := 1) A dl_566 me_216 rfl hcell2 (tw lx_7_84 rfl) (tw lx_7_85 rfl) (tw lx_7_83 rfl) hc2 hlen hl.1 (by obtain ⟨x, rfl⟩ := hv; exact Nat.le_of_ble_eq_true rfl) hR1 hLo1 (by decide) (by decide) ⟨by have := le1.1; have := le2.1; show 82 + (q1.1 - h_4.1) + (q2.1 - q1.1) ≤ 600000; simp only [] at *; omega, by have := le1.2; have := le2.2; show h_4.2.1 + (q1.2.1 - h_4.2.1) + (q2.2.1 - q1.2.1) ≤ 7302250; simp only [] at *; omega⟩ (fun H2 locs2 hR2 hLo2 => ?_)
  refine W.eq (g2 := F0 m 569 la (mx_v (tB l D s.heap.size (fun _ => a0) s.heap (mx_tau ag)).2.1.1 v :: mx_v (tB l D s.heap.size (fun _ => a0) s.heap (mx_tau ag)).2.1.1 v :: [])) rfl ?_
  have hS2 := lw_S hR2 hLo2
  have hend := lw_end (cells := 82 + (q1.1 - h_4.1) + (q2.1 - q1.1)) (slots := h_4.2.1 + (q1.2.1 - h_4.2.1) + (q2.2.1 - q1.2.1)) (e := e) (below := below) (l := l) C0 hL6 hS2 hl (by have := le1.1; have := le2.1; simp only [] at *; omega) (by have := le1.2; have := le2.2; simp only [] at *; omega)
  obtain ⟨x, rfl⟩ := hv
  refine lv_icmp_eq (tgt := 1516) hx0 hb dl_569 (by decide) (fun _ => hend) (fun z => absurd rfl z)
set_option maxHeartbeats 4000000 in
set_option maxRecDepth 100000 in
theorem lc_12 {as : List Value} (C0 : lw_At p s m meth c b L xs) (hL : L ≤ 6) (hL6 : L = 6) (A : mx_Wx (tB l D s.heap.size (fun _ => a0) s.heap (mx_tau ag)) p s m #[Value.ref b] c code 4 R_law) (hR : mx_Rp (tB l D s.heap.size (fun _ => a0) s.heap (mx_tau ag)).2.1.1 s h_4 H) (hLo : ∀ q ∈ locs, mx_up (tB l D s.heap.size (fun _ => a0) s.heap (mx_tau ag)).2.1 q.base) (hcx : ∃ fs, mx_cell h_4 1 = some (.inl (11, fs))) (hn4 : h_4.1 = 83) (hs4 : h_4.2.1 ≤ 1000000) (hl : lv_has la 4 (lw_lv b (mx_rho (tB l D s.heap.size (fun _ => a0) s.heap (mx_tau ag)).2.1.1 1) (mx_rho (tB l D s.heap.size (fun _ => a0) s.heap (mx_tau ag)).2.1.1 56) 0))
    (has : as.map (mx_v (tB l D s.heap.size (fun _ => a0) s.heap (mx_tau ag)).2.1.1) = [.int (xs 1), .int (xs 2)]) (hlen : as.length = 2) (hTw : mx_Tw (tB l D s.heap.size (fun _ => a0) s.heap (mx_tau ag)) false 101 221 as) : W p l e room_1 s m #[Value.ref b] below meth c H locs 82 h_4.2.1 (lw_Z below #[Value.ref b] s) (F0 m 574 la []) := by
  obtain ⟨hx0, hb, hr, hml, hown, hts, hX, hbl, hlocks, hgv⟩ := id C0
  obtain ⟨v, q1, q2, fs, hc1, hc2, hcell2, hb1, hb2, hv⟩ := hTw
  have hS := lw_S hR hLo
  refine lv_aload_n hx0 hb dl_574 rfl (lv_at hl 1 rfl) ?_
  refine lw_arg C0 hS hl (j := 1) (x := 1) (by omega) hL (by decide) (by decide +kernel) dl_575 dl_576 dl_577 dl_578 dl_579 ?_
  refine lw_arg C0 hS hl (j := 2) (x := 2) (by omega) hL (by decide) (by decide +kernel) dl_580 dl_581 dl_582 dl_583 dl_584 ?_
  refine W.eq (g2 := F0 m 585 la ((as.map (mx_v (tB l D s.heap.size (fun _ => a0) s.heap (mx_tau ag)).2.1.1)).reverse ++ .ref (mx_rho (tB l D s.heap.size (fun _ => a0) s.heap (mx_tau ag)).2.1.1 1) :: [])) (by rw [has]; rfl) ?_
  obtain ⟨fs1, hcell1⟩ := hcx
  have le1 := hc1.choose_spec.2.1
  have le2 := hc2.choose_spec.2.1
  refine mx_Wcallv (B := (tB l D s.heap.size (fun _ => a0) s.heap (mx_tau ag))) (ci := 11) (r := cr_11) (n := 2) A dl_585 me_101 rfl hcell1 (tw lx_4_65 rfl) (tw lx_4_66 rfl) (tw lx_4_64 rfl) hc1 hlen hl.1 (by decide) hR hLo (by decide) (by decide) ⟨by have := le1.1; have := le2.1; show 82 + (q1.1 - h_4.1) ≤ 600000; simp only [] at *; omega, by have := le1.2; have := le2.2; show h_4.2.1 + (q1.2.1 - h_4.2.1) ≤ 7302250; simp only [] at *; omega⟩ (fun H1 locs1 hR1 hLo1 => ?_)
  have hS1 := lw_S hR1 hLo1
  clear hS
  have hS := hS1
  refine W.eq (g2 := F0 m 588 la (mx_v (tB l D s.heap.size (fun _ => a0) s.heap (mx_tau ag)).2.1.1 v :: [])) rfl ?_
  refine lv_aload_n hx0 hb dl_588 rfl (lv_at hl 2 rfl) ?_
  refine lw_arg C0 hS hl (j := 1) (x := 1) (by omega) hL (by decide) (by decide +kernel) dl_589 dl_590 dl_591 dl_592 dl_593 ?_
  refine lw_arg C0 hS hl (j := 2) (x := 2) (by omega) hL (by decide) (by decide +kernel) dl_594 dl_595 dl_596 dl_597 dl_598 ?_
  refine W.eq (g2 := F0 m 599 la ((as.map (mx_v (tB l D s.heap.size (fun _ => a0) s.heap (mx_tau ag)).2.1.1)).reverse ++ .ref (mx_rho (tB l D s.heap.size (fun _ => a0) s.heap (mx_tau ag)).2.1.1 56) :: mx_v (tB l D s.heap.size (fun _ => a0) s.heap (mx_tau ag)).2.1.1 v :: [])) (by rw [has]; rfl) ?_
  refine mx_Wcallv (B := (tB l D s.heap.size (fun _ => a0) s.heap (mx_tau ag))) (ci := 12) (r := cr_12) (n := 2) A dl_599 me_221 rfl hcell2 (tw lx_7_89 rfl) (tw lx_7_90 rfl) (tw lx_7_88 rfl) hc2 hlen hl.1 (by obtain ⟨x, rfl⟩ := hv; exact Nat.le_of_ble_eq_true rfl) hR1 hLo1 (by decide) (by decide) ⟨by have := le1.1; have := le2.1; show 82 + (q1.1 - h_4.1) + (q2.1 - q1.1) ≤ 600000; simp only [] at *; omega, by have := le1.2; have := le2.2; show h_4.2.1 + (q1.2.1 - h_4.2.1) + (q2.2.1 - q1.2.1) ≤ 7302250; simp only [] at *; omega⟩ (fun H2 locs2 hR2 hLo2 => ?_)
  refine W.eq (g2 := F0 m 602 la (mx_v (tB l D s.heap.size (fun _ => a0) s.heap (mx_tau ag)).2.1.1 v :: mx_v (tB l D s.heap.size (fun _ => a0) s.heap (mx_tau ag)).2.1.1 v :: [])) rfl ?_
  have hS2 := lw_S hR2 hLo2
  have hend := lw_end (cells := 82 + (q1.1 - h_4.1) + (q2.1 - q1.1)) (slots := h_4.2.1 + (q1.2.1 - h_4.2.1) + (q2.2.1 - q1.2.1)) (e := e) (below := below) (l := l) C0 hL6 hS2 hl (by have := le1.1; have := le2.1; simp only [] at *; omega) (by have := le1.2; have := le2.2; simp only [] at *; omega)
  obtain ⟨x, rfl⟩ := hv
  refine lv_icmp_eq (tgt := 1516) hx0 hb dl_602 (by decide) (fun _ => hend) (fun z => absurd rfl z)
set_option maxHeartbeats 4000000 in
set_option maxRecDepth 100000 in
theorem lc_13 {as : List Value} (C0 : lw_At p s m meth c b L xs) (hL : L ≤ 6) (hL6 : L = 6) (A : mx_Wx (tB l D s.heap.size (fun _ => a0) s.heap (mx_tau ag)) p s m #[Value.ref b] c code 4 R_law) (hR : mx_Rp (tB l D s.heap.size (fun _ => a0) s.heap (mx_tau ag)).2.1.1 s h_4 H) (hLo : ∀ q ∈ locs, mx_up (tB l D s.heap.size (fun _ => a0) s.heap (mx_tau ag)).2.1 q.base) (hcx : ∃ fs, mx_cell h_4 1 = some (.inl (11, fs))) (hn4 : h_4.1 = 83) (hs4 : h_4.2.1 ≤ 1000000) (hl : lv_has la 4 (lw_lv b (mx_rho (tB l D s.heap.size (fun _ => a0) s.heap (mx_tau ag)).2.1.1 1) (mx_rho (tB l D s.heap.size (fun _ => a0) s.heap (mx_tau ag)).2.1.1 56) 0))
    (has : as.map (mx_v (tB l D s.heap.size (fun _ => a0) s.heap (mx_tau ag)).2.1.1) = [.int (xs 1)]) (hlen : as.length = 1) (hTw : mx_Tw (tB l D s.heap.size (fun _ => a0) s.heap (mx_tau ag)) false 102 222 as) : W p l e room_1 s m #[Value.ref b] below meth c H locs 82 h_4.2.1 (lw_Z below #[Value.ref b] s) (F0 m 607 la []) := by
  obtain ⟨hx0, hb, hr, hml, hown, hts, hX, hbl, hlocks, hgv⟩ := id C0
  obtain ⟨v, q1, q2, fs, hc1, hc2, hcell2, hb1, hb2, hv⟩ := hTw
  have hS := lw_S hR hLo
  refine lv_aload_n hx0 hb dl_607 rfl (lv_at hl 1 rfl) ?_
  refine lw_arg C0 hS hl (j := 1) (x := 1) (by omega) hL (by decide) (by decide +kernel) dl_608 dl_609 dl_610 dl_611 dl_612 ?_
  refine W.eq (g2 := F0 m 613 la ((as.map (mx_v (tB l D s.heap.size (fun _ => a0) s.heap (mx_tau ag)).2.1.1)).reverse ++ .ref (mx_rho (tB l D s.heap.size (fun _ => a0) s.heap (mx_tau ag)).2.1.1 1) :: [])) (by rw [has]; rfl) ?_
  obtain ⟨fs1, hcell1⟩ := hcx
  have le1 := hc1.choose_spec.2.1
  have le2 := hc2.choose_spec.2.1
  refine mx_Wcallv (B := (tB l D s.heap.size (fun _ => a0) s.heap (mx_tau ag))) (ci := 11) (r := cr_11) (n := 1) A dl_613 me_102 rfl hcell1 (tw lx_4_86 rfl) (tw lx_4_87 rfl) (tw lx_4_85 rfl) hc1 hlen hl.1 (by decide) hR hLo (by decide) (by decide) ⟨by have := le1.1; have := le2.1; show 82 + (q1.1 - h_4.1) ≤ 600000; simp only [] at *; omega, by have := le1.2; have := le2.2; show h_4.2.1 + (q1.2.1 - h_4.2.1) ≤ 7302250; simp only [] at *; omega⟩ (fun H1 locs1 hR1 hLo1 => ?_)
  have hS1 := lw_S hR1 hLo1
  clear hS
  have hS := hS1
  refine W.eq (g2 := F0 m 616 la (mx_v (tB l D s.heap.size (fun _ => a0) s.heap (mx_tau ag)).2.1.1 v :: [])) rfl ?_
  refine lv_aload_n hx0 hb dl_616 rfl (lv_at hl 2 rfl) ?_
  refine lw_arg C0 hS hl (j := 1) (x := 1) (by omega) hL (by decide) (by decide +kernel) dl_617 dl_618 dl_619 dl_620 dl_621 ?_
  refine W.eq (g2 := F0 m 622 la ((as.map (mx_v (tB l D s.heap.size (fun _ => a0) s.heap (mx_tau ag)).2.1.1)).reverse ++ .ref (mx_rho (tB l D s.heap.size (fun _ => a0) s.heap (mx_tau ag)).2.1.1 56) :: mx_v (tB l D s.heap.size (fun _ => a0) s.heap (mx_tau ag)).2.1.1 v :: [])) (by rw [has]; rfl) ?_
  refine mx_Wcallv (B := (tB l D s.heap.size (fun _ => a0) s.heap (mx_tau ag))) (ci := 12) (r := cr_12) (n := 1) A dl_622 me_222 rfl hcell2 (tw lx_7_120 rfl) (tw lx_7_121 rfl) (tw lx_7_119 rfl) hc2 hlen hl.1 (by obtain ⟨x, rfl⟩ := hv; exact Nat.le_of_ble_eq_true rfl) hR1 hLo1 (by decide) (by decide) ⟨by have := le1.1; have := le2.1; show 82 + (q1.1 - h_4.1) + (q2.1 - q1.1) ≤ 600000; simp only [] at *; omega, by have := le1.2; have := le2.2; show h_4.2.1 + (q1.2.1 - h_4.2.1) + (q2.2.1 - q1.2.1) ≤ 7302250; simp only [] at *; omega⟩ (fun H2 locs2 hR2 hLo2 => ?_)
  refine W.eq (g2 := F0 m 625 la (mx_v (tB l D s.heap.size (fun _ => a0) s.heap (mx_tau ag)).2.1.1 v :: mx_v (tB l D s.heap.size (fun _ => a0) s.heap (mx_tau ag)).2.1.1 v :: [])) rfl ?_
  have hS2 := lw_S hR2 hLo2
  have hend := lw_end (cells := 82 + (q1.1 - h_4.1) + (q2.1 - q1.1)) (slots := h_4.2.1 + (q1.2.1 - h_4.2.1) + (q2.2.1 - q1.2.1)) (e := e) (below := below) (l := l) C0 hL6 hS2 hl (by have := le1.1; have := le2.1; simp only [] at *; omega) (by have := le1.2; have := le2.2; simp only [] at *; omega)
  obtain ⟨x, rfl⟩ := hv
  refine lv_icmp_eq (tgt := 1516) hx0 hb dl_625 (by decide) (fun _ => hend) (fun z => absurd rfl z)
set_option maxHeartbeats 4000000 in
set_option maxRecDepth 100000 in
theorem lc_14 {as : List Value} (C0 : lw_At p s m meth c b L xs) (hL : L ≤ 6) (hL6 : L = 6) (A : mx_Wx (tB l D s.heap.size (fun _ => a0) s.heap (mx_tau ag)) p s m #[Value.ref b] c code 4 R_law) (hR : mx_Rp (tB l D s.heap.size (fun _ => a0) s.heap (mx_tau ag)).2.1.1 s h_4 H) (hLo : ∀ q ∈ locs, mx_up (tB l D s.heap.size (fun _ => a0) s.heap (mx_tau ag)).2.1 q.base) (hcx : ∃ fs, mx_cell h_4 1 = some (.inl (11, fs))) (hn4 : h_4.1 = 83) (hs4 : h_4.2.1 ≤ 1000000) (hl : lv_has la 4 (lw_lv b (mx_rho (tB l D s.heap.size (fun _ => a0) s.heap (mx_tau ag)).2.1.1 1) (mx_rho (tB l D s.heap.size (fun _ => a0) s.heap (mx_tau ag)).2.1.1 56) 0))
    (has : as.map (mx_v (tB l D s.heap.size (fun _ => a0) s.heap (mx_tau ag)).2.1.1) = [.int (xs 1), .int (xs 2)]) (hlen : as.length = 2) (hTw : mx_Tw (tB l D s.heap.size (fun _ => a0) s.heap (mx_tau ag)) false 103 225 as) : W p l e room_1 s m #[Value.ref b] below meth c H locs 82 h_4.2.1 (lw_Z below #[Value.ref b] s) (F0 m 630 la []) := by
  obtain ⟨hx0, hb, hr, hml, hown, hts, hX, hbl, hlocks, hgv⟩ := id C0
  obtain ⟨v, q1, q2, fs, hc1, hc2, hcell2, hb1, hb2, hv⟩ := hTw
  have hS := lw_S hR hLo
  refine lv_aload_n hx0 hb dl_630 rfl (lv_at hl 1 rfl) ?_
  refine lw_arg C0 hS hl (j := 1) (x := 1) (by omega) hL (by decide) (by decide +kernel) dl_631 dl_632 dl_633 dl_634 dl_635 ?_
  refine lw_arg C0 hS hl (j := 2) (x := 2) (by omega) hL (by decide) (by decide +kernel) dl_636 dl_637 dl_638 dl_639 dl_640 ?_
  refine W.eq (g2 := F0 m 641 la ((as.map (mx_v (tB l D s.heap.size (fun _ => a0) s.heap (mx_tau ag)).2.1.1)).reverse ++ .ref (mx_rho (tB l D s.heap.size (fun _ => a0) s.heap (mx_tau ag)).2.1.1 1) :: [])) (by rw [has]; rfl) ?_
  obtain ⟨fs1, hcell1⟩ := hcx
  have le1 := hc1.choose_spec.2.1
  have le2 := hc2.choose_spec.2.1
  refine mx_Wcallv (B := (tB l D s.heap.size (fun _ => a0) s.heap (mx_tau ag))) (ci := 11) (r := cr_11) (n := 2) A dl_641 me_103 rfl hcell1 (tw lx_4_90 rfl) (tw lx_4_91 rfl) (tw lx_4_89 rfl) hc1 hlen hl.1 (by decide) hR hLo (by decide) (by decide) ⟨by have := le1.1; have := le2.1; show 82 + (q1.1 - h_4.1) ≤ 600000; simp only [] at *; omega, by have := le1.2; have := le2.2; show h_4.2.1 + (q1.2.1 - h_4.2.1) ≤ 7302250; simp only [] at *; omega⟩ (fun H1 locs1 hR1 hLo1 => ?_)
  have hS1 := lw_S hR1 hLo1
  clear hS
  have hS := hS1
  refine W.eq (g2 := F0 m 644 la (mx_v (tB l D s.heap.size (fun _ => a0) s.heap (mx_tau ag)).2.1.1 v :: [])) rfl ?_
  refine lv_aload_n hx0 hb dl_644 rfl (lv_at hl 2 rfl) ?_
  refine lw_arg C0 hS hl (j := 1) (x := 1) (by omega) hL (by decide) (by decide +kernel) dl_645 dl_646 dl_647 dl_648 dl_649 ?_
  refine lw_arg C0 hS hl (j := 2) (x := 2) (by omega) hL (by decide) (by decide +kernel) dl_650 dl_651 dl_652 dl_653 dl_654 ?_
  refine W.eq (g2 := F0 m 655 la ((as.map (mx_v (tB l D s.heap.size (fun _ => a0) s.heap (mx_tau ag)).2.1.1)).reverse ++ .ref (mx_rho (tB l D s.heap.size (fun _ => a0) s.heap (mx_tau ag)).2.1.1 56) :: mx_v (tB l D s.heap.size (fun _ => a0) s.heap (mx_tau ag)).2.1.1 v :: [])) (by rw [has]; rfl) ?_
  refine mx_Wcallv (B := (tB l D s.heap.size (fun _ => a0) s.heap (mx_tau ag))) (ci := 12) (r := cr_12) (n := 2) A dl_655 me_225 rfl hcell2 (tw lx_7_124 rfl) (tw lx_7_125 rfl) (tw lx_7_123 rfl) hc2 hlen hl.1 (by obtain ⟨x, rfl⟩ := hv; exact Nat.le_of_ble_eq_true rfl) hR1 hLo1 (by decide) (by decide) ⟨by have := le1.1; have := le2.1; show 82 + (q1.1 - h_4.1) + (q2.1 - q1.1) ≤ 600000; simp only [] at *; omega, by have := le1.2; have := le2.2; show h_4.2.1 + (q1.2.1 - h_4.2.1) + (q2.2.1 - q1.2.1) ≤ 7302250; simp only [] at *; omega⟩ (fun H2 locs2 hR2 hLo2 => ?_)
  refine W.eq (g2 := F0 m 658 la (mx_v (tB l D s.heap.size (fun _ => a0) s.heap (mx_tau ag)).2.1.1 v :: mx_v (tB l D s.heap.size (fun _ => a0) s.heap (mx_tau ag)).2.1.1 v :: [])) rfl ?_
  have hS2 := lw_S hR2 hLo2
  have hend := lw_end (cells := 82 + (q1.1 - h_4.1) + (q2.1 - q1.1)) (slots := h_4.2.1 + (q1.2.1 - h_4.2.1) + (q2.2.1 - q1.2.1)) (e := e) (below := below) (l := l) C0 hL6 hS2 hl (by have := le1.1; have := le2.1; simp only [] at *; omega) (by have := le1.2; have := le2.2; simp only [] at *; omega)
  obtain ⟨x, rfl⟩ := hv
  refine lv_icmp_eq (tgt := 1516) hx0 hb dl_658 (by decide) (fun _ => hend) (fun z => absurd rfl z)
set_option maxHeartbeats 4000000 in
set_option maxRecDepth 100000 in
theorem lc_15 {as : List Value} (C0 : lw_At p s m meth c b L xs) (hL : L ≤ 6) (hL6 : L = 6) (A : mx_Wx (tB l D s.heap.size (fun _ => a0) s.heap (mx_tau ag)) p s m #[Value.ref b] c code 4 R_law) (hR : mx_Rp (tB l D s.heap.size (fun _ => a0) s.heap (mx_tau ag)).2.1.1 s h_4 H) (hLo : ∀ q ∈ locs, mx_up (tB l D s.heap.size (fun _ => a0) s.heap (mx_tau ag)).2.1 q.base) (hcx : ∃ fs, mx_cell h_4 1 = some (.inl (11, fs))) (hn4 : h_4.1 = 83) (hs4 : h_4.2.1 ≤ 1000000) (hl : lv_has la 4 (lw_lv b (mx_rho (tB l D s.heap.size (fun _ => a0) s.heap (mx_tau ag)).2.1.1 1) (mx_rho (tB l D s.heap.size (fun _ => a0) s.heap (mx_tau ag)).2.1.1 56) 0))
    (has : as.map (mx_v (tB l D s.heap.size (fun _ => a0) s.heap (mx_tau ag)).2.1.1) = [.long ((xs 1).toInt64 <<< ((32 : Int32).toInt64 &&& 63) ||| ((xs 2).toInt64 &&& 4294967295))]) (hlen : as.length = 1) (hTw : mx_Tw (tB l D s.heap.size (fun _ => a0) s.heap (mx_tau ag)) false 104 228 as) : W p l e room_1 s m #[Value.ref b] below meth c H locs 82 h_4.2.1 (lw_Z below #[Value.ref b] s) (F0 m 663 la []) := by
  obtain ⟨hx0, hb, hr, hml, hown, hts, hX, hbl, hlocks, hgv⟩ := id C0
  obtain ⟨v, q1, q2, fs, hc1, hc2, hcell2, hb1, hb2, hv⟩ := hTw
  have hS := lw_S hR hLo
  refine lv_aload_n hx0 hb dl_663 rfl (lv_at hl 1 rfl) ?_
  refine lw_arg C0 hS hl (j := 1) (x := 1) (by omega) hL (by decide) (by decide +kernel) dl_664 dl_665 dl_666 dl_667 dl_668 ?_
  refine lv_i2l hx0 hb dl_669 rfl ?_
  refine lv_bipush (v := 32) hx0 hb dl_670 (by decide) ?_
  refine lv_lshl hx0 hb dl_672 rfl ?_
  refine lw_arg C0 hS hl (j := 2) (x := 2) (by omega) hL (by decide) (by decide +kernel) dl_673 dl_674 dl_675 dl_676 dl_677 ?_
  refine lv_i2l hx0 hb dl_678 rfl ?_
  refine W.ldc2 hx0 hb hown (hts _ lx_8_135) rfl dl_679 ?_
  refine lv_land hx0 hb dl_682 ?_
  refine lv_lor hx0 hb dl_683 ?_
  refine W.eq (g2 := F0 m 684 la ((as.map (mx_v (tB l D s.heap.size (fun _ => a0) s.heap (mx_tau ag)).2.1.1)).reverse ++ .ref (mx_rho (tB l D s.heap.size (fun _ => a0) s.heap (mx_tau ag)).2.1.1 1) :: [])) (by rw [has]; rfl) ?_
  obtain ⟨fs1, hcell1⟩ := hcx
  have le1 := hc1.choose_spec.2.1
  have le2 := hc2.choose_spec.2.1
  refine mx_Wcallv (B := (tB l D s.heap.size (fun _ => a0) s.heap (mx_tau ag))) (ci := 11) (r := cr_11) (n := 1) A dl_684 me_104 rfl hcell1 (tw lx_4_113 rfl) (tw lx_4_114 rfl) (tw lx_4_112 rfl) hc1 hlen hl.1 (by decide) hR hLo (by decide) (by decide) ⟨by have := le1.1; have := le2.1; show 82 + (q1.1 - h_4.1) ≤ 600000; simp only [] at *; omega, by have := le1.2; have := le2.2; show h_4.2.1 + (q1.2.1 - h_4.2.1) ≤ 7302250; simp only [] at *; omega⟩ (fun H1 locs1 hR1 hLo1 => ?_)
  have hS1 := lw_S hR1 hLo1
  clear hS
  have hS := hS1
  refine W.eq (g2 := F0 m 687 la (mx_v (tB l D s.heap.size (fun _ => a0) s.heap (mx_tau ag)).2.1.1 v :: [])) rfl ?_
  refine lv_aload_n hx0 hb dl_687 rfl (lv_at hl 2 rfl) ?_
  refine lw_arg C0 hS hl (j := 1) (x := 1) (by omega) hL (by decide) (by decide +kernel) dl_688 dl_689 dl_690 dl_691 dl_692 ?_
  refine lv_i2l hx0 hb dl_693 rfl ?_
  refine lv_bipush (v := 32) hx0 hb dl_694 (by decide) ?_
  refine lv_lshl hx0 hb dl_696 rfl ?_
  refine lw_arg C0 hS hl (j := 2) (x := 2) (by omega) hL (by decide) (by decide +kernel) dl_697 dl_698 dl_699 dl_700 dl_701 ?_
  refine lv_i2l hx0 hb dl_702 rfl ?_
  refine W.ldc2 hx0 hb hown (hts _ lx_8_135) rfl dl_703 ?_
  refine lv_land hx0 hb dl_706 ?_
  refine lv_lor hx0 hb dl_707 ?_
  refine W.eq (g2 := F0 m 708 la ((as.map (mx_v (tB l D s.heap.size (fun _ => a0) s.heap (mx_tau ag)).2.1.1)).reverse ++ .ref (mx_rho (tB l D s.heap.size (fun _ => a0) s.heap (mx_tau ag)).2.1.1 56) :: mx_v (tB l D s.heap.size (fun _ => a0) s.heap (mx_tau ag)).2.1.1 v :: [])) (by rw [has]; rfl) ?_
  refine mx_Wcallv (B := (tB l D s.heap.size (fun _ => a0) s.heap (mx_tau ag))) (ci := 12) (r := cr_12) (n := 1) A dl_708 me_228 rfl hcell2 (tw lx_7_138 rfl) (tw lx_7_139 rfl) (tw lx_7_137 rfl) hc2 hlen hl.1 (by obtain ⟨x, rfl⟩ := hv; exact Nat.le_of_ble_eq_true rfl) hR1 hLo1 (by decide) (by decide) ⟨by have := le1.1; have := le2.1; show 82 + (q1.1 - h_4.1) + (q2.1 - q1.1) ≤ 600000; simp only [] at *; omega, by have := le1.2; have := le2.2; show h_4.2.1 + (q1.2.1 - h_4.2.1) + (q2.2.1 - q1.2.1) ≤ 7302250; simp only [] at *; omega⟩ (fun H2 locs2 hR2 hLo2 => ?_)
  refine W.eq (g2 := F0 m 711 la (mx_v (tB l D s.heap.size (fun _ => a0) s.heap (mx_tau ag)).2.1.1 v :: mx_v (tB l D s.heap.size (fun _ => a0) s.heap (mx_tau ag)).2.1.1 v :: [])) rfl ?_
  have hS2 := lw_S hR2 hLo2
  have hend := lw_end (cells := 82 + (q1.1 - h_4.1) + (q2.1 - q1.1)) (slots := h_4.2.1 + (q1.2.1 - h_4.2.1) + (q2.2.1 - q1.2.1)) (e := e) (below := below) (l := l) C0 hL6 hS2 hl (by have := le1.1; have := le2.1; simp only [] at *; omega) (by have := le1.2; have := le2.2; simp only [] at *; omega)
  obtain ⟨x, rfl⟩ := hv
  refine lv_icmp_eq (tgt := 1516) hx0 hb dl_711 (by decide) (fun _ => hend) (fun z => absurd rfl z)
set_option maxHeartbeats 4000000 in
set_option maxRecDepth 100000 in
theorem lc_16 {as : List Value} (C0 : lw_At p s m meth c b L xs) (hL : L ≤ 6) (hL6 : L = 6) (A : mx_Wx (tB l D s.heap.size (fun _ => a0) s.heap (mx_tau ag)) p s m #[Value.ref b] c code 4 R_law) (hR : mx_Rp (tB l D s.heap.size (fun _ => a0) s.heap (mx_tau ag)).2.1.1 s h_4 H) (hLo : ∀ q ∈ locs, mx_up (tB l D s.heap.size (fun _ => a0) s.heap (mx_tau ag)).2.1 q.base) (hcx : ∃ fs, mx_cell h_4 1 = some (.inl (11, fs))) (hn4 : h_4.1 = 83) (hs4 : h_4.2.1 ≤ 1000000) (hl : lv_has la 4 (lw_lv b (mx_rho (tB l D s.heap.size (fun _ => a0) s.heap (mx_tau ag)).2.1.1 1) (mx_rho (tB l D s.heap.size (fun _ => a0) s.heap (mx_tau ag)).2.1.1 56) 0))
    (has : as.map (mx_v (tB l D s.heap.size (fun _ => a0) s.heap (mx_tau ag)).2.1.1) = [.int (xs 1)]) (hlen : as.length = 1) (hTw : mx_Tw (tB l D s.heap.size (fun _ => a0) s.heap (mx_tau ag)) false 105 229 as) : W p l e room_1 s m #[Value.ref b] below meth c H locs 82 h_4.2.1 (lw_Z below #[Value.ref b] s) (F0 m 716 la []) := by
  obtain ⟨hx0, hb, hr, hml, hown, hts, hX, hbl, hlocks, hgv⟩ := id C0
  obtain ⟨v, q1, q2, fs, hc1, hc2, hcell2, hb1, hb2, hv⟩ := hTw
  have hS := lw_S hR hLo
  refine lv_aload_n hx0 hb dl_716 rfl (lv_at hl 1 rfl) ?_
  refine lw_arg C0 hS hl (j := 1) (x := 1) (by omega) hL (by decide) (by decide +kernel) dl_717 dl_718 dl_719 dl_720 dl_721 ?_
  refine W.eq (g2 := F0 m 722 la ((as.map (mx_v (tB l D s.heap.size (fun _ => a0) s.heap (mx_tau ag)).2.1.1)).reverse ++ .ref (mx_rho (tB l D s.heap.size (fun _ => a0) s.heap (mx_tau ag)).2.1.1 1) :: [])) (by rw [has]; rfl) ?_
  obtain ⟨fs1, hcell1⟩ := hcx
  have le1 := hc1.choose_spec.2.1
  have le2 := hc2.choose_spec.2.1
  refine mx_Wcallv (B := (tB l D s.heap.size (fun _ => a0) s.heap (mx_tau ag))) (ci := 11) (r := cr_11) (n := 1) A dl_722 me_105 rfl hcell1 (tw lx_4_134 rfl) (tw lx_4_135 rfl) (tw lx_4_133 rfl) hc1 hlen hl.1 (by decide) hR hLo (by decide) (by decide) ⟨by have := le1.1; have := le2.1; show 82 + (q1.1 - h_4.1) ≤ 600000; simp only [] at *; omega, by have := le1.2; have := le2.2; show h_4.2.1 + (q1.2.1 - h_4.2.1) ≤ 7302250; simp only [] at *; omega⟩ (fun H1 locs1 hR1 hLo1 => ?_)
  have hS1 := lw_S hR1 hLo1
  clear hS
  have hS := hS1
  refine W.eq (g2 := F0 m 725 la (mx_v (tB l D s.heap.size (fun _ => a0) s.heap (mx_tau ag)).2.1.1 v :: [])) rfl ?_
  refine lv_aload_n hx0 hb dl_725 rfl (lv_at hl 2 rfl) ?_
  refine lw_arg C0 hS hl (j := 1) (x := 1) (by omega) hL (by decide) (by decide +kernel) dl_726 dl_727 dl_728 dl_729 dl_730 ?_
  refine W.eq (g2 := F0 m 731 la ((as.map (mx_v (tB l D s.heap.size (fun _ => a0) s.heap (mx_tau ag)).2.1.1)).reverse ++ .ref (mx_rho (tB l D s.heap.size (fun _ => a0) s.heap (mx_tau ag)).2.1.1 56) :: mx_v (tB l D s.heap.size (fun _ => a0) s.heap (mx_tau ag)).2.1.1 v :: [])) (by rw [has]; rfl) ?_
  refine mx_Wcallv (B := (tB l D s.heap.size (fun _ => a0) s.heap (mx_tau ag))) (ci := 12) (r := cr_12) (n := 1) A dl_731 me_229 rfl hcell2 (tw lx_7_151 rfl) (tw lx_7_152 rfl) (tw lx_7_150 rfl) hc2 hlen hl.1 (by obtain ⟨x, rfl⟩ := hv; exact Nat.le_of_ble_eq_true rfl) hR1 hLo1 (by decide) (by decide) ⟨by have := le1.1; have := le2.1; show 82 + (q1.1 - h_4.1) + (q2.1 - q1.1) ≤ 600000; simp only [] at *; omega, by have := le1.2; have := le2.2; show h_4.2.1 + (q1.2.1 - h_4.2.1) + (q2.2.1 - q1.2.1) ≤ 7302250; simp only [] at *; omega⟩ (fun H2 locs2 hR2 hLo2 => ?_)
  refine W.eq (g2 := F0 m 734 la (mx_v (tB l D s.heap.size (fun _ => a0) s.heap (mx_tau ag)).2.1.1 v :: mx_v (tB l D s.heap.size (fun _ => a0) s.heap (mx_tau ag)).2.1.1 v :: [])) rfl ?_
  have hS2 := lw_S hR2 hLo2
  have hend := lw_end (cells := 82 + (q1.1 - h_4.1) + (q2.1 - q1.1)) (slots := h_4.2.1 + (q1.2.1 - h_4.2.1) + (q2.2.1 - q1.2.1)) (e := e) (below := below) (l := l) C0 hL6 hS2 hl (by have := le1.1; have := le2.1; simp only [] at *; omega) (by have := le1.2; have := le2.2; simp only [] at *; omega)
  obtain ⟨x, rfl⟩ := hv
  refine lv_icmp_eq (tgt := 1516) hx0 hb dl_734 (by decide) (fun _ => hend) (fun z => absurd rfl z)
set_option maxHeartbeats 4000000 in
set_option maxRecDepth 100000 in
theorem lc_17 {as : List Value} (C0 : lw_At p s m meth c b L xs) (hL : L ≤ 6) (hL6 : L = 6) (A : mx_Wx (tB l D s.heap.size (fun _ => a0) s.heap (mx_tau ag)) p s m #[Value.ref b] c code 4 R_law) (hR : mx_Rp (tB l D s.heap.size (fun _ => a0) s.heap (mx_tau ag)).2.1.1 s h_4 H) (hLo : ∀ q ∈ locs, mx_up (tB l D s.heap.size (fun _ => a0) s.heap (mx_tau ag)).2.1 q.base) (hcx : ∃ fs, mx_cell h_4 1 = some (.inl (11, fs))) (hn4 : h_4.1 = 83) (hs4 : h_4.2.1 ≤ 1000000) (hl : lv_has la 4 (lw_lv b (mx_rho (tB l D s.heap.size (fun _ => a0) s.heap (mx_tau ag)).2.1.1 1) (mx_rho (tB l D s.heap.size (fun _ => a0) s.heap (mx_tau ag)).2.1.1 56) 0))
    (has : as.map (mx_v (tB l D s.heap.size (fun _ => a0) s.heap (mx_tau ag)).2.1.1) = [.int (xs 1)]) (hlen : as.length = 1) (hTw : mx_Tw (tB l D s.heap.size (fun _ => a0) s.heap (mx_tau ag)) false 106 233 as) : W p l e room_1 s m #[Value.ref b] below meth c H locs 82 h_4.2.1 (lw_Z below #[Value.ref b] s) (F0 m 739 la []) := by
  obtain ⟨hx0, hb, hr, hml, hown, hts, hX, hbl, hlocks, hgv⟩ := id C0
  obtain ⟨v, q1, q2, fs, hc1, hc2, hcell2, hb1, hb2, hv⟩ := hTw
  have hS := lw_S hR hLo
  refine lv_aload_n hx0 hb dl_739 rfl (lv_at hl 1 rfl) ?_
  refine lw_arg C0 hS hl (j := 1) (x := 1) (by omega) hL (by decide) (by decide +kernel) dl_740 dl_741 dl_742 dl_743 dl_744 ?_
  refine W.eq (g2 := F0 m 745 la ((as.map (mx_v (tB l D s.heap.size (fun _ => a0) s.heap (mx_tau ag)).2.1.1)).reverse ++ .ref (mx_rho (tB l D s.heap.size (fun _ => a0) s.heap (mx_tau ag)).2.1.1 1) :: [])) (by rw [has]; rfl) ?_
  obtain ⟨fs1, hcell1⟩ := hcx
  have le1 := hc1.choose_spec.2.1
  have le2 := hc2.choose_spec.2.1
  refine mx_Wcallv (B := (tB l D s.heap.size (fun _ => a0) s.heap (mx_tau ag))) (ci := 11) (r := cr_11) (n := 1) A dl_745 me_106 rfl hcell1 (tw lx_4_138 rfl) (tw lx_4_139 rfl) (tw lx_4_137 rfl) hc1 hlen hl.1 (by decide) hR hLo (by decide) (by decide) ⟨by have := le1.1; have := le2.1; show 82 + (q1.1 - h_4.1) ≤ 600000; simp only [] at *; omega, by have := le1.2; have := le2.2; show h_4.2.1 + (q1.2.1 - h_4.2.1) ≤ 7302250; simp only [] at *; omega⟩ (fun H1 locs1 hR1 hLo1 => ?_)
  have hS1 := lw_S hR1 hLo1
  clear hS
  have hS := hS1
  refine W.eq (g2 := F0 m 748 la (mx_v (tB l D s.heap.size (fun _ => a0) s.heap (mx_tau ag)).2.1.1 v :: [])) rfl ?_
  refine lv_aload_n hx0 hb dl_748 rfl (lv_at hl 2 rfl) ?_
  refine lw_arg C0 hS hl (j := 1) (x := 1) (by omega) hL (by decide) (by decide +kernel) dl_749 dl_750 dl_751 dl_752 dl_753 ?_
  refine W.eq (g2 := F0 m 754 la ((as.map (mx_v (tB l D s.heap.size (fun _ => a0) s.heap (mx_tau ag)).2.1.1)).reverse ++ .ref (mx_rho (tB l D s.heap.size (fun _ => a0) s.heap (mx_tau ag)).2.1.1 56) :: mx_v (tB l D s.heap.size (fun _ => a0) s.heap (mx_tau ag)).2.1.1 v :: [])) (by rw [has]; rfl) ?_
  refine mx_Wcallv (B := (tB l D s.heap.size (fun _ => a0) s.heap (mx_tau ag))) (ci := 12) (r := cr_12) (n := 1) A dl_754 me_233 rfl hcell2 (tw lx_7_155 rfl) (tw lx_7_156 rfl) (tw lx_7_154 rfl) hc2 hlen hl.1 (by obtain ⟨x, rfl⟩ := hv; exact Nat.le_of_ble_eq_true rfl) hR1 hLo1 (by decide) (by decide) ⟨by have := le1.1; have := le2.1; show 82 + (q1.1 - h_4.1) + (q2.1 - q1.1) ≤ 600000; simp only [] at *; omega, by have := le1.2; have := le2.2; show h_4.2.1 + (q1.2.1 - h_4.2.1) + (q2.2.1 - q1.2.1) ≤ 7302250; simp only [] at *; omega⟩ (fun H2 locs2 hR2 hLo2 => ?_)
  refine W.eq (g2 := F0 m 757 la (mx_v (tB l D s.heap.size (fun _ => a0) s.heap (mx_tau ag)).2.1.1 v :: mx_v (tB l D s.heap.size (fun _ => a0) s.heap (mx_tau ag)).2.1.1 v :: [])) rfl ?_
  have hS2 := lw_S hR2 hLo2
  have hend := lw_end (cells := 82 + (q1.1 - h_4.1) + (q2.1 - q1.1)) (slots := h_4.2.1 + (q1.2.1 - h_4.2.1) + (q2.2.1 - q1.2.1)) (e := e) (below := below) (l := l) C0 hL6 hS2 hl (by have := le1.1; have := le2.1; simp only [] at *; omega) (by have := le1.2; have := le2.2; simp only [] at *; omega)
  obtain ⟨x, rfl⟩ := hv
  refine lv_icmp_eq (tgt := 1516) hx0 hb dl_757 (by decide) (fun _ => hend) (fun z => absurd rfl z)
set_option maxHeartbeats 4000000 in
set_option maxRecDepth 100000 in
theorem lc_18 {as : List Value} (C0 : lw_At p s m meth c b L xs) (hL : L ≤ 6) (hL6 : L = 6) (A : mx_Wx (tB l D s.heap.size (fun _ => a0) s.heap (mx_tau ag)) p s m #[Value.ref b] c code 4 R_law) (hR : mx_Rp (tB l D s.heap.size (fun _ => a0) s.heap (mx_tau ag)).2.1.1 s h_4 H) (hLo : ∀ q ∈ locs, mx_up (tB l D s.heap.size (fun _ => a0) s.heap (mx_tau ag)).2.1 q.base) (hcx : ∃ fs, mx_cell h_4 1 = some (.inl (11, fs))) (hn4 : h_4.1 = 83) (hs4 : h_4.2.1 ≤ 1000000) (hl : lv_has la 4 (lw_lv b (mx_rho (tB l D s.heap.size (fun _ => a0) s.heap (mx_tau ag)).2.1.1 1) (mx_rho (tB l D s.heap.size (fun _ => a0) s.heap (mx_tau ag)).2.1.1 56) 0))
    (has : as.map (mx_v (tB l D s.heap.size (fun _ => a0) s.heap (mx_tau ag)).2.1.1) = [.int (xs 1)]) (hlen : as.length = 1) (hTw : mx_Tw (tB l D s.heap.size (fun _ => a0) s.heap (mx_tau ag)) false 107 234 as) : W p l e room_1 s m #[Value.ref b] below meth c H locs 82 h_4.2.1 (lw_Z below #[Value.ref b] s) (F0 m 762 la []) := by
  obtain ⟨hx0, hb, hr, hml, hown, hts, hX, hbl, hlocks, hgv⟩ := id C0
  obtain ⟨v, q1, q2, fs, hc1, hc2, hcell2, hb1, hb2, hv⟩ := hTw
  have hS := lw_S hR hLo
  refine lv_aload_n hx0 hb dl_762 rfl (lv_at hl 1 rfl) ?_
  refine lw_arg C0 hS hl (j := 1) (x := 1) (by omega) hL (by decide) (by decide +kernel) dl_763 dl_764 dl_765 dl_766 dl_767 ?_
  refine W.eq (g2 := F0 m 768 la ((as.map (mx_v (tB l D s.heap.size (fun _ => a0) s.heap (mx_tau ag)).2.1.1)).reverse ++ .ref (mx_rho (tB l D s.heap.size (fun _ => a0) s.heap (mx_tau ag)).2.1.1 1) :: [])) (by rw [has]; rfl) ?_
  obtain ⟨fs1, hcell1⟩ := hcx
  have le1 := hc1.choose_spec.2.1
  have le2 := hc2.choose_spec.2.1
  refine mx_Wcallv (B := (tB l D s.heap.size (fun _ => a0) s.heap (mx_tau ag))) (ci := 11) (r := cr_11) (n := 1) A dl_768 me_107 rfl hcell1 (tw lx_4_158 rfl) (tw lx_4_159 rfl) (tw lx_4_157 rfl) hc1 hlen hl.1 (by decide) hR hLo (by decide) (by decide) ⟨by have := le1.1; have := le2.1; show 82 + (q1.1 - h_4.1) ≤ 600000; simp only [] at *; omega, by have := le1.2; have := le2.2; show h_4.2.1 + (q1.2.1 - h_4.2.1) ≤ 7302250; simp only [] at *; omega⟩ (fun H1 locs1 hR1 hLo1 => ?_)
  have hS1 := lw_S hR1 hLo1
  clear hS
  have hS := hS1
  refine W.eq (g2 := F0 m 771 la (mx_v (tB l D s.heap.size (fun _ => a0) s.heap (mx_tau ag)).2.1.1 v :: [])) rfl ?_
  refine lv_aload_n hx0 hb dl_771 rfl (lv_at hl 2 rfl) ?_
  refine lw_arg C0 hS hl (j := 1) (x := 1) (by omega) hL (by decide) (by decide +kernel) dl_772 dl_773 dl_774 dl_775 dl_776 ?_
  refine W.eq (g2 := F0 m 777 la ((as.map (mx_v (tB l D s.heap.size (fun _ => a0) s.heap (mx_tau ag)).2.1.1)).reverse ++ .ref (mx_rho (tB l D s.heap.size (fun _ => a0) s.heap (mx_tau ag)).2.1.1 56) :: mx_v (tB l D s.heap.size (fun _ => a0) s.heap (mx_tau ag)).2.1.1 v :: [])) (by rw [has]; rfl) ?_
  refine mx_Wcallv (B := (tB l D s.heap.size (fun _ => a0) s.heap (mx_tau ag))) (ci := 12) (r := cr_12) (n := 1) A dl_777 me_234 rfl hcell2 (tw lx_7_172 rfl) (tw lx_7_173 rfl) (tw lx_7_171 rfl) hc2 hlen hl.1 (by obtain ⟨x, rfl⟩ := hv; exact Nat.le_of_ble_eq_true rfl) hR1 hLo1 (by decide) (by decide) ⟨by have := le1.1; have := le2.1; show 82 + (q1.1 - h_4.1) + (q2.1 - q1.1) ≤ 600000; simp only [] at *; omega, by have := le1.2; have := le2.2; show h_4.2.1 + (q1.2.1 - h_4.2.1) + (q2.2.1 - q1.2.1) ≤ 7302250; simp only [] at *; omega⟩ (fun H2 locs2 hR2 hLo2 => ?_)
  refine W.eq (g2 := F0 m 780 la (mx_v (tB l D s.heap.size (fun _ => a0) s.heap (mx_tau ag)).2.1.1 v :: mx_v (tB l D s.heap.size (fun _ => a0) s.heap (mx_tau ag)).2.1.1 v :: [])) rfl ?_
  have hS2 := lw_S hR2 hLo2
  have hend := lw_end (cells := 82 + (q1.1 - h_4.1) + (q2.1 - q1.1)) (slots := h_4.2.1 + (q1.2.1 - h_4.2.1) + (q2.2.1 - q1.2.1)) (e := e) (below := below) (l := l) C0 hL6 hS2 hl (by have := le1.1; have := le2.1; simp only [] at *; omega) (by have := le1.2; have := le2.2; simp only [] at *; omega)
  obtain ⟨x, rfl⟩ := hv
  refine lv_icmp_eq (tgt := 1516) hx0 hb dl_780 (by decide) (fun _ => hend) (fun z => absurd rfl z)
set_option maxHeartbeats 4000000 in
set_option maxRecDepth 100000 in
theorem lc_19 {as : List Value} (C0 : lw_At p s m meth c b L xs) (hL : L ≤ 6) (hL6 : L = 6) (A : mx_Wx (tB l D s.heap.size (fun _ => a0) s.heap (mx_tau ag)) p s m #[Value.ref b] c code 4 R_law) (hR : mx_Rp (tB l D s.heap.size (fun _ => a0) s.heap (mx_tau ag)).2.1.1 s h_4 H) (hLo : ∀ q ∈ locs, mx_up (tB l D s.heap.size (fun _ => a0) s.heap (mx_tau ag)).2.1 q.base) (hcx : ∃ fs, mx_cell h_4 1 = some (.inl (11, fs))) (hn4 : h_4.1 = 83) (hs4 : h_4.2.1 ≤ 1000000) (hl : lv_has la 4 (lw_lv b (mx_rho (tB l D s.heap.size (fun _ => a0) s.heap (mx_tau ag)).2.1.1 1) (mx_rho (tB l D s.heap.size (fun _ => a0) s.heap (mx_tau ag)).2.1.1 56) 0))
    (has : as.map (mx_v (tB l D s.heap.size (fun _ => a0) s.heap (mx_tau ag)).2.1.1) = [.int (xs 1)]) (hlen : as.length = 1) (hTw : mx_Tw (tB l D s.heap.size (fun _ => a0) s.heap (mx_tau ag)) false 108 241 as) : W p l e room_1 s m #[Value.ref b] below meth c H locs 82 h_4.2.1 (lw_Z below #[Value.ref b] s) (F0 m 785 la []) := by
  obtain ⟨hx0, hb, hr, hml, hown, hts, hX, hbl, hlocks, hgv⟩ := id C0
  obtain ⟨v, q1, q2, fs, hc1, hc2, hcell2, hb1, hb2, hv⟩ := hTw
  have hS := lw_S hR hLo
  refine lv_aload_n hx0 hb dl_785 rfl (lv_at hl 1 rfl) ?_
  refine lw_arg C0 hS hl (j := 1) (x := 1) (by omega) hL (by decide) (by decide +kernel) dl_786 dl_787 dl_788 dl_789 dl_790 ?_
  refine W.eq (g2 := F0 m 791 la ((as.map (mx_v (tB l D s.heap.size (fun _ => a0) s.heap (mx_tau ag)).2.1.1)).reverse ++ .ref (mx_rho (tB l D s.heap.size (fun _ => a0) s.heap (mx_tau ag)).2.1.1 1) :: [])) (by rw [has]; rfl) ?_
  obtain ⟨fs1, hcell1⟩ := hcx
  have le1 := hc1.choose_spec.2.1
  have le2 := hc2.choose_spec.2.1
  refine mx_Wcallv (B := (tB l D s.heap.size (fun _ => a0) s.heap (mx_tau ag))) (ci := 11) (r := cr_11) (n := 1) A dl_791 me_108 rfl hcell1 (tw lx_4_166 rfl) (tw lx_4_167 rfl) (tw lx_4_165 rfl) hc1 hlen hl.1 (by decide) hR hLo (by decide) (by decide) ⟨by have := le1.1; have := le2.1; show 82 + (q1.1 - h_4.1) ≤ 600000; simp only [] at *; omega, by have := le1.2; have := le2.2; show h_4.2.1 + (q1.2.1 - h_4.2.1) ≤ 7302250; simp only [] at *; omega⟩ (fun H1 locs1 hR1 hLo1 => ?_)
  have hS1 := lw_S hR1 hLo1
  clear hS
  have hS := hS1
  refine W.eq (g2 := F0 m 794 la (mx_v (tB l D s.heap.size (fun _ => a0) s.heap (mx_tau ag)).2.1.1 v :: [])) rfl ?_
  refine lv_aload_n hx0 hb dl_794 rfl (lv_at hl 2 rfl) ?_
  refine lw_arg C0 hS hl (j := 1) (x := 1) (by omega) hL (by decide) (by decide +kernel) dl_795 dl_796 dl_797 dl_798 dl_799 ?_
  refine W.eq (g2 := F0 m 800 la ((as.map (mx_v (tB l D s.heap.size (fun _ => a0) s.heap (mx_tau ag)).2.1.1)).reverse ++ .ref (mx_rho (tB l D s.heap.size (fun _ => a0) s.heap (mx_tau ag)).2.1.1 56) :: mx_v (tB l D s.heap.size (fun _ => a0) s.heap (mx_tau ag)).2.1.1 v :: [])) (by rw [has]; rfl) ?_
  refine mx_Wcallv (B := (tB l D s.heap.size (fun _ => a0) s.heap (mx_tau ag))) (ci := 12) (r := cr_12) (n := 1) A dl_800 me_241 rfl hcell2 (tw lx_7_176 rfl) (tw lx_7_177 rfl) (tw lx_7_175 rfl) hc2 hlen hl.1 (by obtain ⟨x, rfl⟩ := hv; exact Nat.le_of_ble_eq_true rfl) hR1 hLo1 (by decide) (by decide) ⟨by have := le1.1; have := le2.1; show 82 + (q1.1 - h_4.1) + (q2.1 - q1.1) ≤ 600000; simp only [] at *; omega, by have := le1.2; have := le2.2; show h_4.2.1 + (q1.2.1 - h_4.2.1) + (q2.2.1 - q1.2.1) ≤ 7302250; simp only [] at *; omega⟩ (fun H2 locs2 hR2 hLo2 => ?_)
  refine W.eq (g2 := F0 m 803 la (mx_v (tB l D s.heap.size (fun _ => a0) s.heap (mx_tau ag)).2.1.1 v :: mx_v (tB l D s.heap.size (fun _ => a0) s.heap (mx_tau ag)).2.1.1 v :: [])) rfl ?_
  have hS2 := lw_S hR2 hLo2
  have hend := lw_end (cells := 82 + (q1.1 - h_4.1) + (q2.1 - q1.1)) (slots := h_4.2.1 + (q1.2.1 - h_4.2.1) + (q2.2.1 - q1.2.1)) (e := e) (below := below) (l := l) C0 hL6 hS2 hl (by have := le1.1; have := le2.1; simp only [] at *; omega) (by have := le1.2; have := le2.2; simp only [] at *; omega)
  obtain ⟨x, rfl⟩ := hv
  refine lv_icmp_eq (tgt := 1516) hx0 hb dl_803 (by decide) (fun _ => hend) (fun z => absurd rfl z)
set_option maxHeartbeats 4000000 in
set_option maxRecDepth 100000 in
theorem lc_20 {as : List Value} (C0 : lw_At p s m meth c b L xs) (hL : L ≤ 6) (hL6 : L = 6) (A : mx_Wx (tB l D s.heap.size (fun _ => a0) s.heap (mx_tau ag)) p s m #[Value.ref b] c code 4 R_law) (hR : mx_Rp (tB l D s.heap.size (fun _ => a0) s.heap (mx_tau ag)).2.1.1 s h_4 H) (hLo : ∀ q ∈ locs, mx_up (tB l D s.heap.size (fun _ => a0) s.heap (mx_tau ag)).2.1 q.base) (hcx : ∃ fs, mx_cell h_4 1 = some (.inl (11, fs))) (hn4 : h_4.1 = 83) (hs4 : h_4.2.1 ≤ 1000000) (hl : lv_has la 4 (lw_lv b (mx_rho (tB l D s.heap.size (fun _ => a0) s.heap (mx_tau ag)).2.1.1 1) (mx_rho (tB l D s.heap.size (fun _ => a0) s.heap (mx_tau ag)).2.1.1 56) 0))
    (has : as.map (mx_v (tB l D s.heap.size (fun _ => a0) s.heap (mx_tau ag)).2.1.1) = [.int (xs 1), .int (xs 2)]) (hlen : as.length = 2) (hTw : mx_Tw (tB l D s.heap.size (fun _ => a0) s.heap (mx_tau ag)) false 109 242 as) : W p l e room_1 s m #[Value.ref b] below meth c H locs 82 h_4.2.1 (lw_Z below #[Value.ref b] s) (F0 m 808 la []) := by
  obtain ⟨hx0, hb, hr, hml, hown, hts, hX, hbl, hlocks, hgv⟩ := id C0
  obtain ⟨v, q1, q2, fs, hc1, hc2, hcell2, hb1, hb2, hv⟩ := hTw
  have hS := lw_S hR hLo
  refine lv_aload_n hx0 hb dl_808 rfl (lv_at hl 1 rfl) ?_
  refine lw_arg C0 hS hl (j := 1) (x := 1) (by omega) hL (by decide) (by decide +kernel) dl_809 dl_810 dl_811 dl_812 dl_813 ?_
  refine lw_arg C0 hS hl (j := 2) (x := 2) (by omega) hL (by decide) (by decide +kernel) dl_814 dl_815 dl_816 dl_817 dl_818 ?_
  refine W.eq (g2 := F0 m 819 la ((as.map (mx_v (tB l D s.heap.size (fun _ => a0) s.heap (mx_tau ag)).2.1.1)).reverse ++ .ref (mx_rho (tB l D s.heap.size (fun _ => a0) s.heap (mx_tau ag)).2.1.1 1) :: [])) (by rw [has]; rfl) ?_
  obtain ⟨fs1, hcell1⟩ := hcx
  have le1 := hc1.choose_spec.2.1
  have le2 := hc2.choose_spec.2.1
  refine mx_Wcallv (B := (tB l D s.heap.size (fun _ => a0) s.heap (mx_tau ag))) (ci := 11) (r := cr_11) (n := 2) A dl_819 me_109 rfl hcell1 (tw lx_4_191 rfl) (tw lx_4_192 rfl) (tw lx_4_190 rfl) hc1 hlen hl.1 (by decide) hR hLo (by decide) (by decide) ⟨by have := le1.1; have := le2.1; show 82 + (q1.1 - h_4.1) ≤ 600000; simp only [] at *; omega, by have := le1.2; have := le2.2; show h_4.2.1 + (q1.2.1 - h_4.2.1) ≤ 7302250; simp only [] at *; omega⟩ (fun H1 locs1 hR1 hLo1 => ?_)
  have hS1 := lw_S hR1 hLo1
  clear hS
  have hS := hS1
  refine W.eq (g2 := F0 m 822 la (mx_v (tB l D s.heap.size (fun _ => a0) s.heap (mx_tau ag)).2.1.1 v :: [])) rfl ?_
  refine lv_aload_n hx0 hb dl_822 rfl (lv_at hl 2 rfl) ?_
  refine lw_arg C0 hS hl (j := 1) (x := 1) (by omega) hL (by decide) (by decide +kernel) dl_823 dl_824 dl_825 dl_826 dl_827 ?_
  refine lw_arg C0 hS hl (j := 2) (x := 2) (by omega) hL (by decide) (by decide +kernel) dl_828 dl_829 dl_830 dl_831 dl_832 ?_
  refine W.eq (g2 := F0 m 833 la ((as.map (mx_v (tB l D s.heap.size (fun _ => a0) s.heap (mx_tau ag)).2.1.1)).reverse ++ .ref (mx_rho (tB l D s.heap.size (fun _ => a0) s.heap (mx_tau ag)).2.1.1 56) :: mx_v (tB l D s.heap.size (fun _ => a0) s.heap (mx_tau ag)).2.1.1 v :: [])) (by rw [has]; rfl) ?_
  refine mx_Wcallv (B := (tB l D s.heap.size (fun _ => a0) s.heap (mx_tau ag))) (ci := 12) (r := cr_12) (n := 2) A dl_833 me_242 rfl hcell2 (tw lx_7_204 rfl) (tw lx_7_205 rfl) (tw lx_7_203 rfl) hc2 hlen hl.1 (by obtain ⟨x, rfl⟩ := hv; exact Nat.le_of_ble_eq_true rfl) hR1 hLo1 (by decide) (by decide) ⟨by have := le1.1; have := le2.1; show 82 + (q1.1 - h_4.1) + (q2.1 - q1.1) ≤ 600000; simp only [] at *; omega, by have := le1.2; have := le2.2; show h_4.2.1 + (q1.2.1 - h_4.2.1) + (q2.2.1 - q1.2.1) ≤ 7302250; simp only [] at *; omega⟩ (fun H2 locs2 hR2 hLo2 => ?_)
  refine W.eq (g2 := F0 m 836 la (mx_v (tB l D s.heap.size (fun _ => a0) s.heap (mx_tau ag)).2.1.1 v :: mx_v (tB l D s.heap.size (fun _ => a0) s.heap (mx_tau ag)).2.1.1 v :: [])) rfl ?_
  have hS2 := lw_S hR2 hLo2
  have hend := lw_end (cells := 82 + (q1.1 - h_4.1) + (q2.1 - q1.1)) (slots := h_4.2.1 + (q1.2.1 - h_4.2.1) + (q2.2.1 - q1.2.1)) (e := e) (below := below) (l := l) C0 hL6 hS2 hl (by have := le1.1; have := le2.1; simp only [] at *; omega) (by have := le1.2; have := le2.2; simp only [] at *; omega)
  obtain ⟨x, rfl⟩ := hv
  refine lv_icmp_eq (tgt := 1516) hx0 hb dl_836 (by decide) (fun _ => hend) (fun z => absurd rfl z)
set_option maxHeartbeats 4000000 in
set_option maxRecDepth 100000 in
theorem lc_21 {as : List Value} (C0 : lw_At p s m meth c b L xs) (hL : L ≤ 6) (hL6 : L = 6) (A : mx_Wx (tB l D s.heap.size (fun _ => a0) s.heap (mx_tau ag)) p s m #[Value.ref b] c code 4 R_law) (hR : mx_Rp (tB l D s.heap.size (fun _ => a0) s.heap (mx_tau ag)).2.1.1 s h_4 H) (hLo : ∀ q ∈ locs, mx_up (tB l D s.heap.size (fun _ => a0) s.heap (mx_tau ag)).2.1 q.base) (hcx : ∃ fs, mx_cell h_4 1 = some (.inl (11, fs))) (hn4 : h_4.1 = 83) (hs4 : h_4.2.1 ≤ 1000000) (hl : lv_has la 4 (lw_lv b (mx_rho (tB l D s.heap.size (fun _ => a0) s.heap (mx_tau ag)).2.1.1 1) (mx_rho (tB l D s.heap.size (fun _ => a0) s.heap (mx_tau ag)).2.1.1 56) 0))
    (has : as.map (mx_v (tB l D s.heap.size (fun _ => a0) s.heap (mx_tau ag)).2.1.1) = [.int (xs 1), .int (xs 2)]) (hlen : as.length = 2) (hTw : mx_Tw (tB l D s.heap.size (fun _ => a0) s.heap (mx_tau ag)) true 110 245 as) : W p l e room_1 s m #[Value.ref b] below meth c H locs 82 h_4.2.1 (lw_Z below #[Value.ref b] s) (F0 m 841 la []) := by
  obtain ⟨hx0, hb, hr, hml, hown, hts, hX, hbl, hlocks, hgv⟩ := id C0
  obtain ⟨v, q1, q2, fs, hc1, hc2, hcell2, hb1, hb2, hv⟩ := hTw
  have hS := lw_S hR hLo
  refine lv_aload_n hx0 hb dl_841 rfl (lv_at hl 1 rfl) ?_
  refine lw_arg C0 hS hl (j := 1) (x := 1) (by omega) hL (by decide) (by decide +kernel) dl_842 dl_843 dl_844 dl_845 dl_846 ?_
  refine lw_arg C0 hS hl (j := 2) (x := 2) (by omega) hL (by decide) (by decide +kernel) dl_847 dl_848 dl_849 dl_850 dl_851 ?_
  refine W.eq (g2 := F0 m 852 la ((as.map (mx_v (tB l D s.heap.size (fun _ => a0) s.heap (mx_tau ag)).2.1.1)).reverse ++ .ref (mx_rho (tB l D s.heap.size (fun _ => a0) s.heap (mx_tau ag)).2.1.1 1) :: [])) (by rw [has]; rfl) ?_
  obtain ⟨fs1, hcell1⟩ := hcx
  have le1 := hc1.choose_spec.2.1
  have le2 := hc2.choose_spec.2.1
  refine mx_Wcallv (B := (tB l D s.heap.size (fun _ => a0) s.heap (mx_tau ag))) (ci := 11) (r := cr_11) (n := 2) A dl_852 me_110 rfl hcell1 (tw lx_4_199 rfl) (tw lx_4_200 rfl) (tw lx_4_198 rfl) hc1 hlen hl.1 (by decide) hR hLo (by decide) (by decide) ⟨by have := le1.1; have := le2.1; show 82 + (q1.1 - h_4.1) ≤ 600000; simp only [] at *; omega, by have := le1.2; have := le2.2; show h_4.2.1 + (q1.2.1 - h_4.2.1) ≤ 7302250; simp only [] at *; omega⟩ (fun H1 locs1 hR1 hLo1 => ?_)
  have hS1 := lw_S hR1 hLo1
  clear hS
  have hS := hS1
  refine W.eq (g2 := F0 m 855 la (mx_v (tB l D s.heap.size (fun _ => a0) s.heap (mx_tau ag)).2.1.1 v :: [])) rfl ?_
  refine lv_aload_n hx0 hb dl_855 rfl (lv_at hl 2 rfl) ?_
  refine lw_arg C0 hS hl (j := 1) (x := 1) (by omega) hL (by decide) (by decide +kernel) dl_856 dl_857 dl_858 dl_859 dl_860 ?_
  refine lw_arg C0 hS hl (j := 2) (x := 2) (by omega) hL (by decide) (by decide +kernel) dl_861 dl_862 dl_863 dl_864 dl_865 ?_
  refine W.eq (g2 := F0 m 866 la ((as.map (mx_v (tB l D s.heap.size (fun _ => a0) s.heap (mx_tau ag)).2.1.1)).reverse ++ .ref (mx_rho (tB l D s.heap.size (fun _ => a0) s.heap (mx_tau ag)).2.1.1 56) :: mx_v (tB l D s.heap.size (fun _ => a0) s.heap (mx_tau ag)).2.1.1 v :: [])) (by rw [has]; rfl) ?_
  refine mx_Wcallv (B := (tB l D s.heap.size (fun _ => a0) s.heap (mx_tau ag))) (ci := 12) (r := cr_12) (n := 2) A dl_866 me_245 rfl hcell2 (tw lx_7_208 rfl) (tw lx_7_209 rfl) (tw lx_7_207 rfl) hc2 hlen hl.1 (by obtain ⟨x, rfl⟩ := hv; exact Nat.le_of_ble_eq_true rfl) hR1 hLo1 (by decide) (by decide) ⟨by have := le1.1; have := le2.1; show 82 + (q1.1 - h_4.1) + (q2.1 - q1.1) ≤ 600000; simp only [] at *; omega, by have := le1.2; have := le2.2; show h_4.2.1 + (q1.2.1 - h_4.2.1) + (q2.2.1 - q1.2.1) ≤ 7302250; simp only [] at *; omega⟩ (fun H2 locs2 hR2 hLo2 => ?_)
  refine W.eq (g2 := F0 m 869 la (mx_v (tB l D s.heap.size (fun _ => a0) s.heap (mx_tau ag)).2.1.1 v :: mx_v (tB l D s.heap.size (fun _ => a0) s.heap (mx_tau ag)).2.1.1 v :: [])) rfl ?_
  have hS2 := lw_S hR2 hLo2
  have hend := lw_end (cells := 82 + (q1.1 - h_4.1) + (q2.1 - q1.1)) (slots := h_4.2.1 + (q1.2.1 - h_4.2.1) + (q2.2.1 - q1.2.1)) (e := e) (below := below) (l := l) C0 hL6 hS2 hl (by have := le1.1; have := le2.1; simp only [] at *; omega) (by have := le1.2; have := le2.2; simp only [] at *; omega)
  obtain ⟨x, rfl⟩ := hv
  refine W.lcmp hx0 hb dl_869 ?_
  refine lv_if_eq (tgt := 1516) hx0 hb dl_870 (by decide) (fun _ => hend) (fun z => absurd (by simp [lg_cmp]) z)
set_option maxHeartbeats 4000000 in
set_option maxRecDepth 100000 in
theorem lc_22 {as : List Value} (C0 : lw_At p s m meth c b L xs) (hL : L ≤ 6) (hL6 : L = 6) (A : mx_Wx (tB l D s.heap.size (fun _ => a0) s.heap (mx_tau ag)) p s m #[Value.ref b] c code 4 R_law) (hR : mx_Rp (tB l D s.heap.size (fun _ => a0) s.heap (mx_tau ag)).2.1.1 s h_4 H) (hLo : ∀ q ∈ locs, mx_up (tB l D s.heap.size (fun _ => a0) s.heap (mx_tau ag)).2.1 q.base) (hcx : ∃ fs, mx_cell h_4 1 = some (.inl (11, fs))) (hn4 : h_4.1 = 83) (hs4 : h_4.2.1 ≤ 1000000) (hl : lv_has la 4 (lw_lv b (mx_rho (tB l D s.heap.size (fun _ => a0) s.heap (mx_tau ag)).2.1.1 1) (mx_rho (tB l D s.heap.size (fun _ => a0) s.heap (mx_tau ag)).2.1.1 56) 0))
    (has : as.map (mx_v (tB l D s.heap.size (fun _ => a0) s.heap (mx_tau ag)).2.1.1) = [.int (xs 1)]) (hlen : as.length = 1) (hTw : mx_Tw (tB l D s.heap.size (fun _ => a0) s.heap (mx_tau ag)) false 111 247 as) : W p l e room_1 s m #[Value.ref b] below meth c H locs 82 h_4.2.1 (lw_Z below #[Value.ref b] s) (F0 m 875 la []) := by
  obtain ⟨hx0, hb, hr, hml, hown, hts, hX, hbl, hlocks, hgv⟩ := id C0
  obtain ⟨v, q1, q2, fs, hc1, hc2, hcell2, hb1, hb2, hv⟩ := hTw
  have hS := lw_S hR hLo
  refine lv_aload_n hx0 hb dl_875 rfl (lv_at hl 1 rfl) ?_
  refine lw_arg C0 hS hl (j := 1) (x := 1) (by omega) hL (by decide) (by decide +kernel) dl_876 dl_877 dl_878 dl_879 dl_880 ?_
  refine W.eq (g2 := F0 m 881 la ((as.map (mx_v (tB l D s.heap.size (fun _ => a0) s.heap (mx_tau ag)).2.1.1)).reverse ++ .ref (mx_rho (tB l D s.heap.size (fun _ => a0) s.heap (mx_tau ag)).2.1.1 1) :: [])) (by rw [has]; rfl) ?_
  obtain ⟨fs1, hcell1⟩ := hcx
  have le1 := hc1.choose_spec.2.1
  have le2 := hc2.choose_spec.2.1
  refine mx_Wcallv (B := (tB l D s.heap.size (fun _ => a0) s.heap (mx_tau ag))) (ci := 11) (r := cr_11) (n := 1) A dl_881 me_111 rfl hcell1 (tw lx_4_223 rfl) (tw lx_4_224 rfl) (tw lx_4_222 rfl) hc1 hlen hl.1 (by decide) hR hLo (by decide) (by decide) ⟨by have := le1.1; have := le2.1; show 82 + (q1.1 - h_4.1) ≤ 600000; simp only [] at *; omega, by have := le1.2; have := le2.2; show h_4.2.1 + (q1.2.1 - h_4.2.1) ≤ 7302250; simp only [] at *; omega⟩ (fun H1 locs1 hR1 hLo1 => ?_)
  have hS1 := lw_S hR1 hLo1
  clear hS
  have hS := hS1
  refine W.eq (g2 := F0 m 884 la (mx_v (tB l D s.heap.size (fun _ => a0) s.heap (mx_tau ag)).2.1.1 v :: [])) rfl ?_
  refine lv_aload_n hx0 hb dl_884 rfl (lv_at hl 2 rfl) ?_
  refine lw_arg C0 hS hl (j := 1) (x := 1) (by omega) hL (by decide) (by decide +kernel) dl_885 dl_886 dl_887 dl_888 dl_889 ?_
  refine W.eq (g2 := F0 m 890 la ((as.map (mx_v (tB l D s.heap.size (fun _ => a0) s.heap (mx_tau ag)).2.1.1)).reverse ++ .ref (mx_rho (tB l D s.heap.size (fun _ => a0) s.heap (mx_tau ag)).2.1.1 56) :: mx_v (tB l D s.heap.size (fun _ => a0) s.heap (mx_tau ag)).2.1.1 v :: [])) (by rw [has]; rfl) ?_
  refine mx_Wcallv (B := (tB l D s.heap.size (fun _ => a0) s.heap (mx_tau ag))) (ci := 12) (r := cr_12) (n := 1) A dl_890 me_247 rfl hcell2 (tw lx_7_221 rfl) (tw lx_7_222 rfl) (tw lx_7_220 rfl) hc2 hlen hl.1 (by obtain ⟨x, rfl⟩ := hv; exact Nat.le_of_ble_eq_true rfl) hR1 hLo1 (by decide) (by decide) ⟨by have := le1.1; have := le2.1; show 82 + (q1.1 - h_4.1) + (q2.1 - q1.1) ≤ 600000; simp only [] at *; omega, by have := le1.2; have := le2.2; show h_4.2.1 + (q1.2.1 - h_4.2.1) + (q2.2.1 - q1.2.1) ≤ 7302250; simp only [] at *; omega⟩ (fun H2 locs2 hR2 hLo2 => ?_)
  refine W.eq (g2 := F0 m 893 la (mx_v (tB l D s.heap.size (fun _ => a0) s.heap (mx_tau ag)).2.1.1 v :: mx_v (tB l D s.heap.size (fun _ => a0) s.heap (mx_tau ag)).2.1.1 v :: [])) rfl ?_
  have hS2 := lw_S hR2 hLo2
  have hend := lw_end (cells := 82 + (q1.1 - h_4.1) + (q2.1 - q1.1)) (slots := h_4.2.1 + (q1.2.1 - h_4.2.1) + (q2.2.1 - q1.2.1)) (e := e) (below := below) (l := l) C0 hL6 hS2 hl (by have := le1.1; have := le2.1; simp only [] at *; omega) (by have := le1.2; have := le2.2; simp only [] at *; omega)
  obtain ⟨x, rfl⟩ := hv
  refine lv_icmp_eq (tgt := 1516) hx0 hb dl_893 (by decide) (fun _ => hend) (fun z => absurd rfl z)
set_option maxHeartbeats 4000000 in
set_option maxRecDepth 100000 in
theorem lc_23 {as : List Value} (C0 : lw_At p s m meth c b L xs) (hL : L ≤ 6) (hL6 : L = 6) (A : mx_Wx (tB l D s.heap.size (fun _ => a0) s.heap (mx_tau ag)) p s m #[Value.ref b] c code 4 R_law) (hR : mx_Rp (tB l D s.heap.size (fun _ => a0) s.heap (mx_tau ag)).2.1.1 s h_4 H) (hLo : ∀ q ∈ locs, mx_up (tB l D s.heap.size (fun _ => a0) s.heap (mx_tau ag)).2.1 q.base) (hcx : ∃ fs, mx_cell h_4 1 = some (.inl (11, fs))) (hn4 : h_4.1 = 83) (hs4 : h_4.2.1 ≤ 1000000) (hl : lv_has la 4 (lw_lv b (mx_rho (tB l D s.heap.size (fun _ => a0) s.heap (mx_tau ag)).2.1.1 1) (mx_rho (tB l D s.heap.size (fun _ => a0) s.heap (mx_tau ag)).2.1.1 56) 0))
    (has : as.map (mx_v (tB l D s.heap.size (fun _ => a0) s.heap (mx_tau ag)).2.1.1) = []) (hlen : as.length = 0) (hTw : mx_Tw (tB l D s.heap.size (fun _ => a0) s.heap (mx_tau ag)) false 112 248 as) : W p l e room_1 s m #[Value.ref b] below meth c H locs 82 h_4.2.1 (lw_Z below #[Value.ref b] s) (F0 m 898 la []) := by
  obtain ⟨hx0, hb, hr, hml, hown, hts, hX, hbl, hlocks, hgv⟩ := id C0
  obtain ⟨v, q1, q2, fs, hc1, hc2, hcell2, hb1, hb2, hv⟩ := hTw
  have hS := lw_S hR hLo
  refine lv_aload_n hx0 hb dl_898 rfl (lv_at hl 1 rfl) ?_
  refine W.eq (g2 := F0 m 899 la ((as.map (mx_v (tB l D s.heap.size (fun _ => a0) s.heap (mx_tau ag)).2.1.1)).reverse ++ .ref (mx_rho (tB l D s.heap.size (fun _ => a0) s.heap (mx_tau ag)).2.1.1 1) :: [])) (by rw [has]; rfl) ?_
  obtain ⟨fs1, hcell1⟩ := hcx
  have le1 := hc1.choose_spec.2.1
  have le2 := hc2.choose_spec.2.1
  refine mx_Wcallv (B := (tB l D s.heap.size (fun _ => a0) s.heap (mx_tau ag))) (ci := 11) (r := cr_11) (n := 0) A dl_899 me_112 rfl hcell1 (tw lx_4_238 rfl) (tw lx_4_239 rfl) (tw lx_4_237 rfl) hc1 hlen hl.1 (by decide) hR hLo (by decide) (by decide) ⟨by have := le1.1; have := le2.1; show 82 + (q1.1 - h_4.1) ≤ 600000; simp only [] at *; omega, by have := le1.2; have := le2.2; show h_4.2.1 + (q1.2.1 - h_4.2.1) ≤ 7302250; simp only [] at *; omega⟩ (fun H1 locs1 hR1 hLo1 => ?_)
  have hS1 := lw_S hR1 hLo1
  clear hS
  have hS := hS1
  refine W.eq (g2 := F0 m 902 la (mx_v (tB l D s.heap.size (fun _ => a0) s.heap (mx_tau ag)).2.1.1 v :: [])) rfl ?_
  refine lv_aload_n hx0 hb dl_902 rfl (lv_at hl 2 rfl) ?_
  refine W.eq (g2 := F0 m 903 la ((as.map (mx_v (tB l D s.heap.size (fun _ => a0) s.heap (mx_tau ag)).2.1.1)).reverse ++ .ref (mx_rho (tB l D s.heap.size (fun _ => a0) s.heap (mx_tau ag)).2.1.1 56) :: mx_v (tB l D s.heap.size (fun _ => a0) s.heap (mx_tau ag)).2.1.1 v :: [])) (by rw [has]; rfl) ?_
  refine mx_Wcallv (B := (tB l D s.heap.size (fun _ => a0) s.heap (mx_tau ag))) (ci := 12) (r := cr_12) (n := 0) A dl_903 me_248 rfl hcell2 (tw lx_7_229 rfl) (tw lx_7_230 rfl) (tw lx_7_228 rfl) hc2 hlen hl.1 (by obtain ⟨x, rfl⟩ := hv; exact Nat.le_of_ble_eq_true rfl) hR1 hLo1 (by decide) (by decide) ⟨by have := le1.1; have := le2.1; show 82 + (q1.1 - h_4.1) + (q2.1 - q1.1) ≤ 600000; simp only [] at *; omega, by have := le1.2; have := le2.2; show h_4.2.1 + (q1.2.1 - h_4.2.1) + (q2.2.1 - q1.2.1) ≤ 7302250; simp only [] at *; omega⟩ (fun H2 locs2 hR2 hLo2 => ?_)
  refine W.eq (g2 := F0 m 906 la (mx_v (tB l D s.heap.size (fun _ => a0) s.heap (mx_tau ag)).2.1.1 v :: mx_v (tB l D s.heap.size (fun _ => a0) s.heap (mx_tau ag)).2.1.1 v :: [])) rfl ?_
  have hS2 := lw_S hR2 hLo2
  have hend := lw_end (cells := 82 + (q1.1 - h_4.1) + (q2.1 - q1.1)) (slots := h_4.2.1 + (q1.2.1 - h_4.2.1) + (q2.2.1 - q1.2.1)) (e := e) (below := below) (l := l) C0 hL6 hS2 hl (by have := le1.1; have := le2.1; simp only [] at *; omega) (by have := le1.2; have := le2.2; simp only [] at *; omega)
  obtain ⟨x, rfl⟩ := hv
  refine lv_icmp_eq (tgt := 1516) hx0 hb dl_906 (by decide) (fun _ => hend) (fun z => absurd rfl z)
set_option maxHeartbeats 4000000 in
set_option maxRecDepth 100000 in
theorem lc_24 {as : List Value} (C0 : lw_At p s m meth c b L xs) (hL : L ≤ 6) (hL6 : L = 6) (A : mx_Wx (tB l D s.heap.size (fun _ => a0) s.heap (mx_tau ag)) p s m #[Value.ref b] c code 4 R_law) (hR : mx_Rp (tB l D s.heap.size (fun _ => a0) s.heap (mx_tau ag)).2.1.1 s h_4 H) (hLo : ∀ q ∈ locs, mx_up (tB l D s.heap.size (fun _ => a0) s.heap (mx_tau ag)).2.1 q.base) (hcx : ∃ fs, mx_cell h_4 1 = some (.inl (11, fs))) (hn4 : h_4.1 = 83) (hs4 : h_4.2.1 ≤ 1000000) (hl : lv_has la 4 (lw_lv b (mx_rho (tB l D s.heap.size (fun _ => a0) s.heap (mx_tau ag)).2.1.1 1) (mx_rho (tB l D s.heap.size (fun _ => a0) s.heap (mx_tau ag)).2.1.1 56) 0))
    (has : as.map (mx_v (tB l D s.heap.size (fun _ => a0) s.heap (mx_tau ag)).2.1.1) = [.int (xs 1)]) (hlen : as.length = 1) (hTw : mx_Tw (tB l D s.heap.size (fun _ => a0) s.heap (mx_tau ag)) false 113 249 as) : W p l e room_1 s m #[Value.ref b] below meth c H locs 82 h_4.2.1 (lw_Z below #[Value.ref b] s) (F0 m 911 la []) := by
  obtain ⟨hx0, hb, hr, hml, hown, hts, hX, hbl, hlocks, hgv⟩ := id C0
  obtain ⟨v, q1, q2, fs, hc1, hc2, hcell2, hb1, hb2, hv⟩ := hTw
  have hS := lw_S hR hLo
  refine lv_aload_n hx0 hb dl_911 rfl (lv_at hl 1 rfl) ?_
  refine lw_arg C0 hS hl (j := 1) (x := 1) (by omega) hL (by decide) (by decide +kernel) dl_912 dl_913 dl_914 dl_915 dl_916 ?_
  refine W.eq (g2 := F0 m 917 la ((as.map (mx_v (tB l D s.heap.size (fun _ => a0) s.heap (mx_tau ag)).2.1.1)).reverse ++ .ref (mx_rho (tB l D s.heap.size (fun _ => a0) s.heap (mx_tau ag)).2.1.1 1) :: [])) (by rw [has]; rfl) ?_
  obtain ⟨fs1, hcell1⟩ := hcx
  have le1 := hc1.choose_spec.2.1
  have le2 := hc2.choose_spec.2.1
  refine mx_Wcallv (B := (tB l D s.heap.size (fun _ => a0) s.heap (mx_tau ag))) (ci := 11) (r := cr_11) (n := 1) A dl_917 me_113 rfl hcell1 (tw lx_5_2 rfl) (tw lx_5_3 rfl) (tw lx_5_1 rfl) hc1 hlen hl.1 (by decide) hR hLo (by decide) (by decide) ⟨by have := le1.1; have := le2.1; show 82 + (q1.1 - h_4.1) ≤ 600000; simp only [] at *; omega, by have := le1.2; have := le2.2; show h_4.2.1 + (q1.2.1 - h_4.2.1) ≤ 7302250; simp only [] at *; omega⟩ (fun H1 locs1 hR1 hLo1 => ?_)
  have hS1 := lw_S hR1 hLo1
  clear hS
  have hS := hS1
  refine W.eq (g2 := F0 m 920 la (mx_v (tB l D s.heap.size (fun _ => a0) s.heap (mx_tau ag)).2.1.1 v :: [])) rfl ?_
  refine lv_aload_n hx0 hb dl_920 rfl (lv_at hl 2 rfl) ?_
  refine lw_arg C0 hS hl (j := 1) (x := 1) (by omega) hL (by decide) (by decide +kernel) dl_921 dl_922 dl_923 dl_924 dl_925 ?_
  refine W.eq (g2 := F0 m 926 la ((as.map (mx_v (tB l D s.heap.size (fun _ => a0) s.heap (mx_tau ag)).2.1.1)).reverse ++ .ref (mx_rho (tB l D s.heap.size (fun _ => a0) s.heap (mx_tau ag)).2.1.1 56) :: mx_v (tB l D s.heap.size (fun _ => a0) s.heap (mx_tau ag)).2.1.1 v :: [])) (by rw [has]; rfl) ?_
  refine mx_Wcallv (B := (tB l D s.heap.size (fun _ => a0) s.heap (mx_tau ag))) (ci := 12) (r := cr_12) (n := 1) A dl_926 me_249 rfl hcell2 (tw lx_7_233 rfl) (tw lx_7_234 rfl) (tw lx_7_232 rfl) hc2 hlen hl.1 (by obtain ⟨x, rfl⟩ := hv; exact Nat.le_of_ble_eq_true rfl) hR1 hLo1 (by decide) (by decide) ⟨by have := le1.1; have := le2.1; show 82 + (q1.1 - h_4.1) + (q2.1 - q1.1) ≤ 600000; simp only [] at *; omega, by have := le1.2; have := le2.2; show h_4.2.1 + (q1.2.1 - h_4.2.1) + (q2.2.1 - q1.2.1) ≤ 7302250; simp only [] at *; omega⟩ (fun H2 locs2 hR2 hLo2 => ?_)
  refine W.eq (g2 := F0 m 929 la (mx_v (tB l D s.heap.size (fun _ => a0) s.heap (mx_tau ag)).2.1.1 v :: mx_v (tB l D s.heap.size (fun _ => a0) s.heap (mx_tau ag)).2.1.1 v :: [])) rfl ?_
  have hS2 := lw_S hR2 hLo2
  have hend := lw_end (cells := 82 + (q1.1 - h_4.1) + (q2.1 - q1.1)) (slots := h_4.2.1 + (q1.2.1 - h_4.2.1) + (q2.2.1 - q1.2.1)) (e := e) (below := below) (l := l) C0 hL6 hS2 hl (by have := le1.1; have := le2.1; simp only [] at *; omega) (by have := le1.2; have := le2.2; simp only [] at *; omega)
  obtain ⟨x, rfl⟩ := hv
  refine lv_icmp_eq (tgt := 1516) hx0 hb dl_929 (by decide) (fun _ => hend) (fun z => absurd rfl z)
set_option maxHeartbeats 4000000 in
set_option maxRecDepth 100000 in
theorem lc_25 {as : List Value} (C0 : lw_At p s m meth c b L xs) (hL : L ≤ 6) (hL6 : L = 6) (A : mx_Wx (tB l D s.heap.size (fun _ => a0) s.heap (mx_tau ag)) p s m #[Value.ref b] c code 4 R_law) (hR : mx_Rp (tB l D s.heap.size (fun _ => a0) s.heap (mx_tau ag)).2.1.1 s h_4 H) (hLo : ∀ q ∈ locs, mx_up (tB l D s.heap.size (fun _ => a0) s.heap (mx_tau ag)).2.1 q.base) (hcx : ∃ fs, mx_cell h_4 1 = some (.inl (11, fs))) (hn4 : h_4.1 = 83) (hs4 : h_4.2.1 ≤ 1000000) (hl : lv_has la 4 (lw_lv b (mx_rho (tB l D s.heap.size (fun _ => a0) s.heap (mx_tau ag)).2.1.1 1) (mx_rho (tB l D s.heap.size (fun _ => a0) s.heap (mx_tau ag)).2.1.1 56) 0))
    (has : as.map (mx_v (tB l D s.heap.size (fun _ => a0) s.heap (mx_tau ag)).2.1.1) = [.int (xs 1), .int (xs 2)]) (hlen : as.length = 2) (hTw : mx_Tw (tB l D s.heap.size (fun _ => a0) s.heap (mx_tau ag)) false 114 250 as) : W p l e room_1 s m #[Value.ref b] below meth c H locs 82 h_4.2.1 (lw_Z below #[Value.ref b] s) (F0 m 934 la []) := by
  obtain ⟨hx0, hb, hr, hml, hown, hts, hX, hbl, hlocks, hgv⟩ := id C0
  obtain ⟨v, q1, q2, fs, hc1, hc2, hcell2, hb1, hb2, hv⟩ := hTw
  have hS := lw_S hR hLo
  refine lv_aload_n hx0 hb dl_934 rfl (lv_at hl 1 rfl) ?_
  refine lw_arg C0 hS hl (j := 1) (x := 1) (by omega) hL (by decide) (by decide +kernel) dl_935 dl_936 dl_937 dl_938 dl_939 ?_
  refine lw_arg C0 hS hl (j := 2) (x := 2) (by omega) hL (by decide) (by decide +kernel) dl_940 dl_941 dl_942 dl_943 dl_944 ?_
  refine W.eq (g2 := F0 m 945 la ((as.map (mx_v (tB l D s.heap.size (fun _ => a0) s.heap (mx_tau ag)).2.1.1)).reverse ++ .ref (mx_rho (tB l D s.heap.size (fun _ => a0) s.heap (mx_tau ag)).2.1.1 1) :: [])) (by rw [has]; rfl) ?_
  obtain ⟨fs1, hcell1⟩ := hcx
  have le1 := hc1.choose_spec.2.1
  have le2 := hc2.choose_spec.2.1
  refine mx_Wcallv (B := (tB l D s.heap.size (fun _ => a0) s.heap (mx_tau ag))) (ci := 11) (r := cr_11) (n := 2) A dl_945 me_114 rfl hcell1 (tw lx_5_6 rfl) (tw lx_5_7 rfl) (tw lx_5_5 rfl) hc1 hlen hl.1 (by decide) hR hLo (by decide) (by decide) ⟨by have := le1.1; have := le2.1; show 82 + (q1.1 - h_4.1) ≤ 600000; simp only [] at *; omega, by have := le1.2; have := le2.2; show h_4.2.1 + (q1.2.1 - h_4.2.1) ≤ 7302250; simp only [] at *; omega⟩ (fun H1 locs1 hR1 hLo1 => ?_)
  have hS1 := lw_S hR1 hLo1
  clear hS
  have hS := hS1
  refine W.eq (g2 := F0 m 948 la (mx_v (tB l D s.heap.size (fun _ => a0) s.heap (mx_tau ag)).2.1.1 v :: [])) rfl ?_
  refine lv_aload_n hx0 hb dl_948 rfl (lv_at hl 2 rfl) ?_
  refine lw_arg C0 hS hl (j := 1) (x := 1) (by omega) hL (by decide) (by decide +kernel) dl_949 dl_950 dl_951 dl_952 dl_953 ?_
  refine lw_arg C0 hS hl (j := 2) (x := 2) (by omega) hL (by decide) (by decide +kernel) dl_954 dl_955 dl_956 dl_957 dl_958 ?_
  refine W.eq (g2 := F0 m 959 la ((as.map (mx_v (tB l D s.heap.size (fun _ => a0) s.heap (mx_tau ag)).2.1.1)).reverse ++ .ref (mx_rho (tB l D s.heap.size (fun _ => a0) s.heap (mx_tau ag)).2.1.1 56) :: mx_v (tB l D s.heap.size (fun _ => a0) s.heap (mx_tau ag)).2.1.1 v :: [])) (by rw [has]; rfl) ?_
  refine mx_Wcallv (B := (tB l D s.heap.size (fun _ => a0) s.heap (mx_tau ag))) (ci := 12) (r := cr_12) (n := 2) A dl_959 me_250 rfl hcell2 (tw lx_7_237 rfl) (tw lx_7_238 rfl) (tw lx_7_236 rfl) hc2 hlen hl.1 (by obtain ⟨x, rfl⟩ := hv; exact Nat.le_of_ble_eq_true rfl) hR1 hLo1 (by decide) (by decide) ⟨by have := le1.1; have := le2.1; show 82 + (q1.1 - h_4.1) + (q2.1 - q1.1) ≤ 600000; simp only [] at *; omega, by have := le1.2; have := le2.2; show h_4.2.1 + (q1.2.1 - h_4.2.1) + (q2.2.1 - q1.2.1) ≤ 7302250; simp only [] at *; omega⟩ (fun H2 locs2 hR2 hLo2 => ?_)
  refine W.eq (g2 := F0 m 962 la (mx_v (tB l D s.heap.size (fun _ => a0) s.heap (mx_tau ag)).2.1.1 v :: mx_v (tB l D s.heap.size (fun _ => a0) s.heap (mx_tau ag)).2.1.1 v :: [])) rfl ?_
  have hS2 := lw_S hR2 hLo2
  have hend := lw_end (cells := 82 + (q1.1 - h_4.1) + (q2.1 - q1.1)) (slots := h_4.2.1 + (q1.2.1 - h_4.2.1) + (q2.2.1 - q1.2.1)) (e := e) (below := below) (l := l) C0 hL6 hS2 hl (by have := le1.1; have := le2.1; simp only [] at *; omega) (by have := le1.2; have := le2.2; simp only [] at *; omega)
  obtain ⟨x, rfl⟩ := hv
  refine lv_icmp_eq (tgt := 1516) hx0 hb dl_962 (by decide) (fun _ => hend) (fun z => absurd rfl z)
set_option maxHeartbeats 4000000 in
set_option maxRecDepth 100000 in
theorem lc_26 {as : List Value} (C0 : lw_At p s m meth c b L xs) (hL : L ≤ 6) (hL6 : L = 6) (A : mx_Wx (tB l D s.heap.size (fun _ => a0) s.heap (mx_tau ag)) p s m #[Value.ref b] c code 4 R_law) (hR : mx_Rp (tB l D s.heap.size (fun _ => a0) s.heap (mx_tau ag)).2.1.1 s h_4 H) (hLo : ∀ q ∈ locs, mx_up (tB l D s.heap.size (fun _ => a0) s.heap (mx_tau ag)).2.1 q.base) (hcx : ∃ fs, mx_cell h_4 1 = some (.inl (11, fs))) (hn4 : h_4.1 = 83) (hs4 : h_4.2.1 ≤ 1000000) (hl : lv_has la 4 (lw_lv b (mx_rho (tB l D s.heap.size (fun _ => a0) s.heap (mx_tau ag)).2.1.1 1) (mx_rho (tB l D s.heap.size (fun _ => a0) s.heap (mx_tau ag)).2.1.1 56) 0))
    (has : as.map (mx_v (tB l D s.heap.size (fun _ => a0) s.heap (mx_tau ag)).2.1.1) = []) (hlen : as.length = 0) (hTw : mx_Tw (tB l D s.heap.size (fun _ => a0) s.heap (mx_tau ag)) false 115 251 as) : W p l e room_1 s m #[Value.ref b] below meth c H locs 82 h_4.2.1 (lw_Z below #[Value.ref b] s) (F0 m 967 la []) := by
  obtain ⟨hx0, hb, hr, hml, hown, hts, hX, hbl, hlocks, hgv⟩ := id C0
  obtain ⟨v, q1, q2, fs, hc1, hc2, hcell2, hb1, hb2, hv⟩ := hTw
  have hS := lw_S hR hLo
  refine lv_aload_n hx0 hb dl_967 rfl (lv_at hl 1 rfl) ?_
  refine W.eq (g2 := F0 m 968 la ((as.map (mx_v (tB l D s.heap.size (fun _ => a0) s.heap (mx_tau ag)).2.1.1)).reverse ++ .ref (mx_rho (tB l D s.heap.size (fun _ => a0) s.heap (mx_tau ag)).2.1.1 1) :: [])) (by rw [has]; rfl) ?_
  obtain ⟨fs1, hcell1⟩ := hcx
  have le1 := hc1.choose_spec.2.1
  have le2 := hc2.choose_spec.2.1
  refine mx_Wcallv (B := (tB l D s.heap.size (fun _ => a0) s.heap (mx_tau ag))) (ci := 11) (r := cr_11) (n := 0) A dl_968 me_115 rfl hcell1 (tw lx_5_10 rfl) (tw lx_5_11 rfl) (tw lx_5_9 rfl) hc1 hlen hl.1 (by decide) hR hLo (by decide) (by decide) ⟨by have := le1.1; have := le2.1; show 82 + (q1.1 - h_4.1) ≤ 600000; simp only [] at *; omega, by have := le1.2; have := le2.2; show h_4.2.1 + (q1.2.1 - h_4.2.1) ≤ 7302250; simp only [] at *; omega⟩ (fun H1 locs1 hR1 hLo1 => ?_)
  have hS1 := lw_S hR1 hLo1
  clear hS
  have hS := hS1
  refine W.eq (g2 := F0 m 971 la (mx_v (tB l D s.heap.size (fun _ => a0) s.heap (mx_tau ag)).2.1.1 v :: [])) rfl ?_
  refine lv_aload_n hx0 hb dl_971 rfl (lv_at hl 2 rfl) ?_
  refine W.eq (g2 := F0 m 972 la ((as.map (mx_v (tB l D s.heap.size (fun _ => a0) s.heap (mx_tau ag)).2.1.1)).reverse ++ .ref (mx_rho (tB l D s.heap.size (fun _ => a0) s.heap (mx_tau ag)).2.1.1 56) :: mx_v (tB l D s.heap.size (fun _ => a0) s.heap (mx_tau ag)).2.1.1 v :: [])) (by rw [has]; rfl) ?_
  refine mx_Wcallv (B := (tB l D s.heap.size (fun _ => a0) s.heap (mx_tau ag))) (ci := 12) (r := cr_12) (n := 0) A dl_972 me_251 rfl hcell2 (tw lx_8_1 rfl) (tw lx_8_2 rfl) (tw lx_8_0 rfl) hc2 hlen hl.1 (by obtain ⟨x, rfl⟩ := hv; exact Nat.le_of_ble_eq_true rfl) hR1 hLo1 (by decide) (by decide) ⟨by have := le1.1; have := le2.1; show 82 + (q1.1 - h_4.1) + (q2.1 - q1.1) ≤ 600000; simp only [] at *; omega, by have := le1.2; have := le2.2; show h_4.2.1 + (q1.2.1 - h_4.2.1) + (q2.2.1 - q1.2.1) ≤ 7302250; simp only [] at *; omega⟩ (fun H2 locs2 hR2 hLo2 => ?_)
  refine W.eq (g2 := F0 m 975 la (mx_v (tB l D s.heap.size (fun _ => a0) s.heap (mx_tau ag)).2.1.1 v :: mx_v (tB l D s.heap.size (fun _ => a0) s.heap (mx_tau ag)).2.1.1 v :: [])) rfl ?_
  have hS2 := lw_S hR2 hLo2
  have hend := lw_end (cells := 82 + (q1.1 - h_4.1) + (q2.1 - q1.1)) (slots := h_4.2.1 + (q1.2.1 - h_4.2.1) + (q2.2.1 - q1.2.1)) (e := e) (below := below) (l := l) C0 hL6 hS2 hl (by have := le1.1; have := le2.1; simp only [] at *; omega) (by have := le1.2; have := le2.2; simp only [] at *; omega)
  obtain ⟨x, rfl⟩ := hv
  refine lv_icmp_eq (tgt := 1516) hx0 hb dl_975 (by decide) (fun _ => hend) (fun z => absurd rfl z)
set_option maxHeartbeats 4000000 in
set_option maxRecDepth 100000 in
theorem lc_27 {as : List Value} (C0 : lw_At p s m meth c b L xs) (hL : L ≤ 6) (hL6 : L = 6) (A : mx_Wx (tB l D s.heap.size (fun _ => a0) s.heap (mx_tau ag)) p s m #[Value.ref b] c code 4 R_law) (hR : mx_Rp (tB l D s.heap.size (fun _ => a0) s.heap (mx_tau ag)).2.1.1 s h_4 H) (hLo : ∀ q ∈ locs, mx_up (tB l D s.heap.size (fun _ => a0) s.heap (mx_tau ag)).2.1 q.base) (hcx : ∃ fs, mx_cell h_4 1 = some (.inl (11, fs))) (hn4 : h_4.1 = 83) (hs4 : h_4.2.1 ≤ 1000000) (hl : lv_has la 4 (lw_lv b (mx_rho (tB l D s.heap.size (fun _ => a0) s.heap (mx_tau ag)).2.1.1 1) (mx_rho (tB l D s.heap.size (fun _ => a0) s.heap (mx_tau ag)).2.1.1 56) 0))
    (has : as.map (mx_v (tB l D s.heap.size (fun _ => a0) s.heap (mx_tau ag)).2.1.1) = [.int (xs 1)]) (hlen : as.length = 1) (hTw : mx_Tw (tB l D s.heap.size (fun _ => a0) s.heap (mx_tau ag)) false 116 253 as) : W p l e room_1 s m #[Value.ref b] below meth c H locs 82 h_4.2.1 (lw_Z below #[Value.ref b] s) (F0 m 980 la []) := by
  obtain ⟨hx0, hb, hr, hml, hown, hts, hX, hbl, hlocks, hgv⟩ := id C0
  obtain ⟨v, q1, q2, fs, hc1, hc2, hcell2, hb1, hb2, hv⟩ := hTw
  have hS := lw_S hR hLo
  refine lv_aload_n hx0 hb dl_980 rfl (lv_at hl 1 rfl) ?_
  refine lw_arg C0 hS hl (j := 1) (x := 1) (by omega) hL (by decide) (by decide +kernel) dl_981 dl_982 dl_983 dl_984 dl_985 ?_
  refine W.eq (g2 := F0 m 986 la ((as.map (mx_v (tB l D s.heap.size (fun _ => a0) s.heap (mx_tau ag)).2.1.1)).reverse ++ .ref (mx_rho (tB l D s.heap.size (fun _ => a0) s.heap (mx_tau ag)).2.1.1 1) :: [])) (by rw [has]; rfl) ?_
  obtain ⟨fs1, hcell1⟩ := hcx
  have le1 := hc1.choose_spec.2.1
  have le2 := hc2.choose_spec.2.1
  refine mx_Wcallv (B := (tB l D s.heap.size (fun _ => a0) s.heap (mx_tau ag))) (ci := 11) (r := cr_11) (n := 1) A dl_986 me_116 rfl hcell1 (tw lx_5_14 rfl) (tw lx_5_15 rfl) (tw lx_5_13 rfl) hc1 hlen hl.1 (by decide) hR hLo (by decide) (by decide) ⟨by have := le1.1; have := le2.1; show 82 + (q1.1 - h_4.1) ≤ 600000; simp only [] at *; omega, by have := le1.2; have := le2.2; show h_4.2.1 + (q1.2.1 - h_4.2.1) ≤ 7302250; simp only [] at *; omega⟩ (fun H1 locs1 hR1 hLo1 => ?_)
  have hS1 := lw_S hR1 hLo1
  clear hS
  have hS := hS1
  refine W.eq (g2 := F0 m 989 la (mx_v (tB l D s.heap.size (fun _ => a0) s.heap (mx_tau ag)).2.1.1 v :: [])) rfl ?_
  refine lv_aload_n hx0 hb dl_989 rfl (lv_at hl 2 rfl) ?_
  refine lw_arg C0 hS hl (j := 1) (x := 1) (by omega) hL (by decide) (by decide +kernel) dl_990 dl_991 dl_992 dl_993 dl_994 ?_
  refine W.eq (g2 := F0 m 995 la ((as.map (mx_v (tB l D s.heap.size (fun _ => a0) s.heap (mx_tau ag)).2.1.1)).reverse ++ .ref (mx_rho (tB l D s.heap.size (fun _ => a0) s.heap (mx_tau ag)).2.1.1 56) :: mx_v (tB l D s.heap.size (fun _ => a0) s.heap (mx_tau ag)).2.1.1 v :: [])) (by rw [has]; rfl) ?_
  refine mx_Wcallv (B := (tB l D s.heap.size (fun _ => a0) s.heap (mx_tau ag))) (ci := 12) (r := cr_12) (n := 1) A dl_995 me_253 rfl hcell2 (tw lx_8_5 rfl) (tw lx_8_6 rfl) (tw lx_8_4 rfl) hc2 hlen hl.1 (by obtain ⟨x, rfl⟩ := hv; exact Nat.le_of_ble_eq_true rfl) hR1 hLo1 (by decide) (by decide) ⟨by have := le1.1; have := le2.1; show 82 + (q1.1 - h_4.1) + (q2.1 - q1.1) ≤ 600000; simp only [] at *; omega, by have := le1.2; have := le2.2; show h_4.2.1 + (q1.2.1 - h_4.2.1) + (q2.2.1 - q1.2.1) ≤ 7302250; simp only [] at *; omega⟩ (fun H2 locs2 hR2 hLo2 => ?_)
  refine W.eq (g2 := F0 m 998 la (mx_v (tB l D s.heap.size (fun _ => a0) s.heap (mx_tau ag)).2.1.1 v :: mx_v (tB l D s.heap.size (fun _ => a0) s.heap (mx_tau ag)).2.1.1 v :: [])) rfl ?_
  have hS2 := lw_S hR2 hLo2
  have hend := lw_end (cells := 82 + (q1.1 - h_4.1) + (q2.1 - q1.1)) (slots := h_4.2.1 + (q1.2.1 - h_4.2.1) + (q2.2.1 - q1.2.1)) (e := e) (below := below) (l := l) C0 hL6 hS2 hl (by have := le1.1; have := le2.1; simp only [] at *; omega) (by have := le1.2; have := le2.2; simp only [] at *; omega)
  obtain ⟨x, rfl⟩ := hv
  refine lv_icmp_eq (tgt := 1516) hx0 hb dl_998 (by decide) (fun _ => hend) (fun z => absurd rfl z)
set_option maxHeartbeats 4000000 in
set_option maxRecDepth 100000 in
theorem lc_28 {as : List Value} (C0 : lw_At p s m meth c b L xs) (hL : L ≤ 6) (hL6 : L = 6) (A : mx_Wx (tB l D s.heap.size (fun _ => a0) s.heap (mx_tau ag)) p s m #[Value.ref b] c code 4 R_law) (hR : mx_Rp (tB l D s.heap.size (fun _ => a0) s.heap (mx_tau ag)).2.1.1 s h_4 H) (hLo : ∀ q ∈ locs, mx_up (tB l D s.heap.size (fun _ => a0) s.heap (mx_tau ag)).2.1 q.base) (hcx : ∃ fs, mx_cell h_4 1 = some (.inl (11, fs))) (hn4 : h_4.1 = 83) (hs4 : h_4.2.1 ≤ 1000000) (hl : lv_has la 4 (lw_lv b (mx_rho (tB l D s.heap.size (fun _ => a0) s.heap (mx_tau ag)).2.1.1 1) (mx_rho (tB l D s.heap.size (fun _ => a0) s.heap (mx_tau ag)).2.1.1 56) 0))
    (has : as.map (mx_v (tB l D s.heap.size (fun _ => a0) s.heap (mx_tau ag)).2.1.1) = []) (hlen : as.length = 0) (hTw : mx_Tw (tB l D s.heap.size (fun _ => a0) s.heap (mx_tau ag)) false 117 254 as) : W p l e room_1 s m #[Value.ref b] below meth c H locs 82 h_4.2.1 (lw_Z below #[Value.ref b] s) (F0 m 1003 la []) := by
  obtain ⟨hx0, hb, hr, hml, hown, hts, hX, hbl, hlocks, hgv⟩ := id C0
  obtain ⟨v, q1, q2, fs, hc1, hc2, hcell2, hb1, hb2, hv⟩ := hTw
  have hS := lw_S hR hLo
  refine lv_aload_n hx0 hb dl_1003 rfl (lv_at hl 1 rfl) ?_
  refine W.eq (g2 := F0 m 1004 la ((as.map (mx_v (tB l D s.heap.size (fun _ => a0) s.heap (mx_tau ag)).2.1.1)).reverse ++ .ref (mx_rho (tB l D s.heap.size (fun _ => a0) s.heap (mx_tau ag)).2.1.1 1) :: [])) (by rw [has]; rfl) ?_
  obtain ⟨fs1, hcell1⟩ := hcx
  have le1 := hc1.choose_spec.2.1
  have le2 := hc2.choose_spec.2.1
  refine mx_Wcallv (B := (tB l D s.heap.size (fun _ => a0) s.heap (mx_tau ag))) (ci := 11) (r := cr_11) (n := 0) A dl_1004 me_117 rfl hcell1 (tw lx_5_23 rfl) (tw lx_5_24 rfl) (tw lx_5_22 rfl) hc1 hlen hl.1 (by decide) hR hLo (by decide) (by decide) ⟨by have := le1.1; have := le2.1; show 82 + (q1.1 - h_4.1) ≤ 600000; simp only [] at *; omega, by have := le1.2; have := le2.2; show h_4.2.1 + (q1.2.1 - h_4.2.1) ≤ 7302250; simp only [] at *; omega⟩ (fun H1 locs1 hR1 hLo1 => ?_)
  have hS1 := lw_S hR1 hLo1
  clear hS
  have hS := hS1
  refine W.eq (g2 := F0 m 1007 la (mx_v (tB l D s.heap.size (fun _ => a0) s.heap (mx_tau ag)).2.1.1 v :: [])) rfl ?_
  refine lv_aload_n hx0 hb dl_1007 rfl (lv_at hl 2 rfl) ?_
  refine W.eq (g2 := F0 m 1008 la ((as.map (mx_v (tB l D s.heap.size (fun _ => a0) s.heap (mx_tau ag)).2.1.1)).reverse ++ .ref (mx_rho (tB l D s.heap.size (fun _ => a0) s.heap (mx_tau ag)).2.1.1 56) :: mx_v (tB l D s.heap.size (fun _ => a0) s.heap (mx_tau ag)).2.1.1 v :: [])) (by rw [has]; rfl) ?_
  refine mx_Wcallv (B := (tB l D s.heap.size (fun _ => a0) s.heap (mx_tau ag))) (ci := 12) (r := cr_12) (n := 0) A dl_1008 me_254 rfl hcell2 (tw lx_8_13 rfl) (tw lx_8_14 rfl) (tw lx_8_12 rfl) hc2 hlen hl.1 (by obtain ⟨x, rfl⟩ := hv; exact Nat.le_of_ble_eq_true rfl) hR1 hLo1 (by decide) (by decide) ⟨by have := le1.1; have := le2.1; show 82 + (q1.1 - h_4.1) + (q2.1 - q1.1) ≤ 600000; simp only [] at *; omega, by have := le1.2; have := le2.2; show h_4.2.1 + (q1.2.1 - h_4.2.1) + (q2.2.1 - q1.2.1) ≤ 7302250; simp only [] at *; omega⟩ (fun H2 locs2 hR2 hLo2 => ?_)
  refine W.eq (g2 := F0 m 1011 la (mx_v (tB l D s.heap.size (fun _ => a0) s.heap (mx_tau ag)).2.1.1 v :: mx_v (tB l D s.heap.size (fun _ => a0) s.heap (mx_tau ag)).2.1.1 v :: [])) rfl ?_
  have hS2 := lw_S hR2 hLo2
  have hend := lw_end (cells := 82 + (q1.1 - h_4.1) + (q2.1 - q1.1)) (slots := h_4.2.1 + (q1.2.1 - h_4.2.1) + (q2.2.1 - q1.2.1)) (e := e) (below := below) (l := l) C0 hL6 hS2 hl (by have := le1.1; have := le2.1; simp only [] at *; omega) (by have := le1.2; have := le2.2; simp only [] at *; omega)
  obtain ⟨x, rfl⟩ := hv
  refine lv_icmp_eq (tgt := 1516) hx0 hb dl_1011 (by decide) (fun _ => hend) (fun z => absurd rfl z)
set_option maxHeartbeats 4000000 in
set_option maxRecDepth 100000 in
theorem lc_29 {as : List Value} (C0 : lw_At p s m meth c b L xs) (hL : L ≤ 6) (hL6 : L = 6) (A : mx_Wx (tB l D s.heap.size (fun _ => a0) s.heap (mx_tau ag)) p s m #[Value.ref b] c code 4 R_law) (hR : mx_Rp (tB l D s.heap.size (fun _ => a0) s.heap (mx_tau ag)).2.1.1 s h_4 H) (hLo : ∀ q ∈ locs, mx_up (tB l D s.heap.size (fun _ => a0) s.heap (mx_tau ag)).2.1 q.base) (hcx : ∃ fs, mx_cell h_4 1 = some (.inl (11, fs))) (hn4 : h_4.1 = 83) (hs4 : h_4.2.1 ≤ 1000000) (hl : lv_has la 4 (lw_lv b (mx_rho (tB l D s.heap.size (fun _ => a0) s.heap (mx_tau ag)).2.1.1 1) (mx_rho (tB l D s.heap.size (fun _ => a0) s.heap (mx_tau ag)).2.1.1 56) 0))
    (has : as.map (mx_v (tB l D s.heap.size (fun _ => a0) s.heap (mx_tau ag)).2.1.1) = [.int (xs 1)]) (hlen : as.length = 1) (hTw : mx_Tw (tB l D s.heap.size (fun _ => a0) s.heap (mx_tau ag)) true 118 258 as) : W p l e room_1 s m #[Value.ref b] below meth c H locs 82 h_4.2.1 (lw_Z below #[Value.ref b] s) (F0 m 1016 la []) := by
  obtain ⟨hx0, hb, hr, hml, hown, hts, hX, hbl, hlocks, hgv⟩ := id C0
  obtain ⟨v, q1, q2, fs, hc1, hc2, hcell2, hb1, hb2, hv⟩ := hTw
  have hS := lw_S hR hLo
  refine lv_aload_n hx0 hb dl_1016 rfl (lv_at hl 1 rfl) ?_
  refine lw_arg C0 hS hl (j := 1) (x := 1) (by omega) hL (by decide) (by decide +kernel) dl_1017 dl_1018 dl_1019 dl_1020 dl_1021 ?_
  refine W.eq (g2 := F0 m 1022 la ((as.map (mx_v (tB l D s.heap.size (fun _ => a0) s.heap (mx_tau ag)).2.1.1)).reverse ++ .ref (mx_rho (tB l D s.heap.size (fun _ => a0) s.heap (mx_tau ag)).2.1.1 1) :: [])) (by rw [has]; rfl) ?_
  obtain ⟨fs1, hcell1⟩ := hcx
  have le1 := hc1.choose_spec.2.1
  have le2 := hc2.choose_spec.2.1
  refine mx_Wcallv (B := (tB l D s.heap.size (fun _ => a0) s.heap (mx_tau ag))) (ci := 11) (r := cr_11) (n := 1) A dl_1022 me_118 rfl hcell1 (tw lx_5_27 rfl) (tw lx_5_28 rfl) (tw lx_5_26 rfl) hc1 hlen hl.1 (by decide) hR hLo (by decide) (by decide) ⟨by have := le1.1; have := le2.1; show 82 + (q1.1 - h_4.1) ≤ 600000; simp only [] at *; omega, by have := le1.2; have := le2.2; show h_4.2.1 + (q1.2.1 - h_4.2.1) ≤ 7302250; simp only [] at *; omega⟩ (fun H1 locs1 hR1 hLo1 => ?_)
  have hS1 := lw_S hR1 hLo1
  clear hS
  have hS := hS1
  refine W.eq (g2 := F0 m 1025 la (mx_v (tB l D s.heap.size (fun _ => a0) s.heap (mx_tau ag)).2.1.1 v :: [])) rfl ?_
  refine lv_aload_n hx0 hb dl_1025 rfl (lv_at hl 2 rfl) ?_
  refine lw_arg C0 hS hl (j := 1) (x := 1) (by omega) hL (by decide) (by decide +kernel) dl_1026 dl_1027 dl_1028 dl_1029 dl_1030 ?_
  refine W.eq (g2 := F0 m 1031 la ((as.map (mx_v (tB l D s.heap.size (fun _ => a0) s.heap (mx_tau ag)).2.1.1)).reverse ++ .ref (mx_rho (tB l D s.heap.size (fun _ => a0) s.heap (mx_tau ag)).2.1.1 56) :: mx_v (tB l D s.heap.size (fun _ => a0) s.heap (mx_tau ag)).2.1.1 v :: [])) (by rw [has]; rfl) ?_
  refine mx_Wcallv (B := (tB l D s.heap.size (fun _ => a0) s.heap (mx_tau ag))) (ci := 12) (r := cr_12) (n := 1) A dl_1031 me_258 rfl hcell2 (tw lx_8_17 rfl) (tw lx_8_18 rfl) (tw lx_8_16 rfl) hc2 hlen hl.1 (by obtain ⟨x, rfl⟩ := hv; exact Nat.le_of_ble_eq_true rfl) hR1 hLo1 (by decide) (by decide) ⟨by have := le1.1; have := le2.1; show 82 + (q1.1 - h_4.1) + (q2.1 - q1.1) ≤ 600000; simp only [] at *; omega, by have := le1.2; have := le2.2; show h_4.2.1 + (q1.2.1 - h_4.2.1) + (q2.2.1 - q1.2.1) ≤ 7302250; simp only [] at *; omega⟩ (fun H2 locs2 hR2 hLo2 => ?_)
  refine W.eq (g2 := F0 m 1034 la (mx_v (tB l D s.heap.size (fun _ => a0) s.heap (mx_tau ag)).2.1.1 v :: mx_v (tB l D s.heap.size (fun _ => a0) s.heap (mx_tau ag)).2.1.1 v :: [])) rfl ?_
  have hS2 := lw_S hR2 hLo2
  have hend := lw_end (cells := 82 + (q1.1 - h_4.1) + (q2.1 - q1.1)) (slots := h_4.2.1 + (q1.2.1 - h_4.2.1) + (q2.2.1 - q1.2.1)) (e := e) (below := below) (l := l) C0 hL6 hS2 hl (by have := le1.1; have := le2.1; simp only [] at *; omega) (by have := le1.2; have := le2.2; simp only [] at *; omega)
  obtain ⟨x, rfl⟩ := hv
  refine W.lcmp hx0 hb dl_1034 ?_
  refine lv_if_eq (tgt := 1516) hx0 hb dl_1035 (by decide) (fun _ => hend) (fun z => absurd (by simp [lg_cmp]) z)
set_option maxHeartbeats 4000000 in
set_option maxRecDepth 100000 in
theorem lc_30 {as : List Value} (C0 : lw_At p s m meth c b L xs) (hL : L ≤ 6) (hL6 : L = 6) (A : mx_Wx (tB l D s.heap.size (fun _ => a0) s.heap (mx_tau ag)) p s m #[Value.ref b] c code 4 R_law) (hR : mx_Rp (tB l D s.heap.size (fun _ => a0) s.heap (mx_tau ag)).2.1.1 s h_4 H) (hLo : ∀ q ∈ locs, mx_up (tB l D s.heap.size (fun _ => a0) s.heap (mx_tau ag)).2.1 q.base) (hcx : ∃ fs, mx_cell h_4 1 = some (.inl (11, fs))) (hn4 : h_4.1 = 83) (hs4 : h_4.2.1 ≤ 1000000) (hl : lv_has la 4 (lw_lv b (mx_rho (tB l D s.heap.size (fun _ => a0) s.heap (mx_tau ag)).2.1.1 1) (mx_rho (tB l D s.heap.size (fun _ => a0) s.heap (mx_tau ag)).2.1.1 56) 0))
    (has : as.map (mx_v (tB l D s.heap.size (fun _ => a0) s.heap (mx_tau ag)).2.1.1) = [.int (xs 1), .int (xs 2)]) (hlen : as.length = 2) (hTw : mx_Tw (tB l D s.heap.size (fun _ => a0) s.heap (mx_tau ag)) false 119 259 as) : W p l e room_1 s m #[Value.ref b] below meth c H locs 82 h_4.2.1 (lw_Z below #[Value.ref b] s) (F0 m 1040 la []) := by
  obtain ⟨hx0, hb, hr, hml, hown, hts, hX, hbl, hlocks, hgv⟩ := id C0
  obtain ⟨v, q1, q2, fs, hc1, hc2, hcell2, hb1, hb2, hv⟩ := hTw
  have hS := lw_S hR hLo
  refine lv_aload_n hx0 hb dl_1040 rfl (lv_at hl 1 rfl) ?_
  refine lw_arg C0 hS hl (j := 1) (x := 1) (by omega) hL (by decide) (by decide +kernel) dl_1041 dl_1042 dl_1043 dl_1044 dl_1045 ?_
  refine lw_arg C0 hS hl (j := 2) (x := 2) (by omega) hL (by decide) (by decide +kernel) dl_1046 dl_1047 dl_1048 dl_1049 dl_1050 ?_
  refine W.eq (g2 := F0 m 1051 la ((as.map (mx_v (tB l D s.heap.size (fun _ => a0) s.heap (mx_tau ag)).2.1.1)).reverse ++ .ref (mx_rho (tB l D s.heap.size (fun _ => a0) s.heap (mx_tau ag)).2.1.1 1) :: [])) (by rw [has]; rfl) ?_
  obtain ⟨fs1, hcell1⟩ := hcx
  have le1 := hc1.choose_spec.2.1
  have le2 := hc2.choose_spec.2.1
  refine mx_Wcallv (B := (tB l D s.heap.size (fun _ => a0) s.heap (mx_tau ag))) (ci := 11) (r := cr_11) (n := 2) A dl_1051 me_119 rfl hcell1 (tw lx_5_43 rfl) (tw lx_5_44 rfl) (tw lx_5_42 rfl) hc1 hlen hl.1 (by decide) hR hLo (by decide) (by decide) ⟨by have := le1.1; have := le2.1; show 82 + (q1.1 - h_4.1) ≤ 600000; simp only [] at *; omega, by have := le1.2; have := le2.2; show h_4.2.1 + (q1.2.1 - h_4.2.1) ≤ 7302250; simp only [] at *; omega⟩ (fun H1 locs1 hR1 hLo1 => ?_)
  have hS1 := lw_S hR1 hLo1
  clear hS
  have hS := hS1
  refine W.eq (g2 := F0 m 1054 la (mx_v (tB l D s.heap.size (fun _ => a0) s.heap (mx_tau ag)).2.1.1 v :: [])) rfl ?_
  refine lv_aload_n hx0 hb dl_1054 rfl (lv_at hl 2 rfl) ?_
  refine lw_arg C0 hS hl (j := 1) (x := 1) (by omega) hL (by decide) (by decide +kernel) dl_1055 dl_1056 dl_1057 dl_1058 dl_1059 ?_
  refine lw_arg C0 hS hl (j := 2) (x := 2) (by omega) hL (by decide) (by decide +kernel) dl_1060 dl_1061 dl_1062 dl_1063 dl_1064 ?_
  refine W.eq (g2 := F0 m 1065 la ((as.map (mx_v (tB l D s.heap.size (fun _ => a0) s.heap (mx_tau ag)).2.1.1)).reverse ++ .ref (mx_rho (tB l D s.heap.size (fun _ => a0) s.heap (mx_tau ag)).2.1.1 56) :: mx_v (tB l D s.heap.size (fun _ => a0) s.heap (mx_tau ag)).2.1.1 v :: [])) (by rw [has]; rfl) ?_
  refine mx_Wcallv (B := (tB l D s.heap.size (fun _ => a0) s.heap (mx_tau ag))) (ci := 12) (r := cr_12) (n := 2) A dl_1065 me_259 rfl hcell2 (tw lx_8_35 rfl) (tw lx_8_36 rfl) (tw lx_8_34 rfl) hc2 hlen hl.1 (by obtain ⟨x, rfl⟩ := hv; exact Nat.le_of_ble_eq_true rfl) hR1 hLo1 (by decide) (by decide) ⟨by have := le1.1; have := le2.1; show 82 + (q1.1 - h_4.1) + (q2.1 - q1.1) ≤ 600000; simp only [] at *; omega, by have := le1.2; have := le2.2; show h_4.2.1 + (q1.2.1 - h_4.2.1) + (q2.2.1 - q1.2.1) ≤ 7302250; simp only [] at *; omega⟩ (fun H2 locs2 hR2 hLo2 => ?_)
  refine W.eq (g2 := F0 m 1068 la (mx_v (tB l D s.heap.size (fun _ => a0) s.heap (mx_tau ag)).2.1.1 v :: mx_v (tB l D s.heap.size (fun _ => a0) s.heap (mx_tau ag)).2.1.1 v :: [])) rfl ?_
  have hS2 := lw_S hR2 hLo2
  have hend := lw_end (cells := 82 + (q1.1 - h_4.1) + (q2.1 - q1.1)) (slots := h_4.2.1 + (q1.2.1 - h_4.2.1) + (q2.2.1 - q1.2.1)) (e := e) (below := below) (l := l) C0 hL6 hS2 hl (by have := le1.1; have := le2.1; simp only [] at *; omega) (by have := le1.2; have := le2.2; simp only [] at *; omega)
  obtain ⟨x, rfl⟩ := hv
  refine lv_icmp_eq (tgt := 1516) hx0 hb dl_1068 (by decide) (fun _ => hend) (fun z => absurd rfl z)
set_option maxHeartbeats 4000000 in
set_option maxRecDepth 100000 in
theorem lc_31 {as : List Value} (C0 : lw_At p s m meth c b L xs) (hL : L ≤ 6) (hL6 : L = 6) (A : mx_Wx (tB l D s.heap.size (fun _ => a0) s.heap (mx_tau ag)) p s m #[Value.ref b] c code 4 R_law) (hR : mx_Rp (tB l D s.heap.size (fun _ => a0) s.heap (mx_tau ag)).2.1.1 s h_4 H) (hLo : ∀ q ∈ locs, mx_up (tB l D s.heap.size (fun _ => a0) s.heap (mx_tau ag)).2.1 q.base) (hcx : ∃ fs, mx_cell h_4 1 = some (.inl (11, fs))) (hn4 : h_4.1 = 83) (hs4 : h_4.2.1 ≤ 1000000) (hl : lv_has la 4 (lw_lv b (mx_rho (tB l D s.heap.size (fun _ => a0) s.heap (mx_tau ag)).2.1.1 1) (mx_rho (tB l D s.heap.size (fun _ => a0) s.heap (mx_tau ag)).2.1.1 56) 0))
    (has : as.map (mx_v (tB l D s.heap.size (fun _ => a0) s.heap (mx_tau ag)).2.1.1) = [.int (xs 1), .int (xs 2)]) (hlen : as.length = 2) (hTw : mx_Tw (tB l D s.heap.size (fun _ => a0) s.heap (mx_tau ag)) false 120 260 as) : W p l e room_1 s m #[Value.ref b] below meth c H locs 82 h_4.2.1 (lw_Z below #[Value.ref b] s) (F0 m 1073 la []) := by
  obtain ⟨hx0, hb, hr, hml, hown, hts, hX, hbl, hlocks, hgv⟩ := id C0
  obtain ⟨v, q1, q2, fs, hc1, hc2, hcell2, hb1, hb2, hv⟩ := hTw
  have hS := lw_S hR hLo
  refine lv_aload_n hx0 hb dl_1073 rfl (lv_at hl 1 rfl) ?_
  refine lw_arg C0 hS hl (j := 1) (x := 1) (by omega) hL (by decide) (by decide +kernel) dl_1074 dl_1075 dl_1076 dl_1077 dl_1078 ?_
  refine lw_arg C0 hS hl (j := 2) (x := 2) (by omega) hL (by decide) (by decide +kernel) dl_1079 dl_1080 dl_1081 dl_1082 dl_1083 ?_
  refine W.eq (g2 := F0 m 1084 la ((as.map (mx_v (tB l D s.heap.size (fun _ => a0) s.heap (mx_tau ag)).2.1.1)).reverse ++ .ref (mx_rho (tB l D s.heap.size (fun _ => a0) s.heap (mx_tau ag)).2.1.1 1) :: [])) (by rw [has]; rfl) ?_
  obtain ⟨fs1, hcell1⟩ := hcx
  have le1 := hc1.choose_spec.2.1
  have le2 := hc2.choose_spec.2.1
  refine mx_Wcallv (B := (tB l D s.heap.size (fun _ => a0) s.heap (mx_tau ag))) (ci := 11) (r := cr_11) (n := 2) A dl_1084 me_120 rfl hcell1 (tw lx_5_64 rfl) (tw lx_5_65 rfl) (tw lx_5_63 rfl) hc1 hlen hl.1 (by decide) hR hLo (by decide) (by decide) ⟨by have := le1.1; have := le2.1; show 82 + (q1.1 - h_4.1) ≤ 600000; simp only [] at *; omega, by have := le1.2; have := le2.2; show h_4.2.1 + (q1.2.1 - h_4.2.1) ≤ 7302250; simp only [] at *; omega⟩ (fun H1 locs1 hR1 hLo1 => ?_)
  have hS1 := lw_S hR1 hLo1
  clear hS
  have hS := hS1
  refine W.eq (g2 := F0 m 1087 la (mx_v (tB l D s.heap.size (fun _ => a0) s.heap (mx_tau ag)).2.1.1 v :: [])) rfl ?_
  refine lv_aload_n hx0 hb dl_1087 rfl (lv_at hl 2 rfl) ?_
  refine lw_arg C0 hS hl (j := 1) (x := 1) (by omega) hL (by decide) (by decide +kernel) dl_1088 dl_1089 dl_1090 dl_1091 dl_1092 ?_
  refine lw_arg C0 hS hl (j := 2) (x := 2) (by omega) hL (by decide) (by decide +kernel) dl_1093 dl_1094 dl_1095 dl_1096 dl_1097 ?_
  refine W.eq (g2 := F0 m 1098 la ((as.map (mx_v (tB l D s.heap.size (fun _ => a0) s.heap (mx_tau ag)).2.1.1)).reverse ++ .ref (mx_rho (tB l D s.heap.size (fun _ => a0) s.heap (mx_tau ag)).2.1.1 56) :: mx_v (tB l D s.heap.size (fun _ => a0) s.heap (mx_tau ag)).2.1.1 v :: [])) (by rw [has]; rfl) ?_
  refine mx_Wcallv (B := (tB l D s.heap.size (fun _ => a0) s.heap (mx_tau ag))) (ci := 12) (r := cr_12) (n := 2) A dl_1098 me_260 rfl hcell2 (tw lx_8_39 rfl) (tw lx_8_40 rfl) (tw lx_8_38 rfl) hc2 hlen hl.1 (by obtain ⟨x, rfl⟩ := hv; exact Nat.le_of_ble_eq_true rfl) hR1 hLo1 (by decide) (by decide) ⟨by have := le1.1; have := le2.1; show 82 + (q1.1 - h_4.1) + (q2.1 - q1.1) ≤ 600000; simp only [] at *; omega, by have := le1.2; have := le2.2; show h_4.2.1 + (q1.2.1 - h_4.2.1) + (q2.2.1 - q1.2.1) ≤ 7302250; simp only [] at *; omega⟩ (fun H2 locs2 hR2 hLo2 => ?_)
  refine W.eq (g2 := F0 m 1101 la (mx_v (tB l D s.heap.size (fun _ => a0) s.heap (mx_tau ag)).2.1.1 v :: mx_v (tB l D s.heap.size (fun _ => a0) s.heap (mx_tau ag)).2.1.1 v :: [])) rfl ?_
  have hS2 := lw_S hR2 hLo2
  have hend := lw_end (cells := 82 + (q1.1 - h_4.1) + (q2.1 - q1.1)) (slots := h_4.2.1 + (q1.2.1 - h_4.2.1) + (q2.2.1 - q1.2.1)) (e := e) (below := below) (l := l) C0 hL6 hS2 hl (by have := le1.1; have := le2.1; simp only [] at *; omega) (by have := le1.2; have := le2.2; simp only [] at *; omega)
  obtain ⟨x, rfl⟩ := hv
  refine lv_icmp_eq (tgt := 1516) hx0 hb dl_1101 (by decide) (fun _ => hend) (fun z => absurd rfl z)
set_option maxHeartbeats 4000000 in
set_option maxRecDepth 100000 in
theorem lc_32 {as : List Value} (C0 : lw_At p s m meth c b L xs) (hL : L ≤ 6) (hL6 : L = 6) (A : mx_Wx (tB l D s.heap.size (fun _ => a0) s.heap (mx_tau ag)) p s m #[Value.ref b] c code 4 R_law) (hR : mx_Rp (tB l D s.heap.size (fun _ => a0) s.heap (mx_tau ag)).2.1.1 s h_4 H) (hLo : ∀ q ∈ locs, mx_up (tB l D s.heap.size (fun _ => a0) s.heap (mx_tau ag)).2.1 q.base) (hcx : ∃ fs, mx_cell h_4 1 = some (.inl (11, fs))) (hn4 : h_4.1 = 83) (hs4 : h_4.2.1 ≤ 1000000) (hl : lv_has la 4 (lw_lv b (mx_rho (tB l D s.heap.size (fun _ => a0) s.heap (mx_tau ag)).2.1.1 1) (mx_rho (tB l D s.heap.size (fun _ => a0) s.heap (mx_tau ag)).2.1.1 56) 0))
    (has : as.map (mx_v (tB l D s.heap.size (fun _ => a0) s.heap (mx_tau ag)).2.1.1) = [.int (xs 1)]) (hlen : as.length = 1) (hTw : mx_Tw (tB l D s.heap.size (fun _ => a0) s.heap (mx_tau ag)) false 121 262 as) : W p l e room_1 s m #[Value.ref b] below meth c H locs 82 h_4.2.1 (lw_Z below #[Value.ref b] s) (F0 m 1106 la []) := by
  obtain ⟨hx0, hb, hr, hml, hown, hts, hX, hbl, hlocks, hgv⟩ := id C0
  obtain ⟨v, q1, q2, fs, hc1, hc2, hcell2, hb1, hb2, hv⟩ := hTw
  have hS := lw_S hR hLo
  refine lv_aload_n hx0 hb dl_1106 rfl (lv_at hl 1 rfl) ?_
  refine lw_arg C0 hS hl (j := 1) (x := 1) (by omega) hL (by decide) (by decide +kernel) dl_1107 dl_1108 dl_1109 dl_1110 dl_1111 ?_
  refine W.eq (g2 := F0 m 1112 la ((as.map (mx_v (tB l D s.heap.size (fun _ => a0) s.heap (mx_tau ag)).2.1.1)).reverse ++ .ref (mx_rho (tB l D s.heap.size (fun _ => a0) s.heap (mx_tau ag)).2.1.1 1) :: [])) (by rw [has]; rfl) ?_
  obtain ⟨fs1, hcell1⟩ := hcx
  have le1 := hc1.choose_spec.2.1
  have le2 := hc2.choose_spec.2.1
  refine mx_Wcallv (B := (tB l D s.heap.size (fun _ => a0) s.heap (mx_tau ag))) (ci := 11) (r := cr_11) (n := 1) A dl_1112 me_121 rfl hcell1 (tw lx_5_72 rfl) (tw lx_5_73 rfl) (tw lx_5_71 rfl) hc1 hlen hl.1 (by decide) hR hLo (by decide) (by decide) ⟨by have := le1.1; have := le2.1; show 82 + (q1.1 - h_4.1) ≤ 600000; simp only [] at *; omega, by have := le1.2; have := le2.2; show h_4.2.1 + (q1.2.1 - h_4.2.1) ≤ 7302250; simp only [] at *; omega⟩ (fun H1 locs1 hR1 hLo1 => ?_)
  have hS1 := lw_S hR1 hLo1
  clear hS
  have hS := hS1
  refine W.eq (g2 := F0 m 1115 la (mx_v (tB l D s.heap.size (fun _ => a0) s.heap (mx_tau ag)).2.1.1 v :: [])) rfl ?_
  refine lv_aload_n hx0 hb dl_1115 rfl (lv_at hl 2 rfl) ?_
  refine lw_arg C0 hS hl (j := 1) (x := 1) (by omega) hL (by decide) (by decide +kernel) dl_1116 dl_1117 dl_1118 dl_1119 dl_1120 ?_
  refine W.eq (g2 := F0 m 1121 la ((as.map (mx_v (tB l D s.heap.size (fun _ => a0) s.heap (mx_tau ag)).2.1.1)).reverse ++ .ref (mx_rho (tB l D s.heap.size (fun _ => a0) s.heap (mx_tau ag)).2.1.1 56) :: mx_v (tB l D s.heap.size (fun _ => a0) s.heap (mx_tau ag)).2.1.1 v :: [])) (by rw [has]; rfl) ?_
  refine mx_Wcallv (B := (tB l D s.heap.size (fun _ => a0) s.heap (mx_tau ag))) (ci := 12) (r := cr_12) (n := 1) A dl_1121 me_262 rfl hcell2 (tw lx_8_43 rfl) (tw lx_8_44 rfl) (tw lx_8_42 rfl) hc2 hlen hl.1 (by obtain ⟨x, rfl⟩ := hv; exact Nat.le_of_ble_eq_true rfl) hR1 hLo1 (by decide) (by decide) ⟨by have := le1.1; have := le2.1; show 82 + (q1.1 - h_4.1) + (q2.1 - q1.1) ≤ 600000; simp only [] at *; omega, by have := le1.2; have := le2.2; show h_4.2.1 + (q1.2.1 - h_4.2.1) + (q2.2.1 - q1.2.1) ≤ 7302250; simp only [] at *; omega⟩ (fun H2 locs2 hR2 hLo2 => ?_)
  refine W.eq (g2 := F0 m 1124 la (mx_v (tB l D s.heap.size (fun _ => a0) s.heap (mx_tau ag)).2.1.1 v :: mx_v (tB l D s.heap.size (fun _ => a0) s.heap (mx_tau ag)).2.1.1 v :: [])) rfl ?_
  have hS2 := lw_S hR2 hLo2
  have hend := lw_end (cells := 82 + (q1.1 - h_4.1) + (q2.1 - q1.1)) (slots := h_4.2.1 + (q1.2.1 - h_4.2.1) + (q2.2.1 - q1.2.1)) (e := e) (below := below) (l := l) C0 hL6 hS2 hl (by have := le1.1; have := le2.1; simp only [] at *; omega) (by have := le1.2; have := le2.2; simp only [] at *; omega)
  obtain ⟨x, rfl⟩ := hv
  refine lv_icmp_eq (tgt := 1516) hx0 hb dl_1124 (by decide) (fun _ => hend) (fun z => absurd rfl z)
set_option maxHeartbeats 4000000 in
set_option maxRecDepth 100000 in
theorem lc_33 {as : List Value} (C0 : lw_At p s m meth c b L xs) (hL : L ≤ 6) (hL6 : L = 6) (A : mx_Wx (tB l D s.heap.size (fun _ => a0) s.heap (mx_tau ag)) p s m #[Value.ref b] c code 4 R_law) (hR : mx_Rp (tB l D s.heap.size (fun _ => a0) s.heap (mx_tau ag)).2.1.1 s h_4 H) (hLo : ∀ q ∈ locs, mx_up (tB l D s.heap.size (fun _ => a0) s.heap (mx_tau ag)).2.1 q.base) (hcx : ∃ fs, mx_cell h_4 1 = some (.inl (11, fs))) (hn4 : h_4.1 = 83) (hs4 : h_4.2.1 ≤ 1000000) (hl : lv_has la 4 (lw_lv b (mx_rho (tB l D s.heap.size (fun _ => a0) s.heap (mx_tau ag)).2.1.1 1) (mx_rho (tB l D s.heap.size (fun _ => a0) s.heap (mx_tau ag)).2.1.1 56) 0))
    (has : as.map (mx_v (tB l D s.heap.size (fun _ => a0) s.heap (mx_tau ag)).2.1.1) = [.int (xs 1)]) (hlen : as.length = 1) (hTw : mx_Tw (tB l D s.heap.size (fun _ => a0) s.heap (mx_tau ag)) false 122 264 as) : W p l e room_1 s m #[Value.ref b] below meth c H locs 82 h_4.2.1 (lw_Z below #[Value.ref b] s) (F0 m 1129 la []) := by
  obtain ⟨hx0, hb, hr, hml, hown, hts, hX, hbl, hlocks, hgv⟩ := id C0
  obtain ⟨v, q1, q2, fs, hc1, hc2, hcell2, hb1, hb2, hv⟩ := hTw
  have hS := lw_S hR hLo
  refine lv_aload_n hx0 hb dl_1129 rfl (lv_at hl 1 rfl) ?_
  refine lw_arg C0 hS hl (j := 1) (x := 1) (by omega) hL (by decide) (by decide +kernel) dl_1130 dl_1131 dl_1132 dl_1133 dl_1134 ?_
  refine W.eq (g2 := F0 m 1135 la ((as.map (mx_v (tB l D s.heap.size (fun _ => a0) s.heap (mx_tau ag)).2.1.1)).reverse ++ .ref (mx_rho (tB l D s.heap.size (fun _ => a0) s.heap (mx_tau ag)).2.1.1 1) :: [])) (by rw [has]; rfl) ?_
  obtain ⟨fs1, hcell1⟩ := hcx
  have le1 := hc1.choose_spec.2.1
  have le2 := hc2.choose_spec.2.1
  refine mx_Wcallv (B := (tB l D s.heap.size (fun _ => a0) s.heap (mx_tau ag))) (ci := 11) (r := cr_11) (n := 1) A dl_1135 me_122 rfl hcell1 (tw lx_5_88 rfl) (tw lx_5_89 rfl) (tw lx_5_87 rfl) hc1 hlen hl.1 (by decide) hR hLo (by decide) (by decide) ⟨by have := le1.1; have := le2.1; show 82 + (q1.1 - h_4.1) ≤ 600000; simp only [] at *; omega, by have := le1.2; have := le2.2; show h_4.2.1 + (q1.2.1 - h_4.2.1) ≤ 7302250; simp only [] at *; omega⟩ (fun H1 locs1 hR1 hLo1 => ?_)
  have hS1 := lw_S hR1 hLo1
  clear hS
  have hS := hS1
  refine W.eq (g2 := F0 m 1138 la (mx_v (tB l D s.heap.size (fun _ => a0) s.heap (mx_tau ag)).2.1.1 v :: [])) rfl ?_
  refine lv_aload_n hx0 hb dl_1138 rfl (lv_at hl 2 rfl) ?_
  refine lw_arg C0 hS hl (j := 1) (x := 1) (by omega) hL (by decide) (by decide +kernel) dl_1139 dl_1140 dl_1141 dl_1142 dl_1143 ?_
  refine W.eq (g2 := F0 m 1144 la ((as.map (mx_v (tB l D s.heap.size (fun _ => a0) s.heap (mx_tau ag)).2.1.1)).reverse ++ .ref (mx_rho (tB l D s.heap.size (fun _ => a0) s.heap (mx_tau ag)).2.1.1 56) :: mx_v (tB l D s.heap.size (fun _ => a0) s.heap (mx_tau ag)).2.1.1 v :: [])) (by rw [has]; rfl) ?_
  refine mx_Wcallv (B := (tB l D s.heap.size (fun _ => a0) s.heap (mx_tau ag))) (ci := 12) (r := cr_12) (n := 1) A dl_1144 me_264 rfl hcell2 (tw lx_8_51 rfl) (tw lx_8_52 rfl) (tw lx_8_50 rfl) hc2 hlen hl.1 (by obtain ⟨x, rfl⟩ := hv; exact Nat.le_of_ble_eq_true rfl) hR1 hLo1 (by decide) (by decide) ⟨by have := le1.1; have := le2.1; show 82 + (q1.1 - h_4.1) + (q2.1 - q1.1) ≤ 600000; simp only [] at *; omega, by have := le1.2; have := le2.2; show h_4.2.1 + (q1.2.1 - h_4.2.1) + (q2.2.1 - q1.2.1) ≤ 7302250; simp only [] at *; omega⟩ (fun H2 locs2 hR2 hLo2 => ?_)
  refine W.eq (g2 := F0 m 1147 la (mx_v (tB l D s.heap.size (fun _ => a0) s.heap (mx_tau ag)).2.1.1 v :: mx_v (tB l D s.heap.size (fun _ => a0) s.heap (mx_tau ag)).2.1.1 v :: [])) rfl ?_
  have hS2 := lw_S hR2 hLo2
  have hend := lw_end (cells := 82 + (q1.1 - h_4.1) + (q2.1 - q1.1)) (slots := h_4.2.1 + (q1.2.1 - h_4.2.1) + (q2.2.1 - q1.2.1)) (e := e) (below := below) (l := l) C0 hL6 hS2 hl (by have := le1.1; have := le2.1; simp only [] at *; omega) (by have := le1.2; have := le2.2; simp only [] at *; omega)
  obtain ⟨x, rfl⟩ := hv
  refine lv_icmp_eq (tgt := 1516) hx0 hb dl_1147 (by decide) (fun _ => hend) (fun z => absurd rfl z)
set_option maxHeartbeats 4000000 in
set_option maxRecDepth 100000 in
theorem lc_34 {as : List Value} (C0 : lw_At p s m meth c b L xs) (hL : L ≤ 6) (hL6 : L = 6) (A : mx_Wx (tB l D s.heap.size (fun _ => a0) s.heap (mx_tau ag)) p s m #[Value.ref b] c code 4 R_law) (hR : mx_Rp (tB l D s.heap.size (fun _ => a0) s.heap (mx_tau ag)).2.1.1 s h_4 H) (hLo : ∀ q ∈ locs, mx_up (tB l D s.heap.size (fun _ => a0) s.heap (mx_tau ag)).2.1 q.base) (hcx : ∃ fs, mx_cell h_4 1 = some (.inl (11, fs))) (hn4 : h_4.1 = 83) (hs4 : h_4.2.1 ≤ 1000000) (hl : lv_has la 4 (lw_lv b (mx_rho (tB l D s.heap.size (fun _ => a0) s.heap (mx_tau ag)).2.1.1 1) (mx_rho (tB l D s.heap.size (fun _ => a0) s.heap (mx_tau ag)).2.1.1 56) 0))
    (has : as.map (mx_v (tB l D s.heap.size (fun _ => a0) s.heap (mx_tau ag)).2.1.1) = [.int (xs 1)]) (hlen : as.length = 1) (hTw : mx_Tw (tB l D s.heap.size (fun _ => a0) s.heap (mx_tau ag)) false 123 268 as) : W p l e room_1 s m #[Value.ref b] below meth c H locs 82 h_4.2.1 (lw_Z below #[Value.ref b] s) (F0 m 1152 la []) := by
  obtain ⟨hx0, hb, hr, hml, hown, hts, hX, hbl, hlocks, hgv⟩ := id C0
  obtain ⟨v, q1, q2, fs, hc1, hc2, hcell2, hb1, hb2, hv⟩ := hTw
  have hS := lw_S hR hLo
  refine lv_aload_n hx0 hb dl_1152 rfl (lv_at hl 1 rfl) ?_
  refine lw_arg C0 hS hl (j := 1) (x := 1) (by omega) hL (by decide) (by decide +kernel) dl_1153 dl_1154 dl_1155 dl_1156 dl_1157 ?_
  refine W.eq (g2 := F0 m 1158 la ((as.map (mx_v (tB l D s.heap.size (fun _ => a0) s.heap (mx_tau ag)).2.1.1)).reverse ++ .ref (mx_rho (tB l D s.heap.size (fun _ => a0) s.heap (mx_tau ag)).2.1.1 1) :: [])) (by rw [has]; rfl) ?_
  obtain ⟨fs1, hcell1⟩ := hcx
  have le1 := hc1.choose_spec.2.1
  have le2 := hc2.choose_spec.2.1
  refine mx_Wcallv (B := (tB l D s.heap.size (fun _ => a0) s.heap (mx_tau ag))) (ci := 11) (r := cr_11) (n := 1) A dl_1158 me_123 rfl hcell1 (tw lx_5_97 rfl) (tw lx_5_98 rfl) (tw lx_5_96 rfl) hc1 hlen hl.1 (by decide) hR hLo (by decide) (by decide) ⟨by have := le1.1; have := le2.1; show 82 + (q1.1 - h_4.1) ≤ 600000; simp only [] at *; omega, by have := le1.2; have := le2.2; show h_4.2.1 + (q1.2.1 - h_4.2.1) ≤ 7302250; simp only [] at *; omega⟩ (fun H1 locs1 hR1 hLo1 => ?_)
  have hS1 := lw_S hR1 hLo1
  clear hS
  have hS := hS1
  refine W.eq (g2 := F0 m 1161 la (mx_v (tB l D s.heap.size (fun _ => a0) s.heap (mx_tau ag)).2.1.1 v :: [])) rfl ?_
  refine lv_aload_n hx0 hb dl_1161 rfl (lv_at hl 2 rfl) ?_
  refine lw_arg C0 hS hl (j := 1) (x := 1) (by omega) hL (by decide) (by decide +kernel) dl_1162 dl_1163 dl_1164 dl_1165 dl_1166 ?_
  refine W.eq (g2 := F0 m 1167 la ((as.map (mx_v (tB l D s.heap.size (fun _ => a0) s.heap (mx_tau ag)).2.1.1)).reverse ++ .ref (mx_rho (tB l D s.heap.size (fun _ => a0) s.heap (mx_tau ag)).2.1.1 56) :: mx_v (tB l D s.heap.size (fun _ => a0) s.heap (mx_tau ag)).2.1.1 v :: [])) (by rw [has]; rfl) ?_
  refine mx_Wcallv (B := (tB l D s.heap.size (fun _ => a0) s.heap (mx_tau ag))) (ci := 12) (r := cr_12) (n := 1) A dl_1167 me_268 rfl hcell2 (tw lx_8_62 rfl) (tw lx_8_63 rfl) (tw lx_8_61 rfl) hc2 hlen hl.1 (by obtain ⟨x, rfl⟩ := hv; exact Nat.le_of_ble_eq_true rfl) hR1 hLo1 (by decide) (by decide) ⟨by have := le1.1; have := le2.1; show 82 + (q1.1 - h_4.1) + (q2.1 - q1.1) ≤ 600000; simp only [] at *; omega, by have := le1.2; have := le2.2; show h_4.2.1 + (q1.2.1 - h_4.2.1) + (q2.2.1 - q1.2.1) ≤ 7302250; simp only [] at *; omega⟩ (fun H2 locs2 hR2 hLo2 => ?_)
  refine W.eq (g2 := F0 m 1170 la (mx_v (tB l D s.heap.size (fun _ => a0) s.heap (mx_tau ag)).2.1.1 v :: mx_v (tB l D s.heap.size (fun _ => a0) s.heap (mx_tau ag)).2.1.1 v :: [])) rfl ?_
  have hS2 := lw_S hR2 hLo2
  have hend := lw_end (cells := 82 + (q1.1 - h_4.1) + (q2.1 - q1.1)) (slots := h_4.2.1 + (q1.2.1 - h_4.2.1) + (q2.2.1 - q1.2.1)) (e := e) (below := below) (l := l) C0 hL6 hS2 hl (by have := le1.1; have := le2.1; simp only [] at *; omega) (by have := le1.2; have := le2.2; simp only [] at *; omega)
  obtain ⟨x, rfl⟩ := hv
  refine lv_icmp_eq (tgt := 1516) hx0 hb dl_1170 (by decide) (fun _ => hend) (fun z => absurd rfl z)
set_option maxHeartbeats 4000000 in
set_option maxRecDepth 100000 in
theorem lc_35 {as : List Value} (C0 : lw_At p s m meth c b L xs) (hL : L ≤ 6) (hL6 : L = 6) (A : mx_Wx (tB l D s.heap.size (fun _ => a0) s.heap (mx_tau ag)) p s m #[Value.ref b] c code 4 R_law) (hR : mx_Rp (tB l D s.heap.size (fun _ => a0) s.heap (mx_tau ag)).2.1.1 s h_4 H) (hLo : ∀ q ∈ locs, mx_up (tB l D s.heap.size (fun _ => a0) s.heap (mx_tau ag)).2.1 q.base) (hcx : ∃ fs, mx_cell h_4 1 = some (.inl (11, fs))) (hn4 : h_4.1 = 83) (hs4 : h_4.2.1 ≤ 1000000) (hl : lv_has la 4 (lw_lv b (mx_rho (tB l D s.heap.size (fun _ => a0) s.heap (mx_tau ag)).2.1.1 1) (mx_rho (tB l D s.heap.size (fun _ => a0) s.heap (mx_tau ag)).2.1.1 56) 0))
    (has : as.map (mx_v (tB l D s.heap.size (fun _ => a0) s.heap (mx_tau ag)).2.1.1) = [.int (xs 1)]) (hlen : as.length = 1) (hTw : mx_Tw (tB l D s.heap.size (fun _ => a0) s.heap (mx_tau ag)) false 124 269 as) : W p l e room_1 s m #[Value.ref b] below meth c H locs 82 h_4.2.1 (lw_Z below #[Value.ref b] s) (F0 m 1175 la []) := by
  obtain ⟨hx0, hb, hr, hml, hown, hts, hX, hbl, hlocks, hgv⟩ := id C0
  obtain ⟨v, q1, q2, fs, hc1, hc2, hcell2, hb1, hb2, hv⟩ := hTw
  have hS := lw_S hR hLo
  refine lv_aload_n hx0 hb dl_1175 rfl (lv_at hl 1 rfl) ?_
  refine lw_arg C0 hS hl (j := 1) (x := 1) (by omega) hL (by decide) (by decide +kernel) dl_1176 dl_1177 dl_1178 dl_1179 dl_1180 ?_
  refine W.eq (g2 := F0 m 1181 la ((as.map (mx_v (tB l D s.heap.size (fun _ => a0) s.heap (mx_tau ag)).2.1.1)).reverse ++ .ref (mx_rho (tB l D s.heap.size (fun _ => a0) s.heap (mx_tau ag)).2.1.1 1) :: [])) (by rw [has]; rfl) ?_
  obtain ⟨fs1, hcell1⟩ := hcx
  have le1 := hc1.choose_spec.2.1
  have le2 := hc2.choose_spec.2.1
  refine mx_Wcallv (B := (tB l D s.heap.size (fun _ => a0) s.heap (mx_tau ag))) (ci := 11) (r := cr_11) (n := 1) A dl_1181 me_124 rfl hcell1 (tw lx_5_114 rfl) (tw lx_5_115 rfl) (tw lx_5_113 rfl) hc1 hlen hl.1 (by decide) hR hLo (by decide) (by decide) ⟨by have := le1.1; have := le2.1; show 82 + (q1.1 - h_4.1) ≤ 600000; simp only [] at *; omega, by have := le1.2; have := le2.2; show h_4.2.1 + (q1.2.1 - h_4.2.1) ≤ 7302250; simp only [] at *; omega⟩ (fun H1 locs1 hR1 hLo1 => ?_)
  have hS1 := lw_S hR1 hLo1
  clear hS
  have hS := hS1
  refine W.eq (g2 := F0 m 1184 la (mx_v (tB l D s.heap.size (fun _ => a0) s.heap (mx_tau ag)).2.1.1 v :: [])) rfl ?_
  refine lv_aload_n hx0 hb dl_1184 rfl (lv_at hl 2 rfl) ?_
  refine lw_arg C0 hS hl (j := 1) (x := 1) (by omega) hL (by decide) (by decide +kernel) dl_1185 dl_1186 dl_1187 dl_1188 dl_1189 ?_
  refine W.eq (g2 := F0 m 1190 la ((as.map (mx_v (tB l D s.heap.size (fun _ => a0) s.heap (mx_tau ag)).2.1.1)).reverse ++ .ref (mx_rho (tB l D s.heap.size (fun _ => a0) s.heap (mx_tau ag)).2.1.1 56) :: mx_v (tB l D s.heap.size (fun _ => a0) s.heap (mx_tau ag)).2.1.1 v :: [])) (by rw [has]; rfl) ?_
  refine mx_Wcallv (B := (tB l D s.heap.size (fun _ => a0) s.heap (mx_tau ag))) (ci := 12) (r := cr_12) (n := 1) A dl_1190 me_269 rfl hcell2 (tw lx_8_78 rfl) (tw lx_8_79 rfl) (tw lx_8_77 rfl) hc2 hlen hl.1 (by obtain ⟨x, rfl⟩ := hv; exact Nat.le_of_ble_eq_true rfl) hR1 hLo1 (by decide) (by decide) ⟨by have := le1.1; have := le2.1; show 82 + (q1.1 - h_4.1) + (q2.1 - q1.1) ≤ 600000; simp only [] at *; omega, by have := le1.2; have := le2.2; show h_4.2.1 + (q1.2.1 - h_4.2.1) + (q2.2.1 - q1.2.1) ≤ 7302250; simp only [] at *; omega⟩ (fun H2 locs2 hR2 hLo2 => ?_)
  refine W.eq (g2 := F0 m 1193 la (mx_v (tB l D s.heap.size (fun _ => a0) s.heap (mx_tau ag)).2.1.1 v :: mx_v (tB l D s.heap.size (fun _ => a0) s.heap (mx_tau ag)).2.1.1 v :: [])) rfl ?_
  have hS2 := lw_S hR2 hLo2
  have hend := lw_end (cells := 82 + (q1.1 - h_4.1) + (q2.1 - q1.1)) (slots := h_4.2.1 + (q1.2.1 - h_4.2.1) + (q2.2.1 - q1.2.1)) (e := e) (below := below) (l := l) C0 hL6 hS2 hl (by have := le1.1; have := le2.1; simp only [] at *; omega) (by have := le1.2; have := le2.2; simp only [] at *; omega)
  obtain ⟨x, rfl⟩ := hv
  refine lv_icmp_eq (tgt := 1516) hx0 hb dl_1193 (by decide) (fun _ => hend) (fun z => absurd rfl z)
set_option maxHeartbeats 4000000 in
set_option maxRecDepth 100000 in
theorem lc_36 {as : List Value} (C0 : lw_At p s m meth c b L xs) (hL : L ≤ 6) (hL6 : L = 6) (A : mx_Wx (tB l D s.heap.size (fun _ => a0) s.heap (mx_tau ag)) p s m #[Value.ref b] c code 4 R_law) (hR : mx_Rp (tB l D s.heap.size (fun _ => a0) s.heap (mx_tau ag)).2.1.1 s h_4 H) (hLo : ∀ q ∈ locs, mx_up (tB l D s.heap.size (fun _ => a0) s.heap (mx_tau ag)).2.1 q.base) (hcx : ∃ fs, mx_cell h_4 1 = some (.inl (11, fs))) (hn4 : h_4.1 = 83) (hs4 : h_4.2.1 ≤ 1000000) (hl : lv_has la 4 (lw_lv b (mx_rho (tB l D s.heap.size (fun _ => a0) s.heap (mx_tau ag)).2.1.1 1) (mx_rho (tB l D s.heap.size (fun _ => a0) s.heap (mx_tau ag)).2.1.1 56) 0))
    (has : as.map (mx_v (tB l D s.heap.size (fun _ => a0) s.heap (mx_tau ag)).2.1.1) = [.int (xs 1)]) (hlen : as.length = 1) (hTw : mx_Tw (tB l D s.heap.size (fun _ => a0) s.heap (mx_tau ag)) false 125 270 as) : W p l e room_1 s m #[Value.ref b] below meth c H locs 82 h_4.2.1 (lw_Z below #[Value.ref b] s) (F0 m 1198 la []) := by
  obtain ⟨hx0, hb, hr, hml, hown, hts, hX, hbl, hlocks, hgv⟩ := id C0
  obtain ⟨v, q1, q2, fs, hc1, hc2, hcell2, hb1, hb2, hv⟩ := hTw
  have hS := lw_S hR hLo
  refine lv_aload_n hx0 hb dl_1198 rfl (lv_at hl 1 rfl) ?_
  refine lw_arg C0 hS hl (j := 1) (x := 1) (by omega) hL (by decide) (by decide +kernel) dl_1199 dl_1200 dl_1201 dl_1202 dl_1203 ?_
  refine W.eq (g2 := F0 m 1204 la ((as.map (mx_v (tB l D s.heap.size (fun _ => a0) s.heap (mx_tau ag)).2.1.1)).reverse ++ .ref (mx_rho (tB l D s.heap.size (fun _ => a0) s.heap (mx_tau ag)).2.1.1 1) :: [])) (by rw [has]; rfl) ?_
  obtain ⟨fs1, hcell1⟩ := hcx
  have le1 := hc1.choose_spec.2.1
  have le2 := hc2.choose_spec.2.1
  refine mx_Wcallv (B := (tB l D s.heap.size (fun _ => a0) s.heap (mx_tau ag))) (ci := 11) (r := cr_11) (n := 1) A dl_1204 me_125 rfl hcell1 (tw lx_5_119 rfl) (tw lx_5_120 rfl) (tw lx_5_118 rfl) hc1 hlen hl.1 (by decide) hR hLo (by decide) (by decide) ⟨by have := le1.1; have := le2.1; show 82 + (q1.1 - h_4.1) ≤ 600000; simp only [] at *; omega, by have := le1.2; have := le2.2; show h_4.2.1 + (q1.2.1 - h_4.2.1) ≤ 7302250; simp only [] at *; omega⟩ (fun H1 locs1 hR1 hLo1 => ?_)
  have hS1 := lw_S hR1 hLo1
  clear hS
  have hS := hS1
  refine W.eq (g2 := F0 m 1207 la (mx_v (tB l D s.heap.size (fun _ => a0) s.heap (mx_tau ag)).2.1.1 v :: [])) rfl ?_
  refine lv_aload_n hx0 hb dl_1207 rfl (lv_at hl 2 rfl) ?_
  refine lw_arg C0 hS hl (j := 1) (x := 1) (by omega) hL (by decide) (by decide +kernel) dl_1208 dl_1209 dl_1210 dl_1211 dl_1212 ?_
  refine W.eq (g2 := F0 m 1213 la ((as.map (mx_v (tB l D s.heap.size (fun _ => a0) s.heap (mx_tau ag)).2.1.1)).reverse ++ .ref (mx_rho (tB l D s.heap.size (fun _ => a0) s.heap (mx_tau ag)).2.1.1 56) :: mx_v (tB l D s.heap.size (fun _ => a0) s.heap (mx_tau ag)).2.1.1 v :: [])) (by rw [has]; rfl) ?_
  refine mx_Wcallv (B := (tB l D s.heap.size (fun _ => a0) s.heap (mx_tau ag))) (ci := 12) (r := cr_12) (n := 1) A dl_1213 me_270 rfl hcell2 (tw lx_8_82 rfl) (tw lx_8_83 rfl) (tw lx_8_81 rfl) hc2 hlen hl.1 (by obtain ⟨x, rfl⟩ := hv; exact Nat.le_of_ble_eq_true rfl) hR1 hLo1 (by decide) (by decide) ⟨by have := le1.1; have := le2.1; show 82 + (q1.1 - h_4.1) + (q2.1 - q1.1) ≤ 600000; simp only [] at *; omega, by have := le1.2; have := le2.2; show h_4.2.1 + (q1.2.1 - h_4.2.1) + (q2.2.1 - q1.2.1) ≤ 7302250; simp only [] at *; omega⟩ (fun H2 locs2 hR2 hLo2 => ?_)
  refine W.eq (g2 := F0 m 1216 la (mx_v (tB l D s.heap.size (fun _ => a0) s.heap (mx_tau ag)).2.1.1 v :: mx_v (tB l D s.heap.size (fun _ => a0) s.heap (mx_tau ag)).2.1.1 v :: [])) rfl ?_
  have hS2 := lw_S hR2 hLo2
  have hend := lw_end (cells := 82 + (q1.1 - h_4.1) + (q2.1 - q1.1)) (slots := h_4.2.1 + (q1.2.1 - h_4.2.1) + (q2.2.1 - q1.2.1)) (e := e) (below := below) (l := l) C0 hL6 hS2 hl (by have := le1.1; have := le2.1; simp only [] at *; omega) (by have := le1.2; have := le2.2; simp only [] at *; omega)
  obtain ⟨x, rfl⟩ := hv
  refine lv_icmp_eq (tgt := 1516) hx0 hb dl_1216 (by decide) (fun _ => hend) (fun z => absurd rfl z)
set_option maxHeartbeats 4000000 in
set_option maxRecDepth 100000 in
theorem lc_37 {as : List Value} (C0 : lw_At p s m meth c b L xs) (hL : L ≤ 6) (hL6 : L = 6) (A : mx_Wx (tB l D s.heap.size (fun _ => a0) s.heap (mx_tau ag)) p s m #[Value.ref b] c code 4 R_law) (hR : mx_Rp (tB l D s.heap.size (fun _ => a0) s.heap (mx_tau ag)).2.1.1 s h_4 H) (hLo : ∀ q ∈ locs, mx_up (tB l D s.heap.size (fun _ => a0) s.heap (mx_tau ag)).2.1 q.base) (hcx : ∃ fs, mx_cell h_4 1 = some (.inl (11, fs))) (hn4 : h_4.1 = 83) (hs4 : h_4.2.1 ≤ 1000000) (hl : lv_has la 4 (lw_lv b (mx_rho (tB l D s.heap.size (fun _ => a0) s.heap (mx_tau ag)).2.1.1 1) (mx_rho (tB l D s.heap.size (fun _ => a0) s.heap (mx_tau ag)).2.1.1 56) 0))
    (has : as.map (mx_v (tB l D s.heap.size (fun _ => a0) s.heap (mx_tau ag)).2.1.1) = [.int (xs 1), .int (xs 2), .int (xs 3)]) (hlen : as.length = 3) (hTw : mx_Tw (tB l D s.heap.size (fun _ => a0) s.heap (mx_tau ag)) false 126 275 as) : W p l e room_1 s m #[Value.ref b] below meth c H locs 82 h_4.2.1 (lw_Z below #[Value.ref b] s) (F0 m 1221 la []) := by
  obtain ⟨hx0, hb, hr, hml, hown, hts, hX, hbl, hlocks, hgv⟩ := id C0
  obtain ⟨v, q1, q2, fs, hc1, hc2, hcell2, hb1, hb2, hv⟩ := hTw
  have hS := lw_S hR hLo
  refine lv_aload_n hx0 hb dl_1221 rfl (lv_at hl 1 rfl) ?_
  refine lw_arg C0 hS hl (j := 1) (x := 1) (by omega) hL (by decide) (by decide +kernel) dl_1222 dl_1223 dl_1224 dl_1225 dl_1226 ?_
  refine lw_arg C0 hS hl (j := 2) (x := 2) (by omega) hL (by decide) (by decide +kernel) dl_1227 dl_1228 dl_1229 dl_1230 dl_1231 ?_
  refine lw_arg C0 hS hl (j := 3) (x := 3) (by omega) hL (by decide) (by decide +kernel) dl_1232 dl_1233 dl_1234 dl_1235 dl_1236 ?_
  refine W.eq (g2 := F0 m 1237 la ((as.map (mx_v (tB l D s.heap.size (fun _ => a0) s.heap (mx_tau ag)).2.1.1)).reverse ++ .ref (mx_rho (tB l D s.heap.size (fun _ => a0) s.heap (mx_tau ag)).2.1.1 1) :: [])) (by rw [has]; rfl) ?_
  obtain ⟨fs1, hcell1⟩ := hcx
  have le1 := hc1.choose_spec.2.1
  have le2 := hc2.choose_spec.2.1
  refine mx_Wcallv (B := (tB l D s.heap.size (fun _ => a0) s.heap (mx_tau ag))) (ci := 11) (r := cr_11) (n := 3) A dl_1237 me_126 rfl hcell1 (tw lx_5_123 rfl) (tw lx_5_124 rfl) (tw lx_5_122 rfl) hc1 hlen hl.1 (by decide) hR hLo (by decide) (by decide) ⟨by have := le1.1; have := le2.1; show 82 + (q1.1 - h_4.1) ≤ 600000; simp only [] at *; omega, by have := le1.2; have := le2.2; show h_4.2.1 + (q1.2.1 - h_4.2.1) ≤ 7302250; simp only [] at *; omega⟩ (fun H1 locs1 hR1 hLo1 => ?_)
  have hS1 := lw_S hR1 hLo1
  clear hS
  have hS := hS1
  refine W.eq (g2 := F0 m 1240 la (mx_v (tB l D s.heap.size (fun _ => a0) s.heap (mx_tau ag)).2.1.1 v :: [])) rfl ?_
  refine lv_aload_n hx0 hb dl_1240 rfl (lv_at hl 2 rfl) ?_
  refine lw_arg C0 hS hl (j := 1) (x := 1) (by omega) hL (by decide) (by decide +kernel) dl_1241 dl_1242 dl_1243 dl_1244 dl_1245 ?_
  refine lw_arg C0 hS hl (j := 2) (x := 2) (by omega) hL (by decide) (by decide +kernel) dl_1246 dl_1247 dl_1248 dl_1249 dl_1250 ?_
  refine lw_arg C0 hS hl (j := 3) (x := 3) (by omega) hL (by decide) (by decide +kernel) dl_1251 dl_1252 dl_1253 dl_1254 dl_1255 ?_
  refine W.eq (g2 := F0 m 1256 la ((as.map (mx_v (tB l D s.heap.size (fun _ => a0) s.heap (mx_tau ag)).2.1.1)).reverse ++ .ref (mx_rho (tB l D s.heap.size (fun _ => a0) s.heap (mx_tau ag)).2.1.1 56) :: mx_v (tB l D s.heap.size (fun _ => a0) s.heap (mx_tau ag)).2.1.1 v :: [])) (by rw [has]; rfl) ?_
  refine mx_Wcallv (B := (tB l D s.heap.size (fun _ => a0) s.heap (mx_tau ag))) (ci := 12) (r := cr_12) (n := 3) A dl_1256 me_275 rfl hcell2 (tw lx_8_86 rfl) (tw lx_8_87 rfl) (tw lx_8_85 rfl) hc2 hlen hl.1 (by obtain ⟨x, rfl⟩ := hv; exact Nat.le_of_ble_eq_true rfl) hR1 hLo1 (by decide) (by decide) ⟨by have := le1.1; have := le2.1; show 82 + (q1.1 - h_4.1) + (q2.1 - q1.1) ≤ 600000; simp only [] at *; omega, by have := le1.2; have := le2.2; show h_4.2.1 + (q1.2.1 - h_4.2.1) + (q2.2.1 - q1.2.1) ≤ 7302250; simp only [] at *; omega⟩ (fun H2 locs2 hR2 hLo2 => ?_)
  refine W.eq (g2 := F0 m 1259 la (mx_v (tB l D s.heap.size (fun _ => a0) s.heap (mx_tau ag)).2.1.1 v :: mx_v (tB l D s.heap.size (fun _ => a0) s.heap (mx_tau ag)).2.1.1 v :: [])) rfl ?_
  have hS2 := lw_S hR2 hLo2
  have hend := lw_end (cells := 82 + (q1.1 - h_4.1) + (q2.1 - q1.1)) (slots := h_4.2.1 + (q1.2.1 - h_4.2.1) + (q2.2.1 - q1.2.1)) (e := e) (below := below) (l := l) C0 hL6 hS2 hl (by have := le1.1; have := le2.1; simp only [] at *; omega) (by have := le1.2; have := le2.2; simp only [] at *; omega)
  obtain ⟨x, rfl⟩ := hv
  refine lv_icmp_eq (tgt := 1516) hx0 hb dl_1259 (by decide) (fun _ => hend) (fun z => absurd rfl z)
set_option maxHeartbeats 4000000 in
set_option maxRecDepth 100000 in
theorem lc_38 {as : List Value} (C0 : lw_At p s m meth c b L xs) (hL : L ≤ 6) (hL6 : L = 6) (A : mx_Wx (tB l D s.heap.size (fun _ => a0) s.heap (mx_tau ag)) p s m #[Value.ref b] c code 4 R_law) (hR : mx_Rp (tB l D s.heap.size (fun _ => a0) s.heap (mx_tau ag)).2.1.1 s h_4 H) (hLo : ∀ q ∈ locs, mx_up (tB l D s.heap.size (fun _ => a0) s.heap (mx_tau ag)).2.1 q.base) (hcx : ∃ fs, mx_cell h_4 1 = some (.inl (11, fs))) (hn4 : h_4.1 = 83) (hs4 : h_4.2.1 ≤ 1000000) (hl : lv_has la 4 (lw_lv b (mx_rho (tB l D s.heap.size (fun _ => a0) s.heap (mx_tau ag)).2.1.1 1) (mx_rho (tB l D s.heap.size (fun _ => a0) s.heap (mx_tau ag)).2.1.1 56) 0))
    (has : as.map (mx_v (tB l D s.heap.size (fun _ => a0) s.heap (mx_tau ag)).2.1.1) = [.int (xs 1), .int (xs 2)]) (hlen : as.length = 2) (hTw : mx_Tw (tB l D s.heap.size (fun _ => a0) s.heap (mx_tau ag)) false 127 276 as) : W p l e room_1 s m #[Value.ref b] below meth c H locs 82 h_4.2.1 (lw_Z below #[Value.ref b] s) (F0 m 1264 la []) := by
  obtain ⟨hx0, hb, hr, hml, hown, hts, hX, hbl, hlocks, hgv⟩ := id C0
  obtain ⟨v, q1, q2, fs, hc1, hc2, hcell2, hb1, hb2, hv⟩ := hTw
  have hS := lw_S hR hLo
  refine lv_aload_n hx0 hb dl_1264 rfl (lv_at hl 1 rfl) ?_
  refine lw_arg C0 hS hl (j := 1) (x := 1) (by omega) hL (by decide) (by decide +kernel) dl_1265 dl_1266 dl_1267 dl_1268 dl_1269 ?_
  refine lw_arg C0 hS hl (j := 2) (x := 2) (by omega) hL (by decide) (by decide +kernel) dl_1270 dl_1271 dl_1272 dl_1273 dl_1274 ?_
  refine W.eq (g2 := F0 m 1275 la ((as.map (mx_v (tB l D s.heap.size (fun _ => a0) s.heap (mx_tau ag)).2.1.1)).reverse ++ .ref (mx_rho (tB l D s.heap.size (fun _ => a0) s.heap (mx_tau ag)).2.1.1 1) :: [])) (by rw [has]; rfl) ?_
  obtain ⟨fs1, hcell1⟩ := hcx
  have le1 := hc1.choose_spec.2.1
  have le2 := hc2.choose_spec.2.1
  refine mx_Wcallv (B := (tB l D s.heap.size (fun _ => a0) s.heap (mx_tau ag))) (ci := 11) (r := cr_11) (n := 2) A dl_1275 me_127 rfl hcell1 (tw lx_5_143 rfl) (tw lx_5_144 rfl) (tw lx_5_142 rfl) hc1 hlen hl.1 (by decide) hR hLo (by decide) (by decide) ⟨by have := le1.1; have := le2.1; show 82 + (q1.1 - h_4.1) ≤ 600000; simp only [] at *; omega, by have := le1.2; have := le2.2; show h_4.2.1 + (q1.2.1 - h_4.2.1) ≤ 7302250; simp only [] at *; omega⟩ (fun H1 locs1 hR1 hLo1 => ?_)
  have hS1 := lw_S hR1 hLo1
  clear hS
  have hS := hS1
  refine W.eq (g2 := F0 m 1278 la (mx_v (tB l D s.heap.size (fun _ => a0) s.heap (mx_tau ag)).2.1.1 v :: [])) rfl ?_
  refine lv_aload_n hx0 hb dl_1278 rfl (lv_at hl 2 rfl) ?_
  refine lw_arg C0 hS hl (j := 1) (x := 1) (by omega) hL (by decide) (by decide +kernel) dl_1279 dl_1280 dl_1281 dl_1282 dl_1283 ?_
  refine lw_arg C0 hS hl (j := 2) (x := 2) (by omega) hL (by decide) (by decide +kernel) dl_1284 dl_1285 dl_1286 dl_1287 dl_1288 ?_
  refine W.eq (g2 := F0 m 1289 la ((as.map (mx_v (tB l D s.heap.size (fun _ => a0) s.heap (mx_tau ag)).2.1.1)).reverse ++ .ref (mx_rho (tB l D s.heap.size (fun _ => a0) s.heap (mx_tau ag)).2.1.1 56) :: mx_v (tB l D s.heap.size (fun _ => a0) s.heap (mx_tau ag)).2.1.1 v :: [])) (by rw [has]; rfl) ?_
  refine mx_Wcallv (B := (tB l D s.heap.size (fun _ => a0) s.heap (mx_tau ag))) (ci := 12) (r := cr_12) (n := 2) A dl_1289 me_276 rfl hcell2 (tw lx_8_104 rfl) (tw lx_8_105 rfl) (tw lx_8_103 rfl) hc2 hlen hl.1 (by obtain ⟨x, rfl⟩ := hv; exact Nat.le_of_ble_eq_true rfl) hR1 hLo1 (by decide) (by decide) ⟨by have := le1.1; have := le2.1; show 82 + (q1.1 - h_4.1) + (q2.1 - q1.1) ≤ 600000; simp only [] at *; omega, by have := le1.2; have := le2.2; show h_4.2.1 + (q1.2.1 - h_4.2.1) + (q2.2.1 - q1.2.1) ≤ 7302250; simp only [] at *; omega⟩ (fun H2 locs2 hR2 hLo2 => ?_)
  refine W.eq (g2 := F0 m 1292 la (mx_v (tB l D s.heap.size (fun _ => a0) s.heap (mx_tau ag)).2.1.1 v :: mx_v (tB l D s.heap.size (fun _ => a0) s.heap (mx_tau ag)).2.1.1 v :: [])) rfl ?_
  have hS2 := lw_S hR2 hLo2
  have hend := lw_end (cells := 82 + (q1.1 - h_4.1) + (q2.1 - q1.1)) (slots := h_4.2.1 + (q1.2.1 - h_4.2.1) + (q2.2.1 - q1.2.1)) (e := e) (below := below) (l := l) C0 hL6 hS2 hl (by have := le1.1; have := le2.1; simp only [] at *; omega) (by have := le1.2; have := le2.2; simp only [] at *; omega)
  obtain ⟨x, rfl⟩ := hv
  refine lv_icmp_eq (tgt := 1516) hx0 hb dl_1292 (by decide) (fun _ => hend) (fun z => absurd rfl z)
set_option maxHeartbeats 4000000 in
set_option maxRecDepth 100000 in
theorem lc_39 {as : List Value} (C0 : lw_At p s m meth c b L xs) (hL : L ≤ 6) (hL6 : L = 6) (A : mx_Wx (tB l D s.heap.size (fun _ => a0) s.heap (mx_tau ag)) p s m #[Value.ref b] c code 4 R_law) (hR : mx_Rp (tB l D s.heap.size (fun _ => a0) s.heap (mx_tau ag)).2.1.1 s h_4 H) (hLo : ∀ q ∈ locs, mx_up (tB l D s.heap.size (fun _ => a0) s.heap (mx_tau ag)).2.1 q.base) (hcx : ∃ fs, mx_cell h_4 1 = some (.inl (11, fs))) (hn4 : h_4.1 = 83) (hs4 : h_4.2.1 ≤ 1000000) (hl : lv_has la 4 (lw_lv b (mx_rho (tB l D s.heap.size (fun _ => a0) s.heap (mx_tau ag)).2.1.1 1) (mx_rho (tB l D s.heap.size (fun _ => a0) s.heap (mx_tau ag)).2.1.1 56) 0))
    (has : as.map (mx_v (tB l D s.heap.size (fun _ => a0) s.heap (mx_tau ag)).2.1.1) = [.int (xs 1), .int (xs 2), .int (xs 3)]) (hlen : as.length = 3) (hTw : mx_Tw (tB l D s.heap.size (fun _ => a0) s.heap (mx_tau ag)) false 128 278 as) : W p l e room_1 s m #[Value.ref b] below meth c H locs 82 h_4.2.1 (lw_Z below #[Value.ref b] s) (F0 m 1297 la []) := by
  obtain ⟨hx0, hb, hr, hml, hown, hts, hX, hbl, hlocks, hgv⟩ := id C0
  obtain ⟨v, q1, q2, fs, hc1, hc2, hcell2, hb1, hb2, hv⟩ := hTw
  have hS := lw_S hR hLo
  refine lv_aload_n hx0 hb dl_1297 rfl (lv_at hl 1 rfl) ?_
  refine lw_arg C0 hS hl (j := 1) (x := 1) (by omega) hL (by decide) (by decide +kernel) dl_1298 dl_1299 dl_1300 dl_1301 dl_1302 ?_
  refine lw_arg C0 hS hl (j := 2) (x := 2) (by omega) hL (by decide) (by decide +kernel) dl_1303 dl_1304 dl_1305 dl_1306 dl_1307 ?_
  refine lw_arg C0 hS hl (j := 3) (x := 3) (by omega) hL (by decide) (by decide +kernel) dl_1308 dl_1309 dl_1310 dl_1311 dl_1312 ?_
  refine W.eq (g2 := F0 m 1313 la ((as.map (mx_v (tB l D s.heap.size (fun _ => a0) s.heap (mx_tau ag)).2.1.1)).reverse ++ .ref (mx_rho (tB l D s.heap.size (fun _ => a0) s.heap (mx_tau ag)).2.1.1 1) :: [])) (by rw [has]; rfl) ?_
  obtain ⟨fs1, hcell1⟩ := hcx
  have le1 := hc1.choose_spec.2.1
  have le2 := hc2.choose_spec.2.1
  refine mx_Wcallv (B := (tB l D s.heap.size (fun _ => a0) s.heap (mx_tau ag))) (ci := 11) (r := cr_11) (n := 3) A dl_1313 me_128 rfl hcell1 (tw lx_5_151 rfl) (tw lx_5_152 rfl) (tw lx_5_150 rfl) hc1 hlen hl.1 (by decide) hR hLo (by decide) (by decide) ⟨by have := le1.1; have := le2.1; show 82 + (q1.1 - h_4.1) ≤ 600000; simp only [] at *; omega, by have := le1.2; have := le2.2; show h_4.2.1 + (q1.2.1 - h_4.2.1) ≤ 7302250; simp only [] at *; omega⟩ (fun H1 locs1 hR1 hLo1 => ?_)
  have hS1 := lw_S hR1 hLo1
  clear hS
  have hS := hS1
  refine W.eq (g2 := F0 m 1316 la (mx_v (tB l D s.heap.size (fun _ => a0) s.heap (mx_tau ag)).2.1.1 v :: [])) rfl ?_
  refine lv_aload_n hx0 hb dl_1316 rfl (lv_at hl 2 rfl) ?_
  refine lw_arg C0 hS hl (j := 1) (x := 1) (by omega) hL (by decide) (by decide +kernel) dl_1317 dl_1318 dl_1319 dl_1320 dl_1321 ?_
  refine lw_arg C0 hS hl (j := 2) (x := 2) (by omega) hL (by decide) (by decide +kernel) dl_1322 dl_1323 dl_1324 dl_1325 dl_1326 ?_
  refine lw_arg C0 hS hl (j := 3) (x := 3) (by omega) hL (by decide) (by decide +kernel) dl_1327 dl_1328 dl_1329 dl_1330 dl_1331 ?_
  refine W.eq (g2 := F0 m 1332 la ((as.map (mx_v (tB l D s.heap.size (fun _ => a0) s.heap (mx_tau ag)).2.1.1)).reverse ++ .ref (mx_rho (tB l D s.heap.size (fun _ => a0) s.heap (mx_tau ag)).2.1.1 56) :: mx_v (tB l D s.heap.size (fun _ => a0) s.heap (mx_tau ag)).2.1.1 v :: [])) (by rw [has]; rfl) ?_
  refine mx_Wcallv (B := (tB l D s.heap.size (fun _ => a0) s.heap (mx_tau ag))) (ci := 12) (r := cr_12) (n := 3) A dl_1332 me_278 rfl hcell2 (tw lx_8_108 rfl) (tw lx_8_109 rfl) (tw lx_8_107 rfl) hc2 hlen hl.1 (by obtain ⟨x, rfl⟩ := hv; exact Nat.le_of_ble_eq_true rfl) hR1 hLo1 (by decide) (by decide) ⟨by have := le1.1; have := le2.1; show 82 + (q1.1 - h_4.1) + (q2.1 - q1.1) ≤ 600000; simp only [] at *; omega, by have := le1.2; have := le2.2; show h_4.2.1 + (q1.2.1 - h_4.2.1) + (q2.2.1 - q1.2.1) ≤ 7302250; simp only [] at *; omega⟩ (fun H2 locs2 hR2 hLo2 => ?_)
  refine W.eq (g2 := F0 m 1335 la (mx_v (tB l D s.heap.size (fun _ => a0) s.heap (mx_tau ag)).2.1.1 v :: mx_v (tB l D s.heap.size (fun _ => a0) s.heap (mx_tau ag)).2.1.1 v :: [])) rfl ?_
  have hS2 := lw_S hR2 hLo2
  have hend := lw_end (cells := 82 + (q1.1 - h_4.1) + (q2.1 - q1.1)) (slots := h_4.2.1 + (q1.2.1 - h_4.2.1) + (q2.2.1 - q1.2.1)) (e := e) (below := below) (l := l) C0 hL6 hS2 hl (by have := le1.1; have := le2.1; simp only [] at *; omega) (by have := le1.2; have := le2.2; simp only [] at *; omega)
  obtain ⟨x, rfl⟩ := hv
  refine lv_icmp_eq (tgt := 1516) hx0 hb dl_1335 (by decide) (fun _ => hend) (fun z => absurd rfl z)
set_option maxHeartbeats 4000000 in
set_option maxRecDepth 100000 in
theorem lc_40 {as : List Value} (C0 : lw_At p s m meth c b L xs) (hL : L ≤ 6) (hL6 : L = 6) (A : mx_Wx (tB l D s.heap.size (fun _ => a0) s.heap (mx_tau ag)) p s m #[Value.ref b] c code 4 R_law) (hR : mx_Rp (tB l D s.heap.size (fun _ => a0) s.heap (mx_tau ag)).2.1.1 s h_4 H) (hLo : ∀ q ∈ locs, mx_up (tB l D s.heap.size (fun _ => a0) s.heap (mx_tau ag)).2.1 q.base) (hcx : ∃ fs, mx_cell h_4 1 = some (.inl (11, fs))) (hn4 : h_4.1 = 83) (hs4 : h_4.2.1 ≤ 1000000) (hl : lv_has la 4 (lw_lv b (mx_rho (tB l D s.heap.size (fun _ => a0) s.heap (mx_tau ag)).2.1.1 1) (mx_rho (tB l D s.heap.size (fun _ => a0) s.heap (mx_tau ag)).2.1.1 56) 0))
    (has : as.map (mx_v (tB l D s.heap.size (fun _ => a0) s.heap (mx_tau ag)).2.1.1) = [.int (xs 1), .int (xs 2), .long ((xs 3).toInt64 <<< ((32 : Int32).toInt64 &&& 63) ||| ((xs 4).toInt64 &&& 4294967295))]) (hlen : as.length = 3) (hTw : mx_Tw (tB l D s.heap.size (fun _ => a0) s.heap (mx_tau ag)) true 129 279 as) : W p l e room_1 s m #[Value.ref b] below meth c H locs 82 h_4.2.1 (lw_Z below #[Value.ref b] s) (F0 m 1340 la []) := by
  obtain ⟨hx0, hb, hr, hml, hown, hts, hX, hbl, hlocks, hgv⟩ := id C0
  obtain ⟨v, q1, q2, fs, hc1, hc2, hcell2, hb1, hb2, hv⟩ := hTw
  have hS := lw_S hR hLo
  refine lv_aload_n hx0 hb dl_1340 rfl (lv_at hl 1 rfl) ?_
  refine lw_arg C0 hS hl (j := 1) (x := 1) (by omega) hL (by decide) (by decide +kernel) dl_1341 dl_1342 dl_1343 dl_1344 dl_1345 ?_
  refine lw_arg C0 hS hl (j := 2) (x := 2) (by omega) hL (by decide) (by decide +kernel) dl_1346 dl_1347 dl_1348 dl_1349 dl_1350 ?_
  refine lw_arg C0 hS hl (j := 3) (x := 3) (by omega) hL (by decide) (by decide +kernel) dl_1351 dl_1352 dl_1353 dl_1354 dl_1355 ?_
  refine lv_i2l hx0 hb dl_1356 rfl ?_
  refine lv_bipush (v := 32) hx0 hb dl_1357 (by decide) ?_
  refine lv_lshl hx0 hb dl_1359 rfl ?_
  refine lw_arg C0 hS hl (j := 4) (x := 4) (by omega) hL (by decide) (by decide +kernel) dl_1360 dl_1361 dl_1362 dl_1363 dl_1364 ?_
  refine lv_i2l hx0 hb dl_1365 rfl ?_
  refine W.ldc2 hx0 hb hown (hts _ lx_8_135) rfl dl_1366 ?_
  refine lv_land hx0 hb dl_1369 ?_
  refine lv_lor hx0 hb dl_1370 ?_
  refine W.eq (g2 := F0 m 1371 la ((as.map (mx_v (tB l D s.heap.size (fun _ => a0) s.heap (mx_tau ag)).2.1.1)).reverse ++ .ref (mx_rho (tB l D s.heap.size (fun _ => a0) s.heap (mx_tau ag)).2.1.1 1) :: [])) (by rw [has]; rfl) ?_
  obtain ⟨fs1, hcell1⟩ := hcx
  have le1 := hc1.choose_spec.2.1
  have le2 := hc2.choose_spec.2.1
  refine mx_Wcallv (B := (tB l D s.heap.size (fun _ => a0) s.heap (mx_tau ag))) (ci := 11) (r := cr_11) (n := 3) A dl_1371 me_129 rfl hcell1 (tw lx_5_162 rfl) (tw lx_5_163 rfl) (tw lx_5_161 rfl) hc1 hlen hl.1 (by decide) hR hLo (by decide) (by decide) ⟨by have := le1.1; have := le2.1; show 82 + (q1.1 - h_4.1) ≤ 600000; simp only [] at *; omega, by have := le1.2; have := le2.2; show h_4.2.1 + (q1.2.1 - h_4.2.1) ≤ 7302250; simp only [] at *; omega⟩ (fun H1 locs1 hR1 hLo1 => ?_)
  have hS1 := lw_S hR1 hLo1
  clear hS
  have hS := hS1
  refine W.eq (g2 := F0 m 1374 la (mx_v (tB l D s.heap.size (fun _ => a0) s.heap (mx_tau ag)).2.1.1 v :: [])) rfl ?_
  refine lv_aload_n hx0 hb dl_1374 rfl (lv_at hl 2 rfl) ?_
  refine lw_arg C0 hS hl (j := 1) (x := 1) (by omega) hL (by decide) (by decide +kernel) dl_1375 dl_1376 dl_1377 dl_1378 dl_1379 ?_
  refine lw_arg C0 hS hl (j := 2) (x := 2) (by omega) hL (by decide) (by decide +kernel) dl_1380 dl_1381 dl_1382 dl_1383 dl_1384 ?_
  refine lw_arg C0 hS hl (j := 3) (x := 3) (by omega) hL (by decide) (by decide +kernel) dl_1385 dl_1386 dl_1387 dl_1388 dl_1389 ?_
  refine lv_i2l hx0 hb dl_1390 rfl ?_
  refine lv_bipush (v := 32) hx0 hb dl_1391 (by decide) ?_
  refine lv_lshl hx0 hb dl_1393 rfl ?_
  refine lw_arg C0 hS hl (j := 4) (x := 4) (by omega) hL (by decide) (by decide +kernel) dl_1394 dl_1395 dl_1396 dl_1397 dl_1398 ?_
  refine lv_i2l hx0 hb dl_1399 rfl ?_
  refine W.ldc2 hx0 hb hown (hts _ lx_8_135) rfl dl_1400 ?_
  refine lv_land hx0 hb dl_1403 ?_
  refine lv_lor hx0 hb dl_1404 ?_
  refine W.eq (g2 := F0 m 1405 la ((as.map (mx_v (tB l D s.heap.size (fun _ => a0) s.heap (mx_tau ag)).2.1.1)).reverse ++ .ref (mx_rho (tB l D s.heap.size (fun _ => a0) s.heap (mx_tau ag)).2.1.1 56) :: mx_v (tB l D s.heap.size (fun _ => a0) s.heap (mx_tau ag)).2.1.1 v :: [])) (by rw [has]; rfl) ?_
  refine mx_Wcallv (B := (tB l D s.heap.size (fun _ => a0) s.heap (mx_tau ag))) (ci := 12) (r := cr_12) (n := 3) A dl_1405 me_279 rfl hcell2 (tw lx_8_112 rfl) (tw lx_8_113 rfl) (tw lx_8_111 rfl) hc2 hlen hl.1 (by obtain ⟨x, rfl⟩ := hv; exact Nat.le_of_ble_eq_true rfl) hR1 hLo1 (by decide) (by decide) ⟨by have := le1.1; have := le2.1; show 82 + (q1.1 - h_4.1) + (q2.1 - q1.1) ≤ 600000; simp only [] at *; omega, by have := le1.2; have := le2.2; show h_4.2.1 + (q1.2.1 - h_4.2.1) + (q2.2.1 - q1.2.1) ≤ 7302250; simp only [] at *; omega⟩ (fun H2 locs2 hR2 hLo2 => ?_)
  refine W.eq (g2 := F0 m 1408 la (mx_v (tB l D s.heap.size (fun _ => a0) s.heap (mx_tau ag)).2.1.1 v :: mx_v (tB l D s.heap.size (fun _ => a0) s.heap (mx_tau ag)).2.1.1 v :: [])) rfl ?_
  have hS2 := lw_S hR2 hLo2
  have hend := lw_end (cells := 82 + (q1.1 - h_4.1) + (q2.1 - q1.1)) (slots := h_4.2.1 + (q1.2.1 - h_4.2.1) + (q2.2.1 - q1.2.1)) (e := e) (below := below) (l := l) C0 hL6 hS2 hl (by have := le1.1; have := le2.1; simp only [] at *; omega) (by have := le1.2; have := le2.2; simp only [] at *; omega)
  obtain ⟨x, rfl⟩ := hv
  refine W.lcmp hx0 hb dl_1408 ?_
  refine lv_if_eq (tgt := 1516) hx0 hb dl_1409 (by decide) (fun _ => hend) (fun z => absurd (by simp [lg_cmp]) z)
set_option maxHeartbeats 4000000 in
set_option maxRecDepth 100000 in
theorem lc_41 {as : List Value} (C0 : lw_At p s m meth c b L xs) (hL : L ≤ 6) (hL6 : L = 6) (A : mx_Wx (tB l D s.heap.size (fun _ => a0) s.heap (mx_tau ag)) p s m #[Value.ref b] c code 4 R_law) (hR : mx_Rp (tB l D s.heap.size (fun _ => a0) s.heap (mx_tau ag)).2.1.1 s h_4 H) (hLo : ∀ q ∈ locs, mx_up (tB l D s.heap.size (fun _ => a0) s.heap (mx_tau ag)).2.1 q.base) (hcx : ∃ fs, mx_cell h_4 1 = some (.inl (11, fs))) (hn4 : h_4.1 = 83) (hs4 : h_4.2.1 ≤ 1000000) (hl : lv_has la 4 (lw_lv b (mx_rho (tB l D s.heap.size (fun _ => a0) s.heap (mx_tau ag)).2.1.1 1) (mx_rho (tB l D s.heap.size (fun _ => a0) s.heap (mx_tau ag)).2.1.1 56) 0))
    (has : as.map (mx_v (tB l D s.heap.size (fun _ => a0) s.heap (mx_tau ag)).2.1.1) = [.int (xs 1), .int (xs 2)]) (hlen : as.length = 2) (hTw : mx_Tw (tB l D s.heap.size (fun _ => a0) s.heap (mx_tau ag)) false 130 280 as) : W p l e room_1 s m #[Value.ref b] below meth c H locs 82 h_4.2.1 (lw_Z below #[Value.ref b] s) (F0 m 1414 la []) := by
  obtain ⟨hx0, hb, hr, hml, hown, hts, hX, hbl, hlocks, hgv⟩ := id C0
  obtain ⟨v, q1, q2, fs, hc1, hc2, hcell2, hb1, hb2, hv⟩ := hTw
  have hS := lw_S hR hLo
  refine lv_aload_n hx0 hb dl_1414 rfl (lv_at hl 1 rfl) ?_
  refine lw_arg C0 hS hl (j := 1) (x := 1) (by omega) hL (by decide) (by decide +kernel) dl_1415 dl_1416 dl_1417 dl_1418 dl_1419 ?_
  refine lw_arg C0 hS hl (j := 2) (x := 2) (by omega) hL (by decide) (by decide +kernel) dl_1420 dl_1421 dl_1422 dl_1423 dl_1424 ?_
  refine W.eq (g2 := F0 m 1425 la ((as.map (mx_v (tB l D s.heap.size (fun _ => a0) s.heap (mx_tau ag)).2.1.1)).reverse ++ .ref (mx_rho (tB l D s.heap.size (fun _ => a0) s.heap (mx_tau ag)).2.1.1 1) :: [])) (by rw [has]; rfl) ?_
  obtain ⟨fs1, hcell1⟩ := hcx
  have le1 := hc1.choose_spec.2.1
  have le2 := hc2.choose_spec.2.1
  refine mx_Wcallv (B := (tB l D s.heap.size (fun _ => a0) s.heap (mx_tau ag))) (ci := 11) (r := cr_11) (n := 2) A dl_1425 me_130 rfl hcell1 (tw lx_5_173 rfl) (tw lx_5_174 rfl) (tw lx_5_172 rfl) hc1 hlen hl.1 (by decide) hR hLo (by decide) (by decide) ⟨by have := le1.1; have := le2.1; show 82 + (q1.1 - h_4.1) ≤ 600000; simp only [] at *; omega, by have := le1.2; have := le2.2; show h_4.2.1 + (q1.2.1 - h_4.2.1) ≤ 7302250; simp only [] at *; omega⟩ (fun H1 locs1 hR1 hLo1 => ?_)
  have hS1 := lw_S hR1 hLo1
  clear hS
  have hS := hS1
  refine W.eq (g2 := F0 m 1428 la (mx_v (tB l D s.heap.size (fun _ => a0) s.heap (mx_tau ag)).2.1.1 v :: [])) rfl ?_
  refine lv_aload_n hx0 hb dl_1428 rfl (lv_at hl 2 rfl) ?_
  refine lw_arg C0 hS hl (j := 1) (x := 1) (by omega) hL (by decide) (by decide +kernel) dl_1429 dl_1430 dl_1431 dl_1432 dl_1433 ?_
  refine lw_arg C0 hS hl (j := 2) (x := 2) (by omega) hL (by decide) (by decide +kernel) dl_1434 dl_1435 dl_1436 dl_1437 dl_1438 ?_
  refine W.eq (g2 := F0 m 1439 la ((as.map (mx_v (tB l D s.heap.size (fun _ => a0) s.heap (mx_tau ag)).2.1.1)).reverse ++ .ref (mx_rho (tB l D s.heap.size (fun _ => a0) s.heap (mx_tau ag)).2.1.1 56) :: mx_v (tB l D s.heap.size (fun _ => a0) s.heap (mx_tau ag)).2.1.1 v :: [])) (by rw [has]; rfl) ?_
  refine mx_Wcallv (B := (tB l D s.heap.size (fun _ => a0) s.heap (mx_tau ag))) (ci := 12) (r := cr_12) (n := 2) A dl_1439 me_280 rfl hcell2 (tw lx_8_120 rfl) (tw lx_8_121 rfl) (tw lx_8_119 rfl) hc2 hlen hl.1 (by obtain ⟨x, rfl⟩ := hv; exact Nat.le_of_ble_eq_true rfl) hR1 hLo1 (by decide) (by decide) ⟨by have := le1.1; have := le2.1; show 82 + (q1.1 - h_4.1) + (q2.1 - q1.1) ≤ 600000; simp only [] at *; omega, by have := le1.2; have := le2.2; show h_4.2.1 + (q1.2.1 - h_4.2.1) + (q2.2.1 - q1.2.1) ≤ 7302250; simp only [] at *; omega⟩ (fun H2 locs2 hR2 hLo2 => ?_)
  refine W.eq (g2 := F0 m 1442 la (mx_v (tB l D s.heap.size (fun _ => a0) s.heap (mx_tau ag)).2.1.1 v :: mx_v (tB l D s.heap.size (fun _ => a0) s.heap (mx_tau ag)).2.1.1 v :: [])) rfl ?_
  have hS2 := lw_S hR2 hLo2
  have hend := lw_end (cells := 82 + (q1.1 - h_4.1) + (q2.1 - q1.1)) (slots := h_4.2.1 + (q1.2.1 - h_4.2.1) + (q2.2.1 - q1.2.1)) (e := e) (below := below) (l := l) C0 hL6 hS2 hl (by have := le1.1; have := le2.1; simp only [] at *; omega) (by have := le1.2; have := le2.2; simp only [] at *; omega)
  obtain ⟨x, rfl⟩ := hv
  refine lv_icmp_eq (tgt := 1516) hx0 hb dl_1442 (by decide) (fun _ => hend) (fun z => absurd rfl z)
set_option maxHeartbeats 4000000 in
set_option maxRecDepth 100000 in
theorem lc_42 {as : List Value} (C0 : lw_At p s m meth c b L xs) (hL : L ≤ 6) (hL6 : L = 6) (A : mx_Wx (tB l D s.heap.size (fun _ => a0) s.heap (mx_tau ag)) p s m #[Value.ref b] c code 4 R_law) (hR : mx_Rp (tB l D s.heap.size (fun _ => a0) s.heap (mx_tau ag)).2.1.1 s h_4 H) (hLo : ∀ q ∈ locs, mx_up (tB l D s.heap.size (fun _ => a0) s.heap (mx_tau ag)).2.1 q.base) (hcx : ∃ fs, mx_cell h_4 1 = some (.inl (11, fs))) (hn4 : h_4.1 = 83) (hs4 : h_4.2.1 ≤ 1000000) (hl : lv_has la 4 (lw_lv b (mx_rho (tB l D s.heap.size (fun _ => a0) s.heap (mx_tau ag)).2.1.1 1) (mx_rho (tB l D s.heap.size (fun _ => a0) s.heap (mx_tau ag)).2.1.1 56) 0))
    (has : as.map (mx_v (tB l D s.heap.size (fun _ => a0) s.heap (mx_tau ag)).2.1.1) = [.int (xs 1)]) (hlen : as.length = 1) (hTw : mx_Tw (tB l D s.heap.size (fun _ => a0) s.heap (mx_tau ag)) false 131 281 as) : W p l e room_1 s m #[Value.ref b] below meth c H locs 82 h_4.2.1 (lw_Z below #[Value.ref b] s) (F0 m 1447 la []) := by
  obtain ⟨hx0, hb, hr, hml, hown, hts, hX, hbl, hlocks, hgv⟩ := id C0
  obtain ⟨v, q1, q2, fs, hc1, hc2, hcell2, hb1, hb2, hv⟩ := hTw
  have hS := lw_S hR hLo
  refine lv_aload_n hx0 hb dl_1447 rfl (lv_at hl 1 rfl) ?_
  refine lw_arg C0 hS hl (j := 1) (x := 1) (by omega) hL (by decide) (by decide +kernel) dl_1448 dl_1449 dl_1450 dl_1451 dl_1452 ?_
  refine W.eq (g2 := F0 m 1453 la ((as.map (mx_v (tB l D s.heap.size (fun _ => a0) s.heap (mx_tau ag)).2.1.1)).reverse ++ .ref (mx_rho (tB l D s.heap.size (fun _ => a0) s.heap (mx_tau ag)).2.1.1 1) :: [])) (by rw [has]; rfl) ?_
  obtain ⟨fs1, hcell1⟩ := hcx
  have le1 := hc1.choose_spec.2.1
  have le2 := hc2.choose_spec.2.1
  refine mx_Wcallv (B := (tB l D s.heap.size (fun _ => a0) s.heap (mx_tau ag))) (ci := 11) (r := cr_11) (n := 1) A dl_1453 me_131 rfl hcell1 (tw lx_5_178 rfl) (tw lx_5_179 rfl) (tw lx_5_177 rfl) hc1 hlen hl.1 (by decide) hR hLo (by decide) (by decide) ⟨by have := le1.1; have := le2.1; show 82 + (q1.1 - h_4.1) ≤ 600000; simp only [] at *; omega, by have := le1.2; have := le2.2; show h_4.2.1 + (q1.2.1 - h_4.2.1) ≤ 7302250; simp only [] at *; omega⟩ (fun H1 locs1 hR1 hLo1 => ?_)
  have hS1 := lw_S hR1 hLo1
  clear hS
  have hS := hS1
  refine W.eq (g2 := F0 m 1456 la (mx_v (tB l D s.heap.size (fun _ => a0) s.heap (mx_tau ag)).2.1.1 v :: [])) rfl ?_
  refine lv_aload_n hx0 hb dl_1456 rfl (lv_at hl 2 rfl) ?_
  refine lw_arg C0 hS hl (j := 1) (x := 1) (by omega) hL (by decide) (by decide +kernel) dl_1457 dl_1458 dl_1459 dl_1460 dl_1461 ?_
  refine W.eq (g2 := F0 m 1462 la ((as.map (mx_v (tB l D s.heap.size (fun _ => a0) s.heap (mx_tau ag)).2.1.1)).reverse ++ .ref (mx_rho (tB l D s.heap.size (fun _ => a0) s.heap (mx_tau ag)).2.1.1 56) :: mx_v (tB l D s.heap.size (fun _ => a0) s.heap (mx_tau ag)).2.1.1 v :: [])) (by rw [has]; rfl) ?_
  refine mx_Wcallv (B := (tB l D s.heap.size (fun _ => a0) s.heap (mx_tau ag))) (ci := 12) (r := cr_12) (n := 1) A dl_1462 me_281 rfl hcell2 (tw lx_8_124 rfl) (tw lx_8_125 rfl) (tw lx_8_123 rfl) hc2 hlen hl.1 (by obtain ⟨x, rfl⟩ := hv; exact Nat.le_of_ble_eq_true rfl) hR1 hLo1 (by decide) (by decide) ⟨by have := le1.1; have := le2.1; show 82 + (q1.1 - h_4.1) + (q2.1 - q1.1) ≤ 600000; simp only [] at *; omega, by have := le1.2; have := le2.2; show h_4.2.1 + (q1.2.1 - h_4.2.1) + (q2.2.1 - q1.2.1) ≤ 7302250; simp only [] at *; omega⟩ (fun H2 locs2 hR2 hLo2 => ?_)
  refine W.eq (g2 := F0 m 1465 la (mx_v (tB l D s.heap.size (fun _ => a0) s.heap (mx_tau ag)).2.1.1 v :: mx_v (tB l D s.heap.size (fun _ => a0) s.heap (mx_tau ag)).2.1.1 v :: [])) rfl ?_
  have hS2 := lw_S hR2 hLo2
  have hend := lw_end (cells := 82 + (q1.1 - h_4.1) + (q2.1 - q1.1)) (slots := h_4.2.1 + (q1.2.1 - h_4.2.1) + (q2.2.1 - q1.2.1)) (e := e) (below := below) (l := l) C0 hL6 hS2 hl (by have := le1.1; have := le2.1; simp only [] at *; omega) (by have := le1.2; have := le2.2; simp only [] at *; omega)
  obtain ⟨x, rfl⟩ := hv
  refine lv_icmp_eq (tgt := 1516) hx0 hb dl_1465 (by decide) (fun _ => hend) (fun z => absurd rfl z)
set_option maxHeartbeats 4000000 in
set_option maxRecDepth 100000 in
theorem lc_43 {as : List Value} (C0 : lw_At p s m meth c b L xs) (hL : L ≤ 6) (hL6 : L = 6) (A : mx_Wx (tB l D s.heap.size (fun _ => a0) s.heap (mx_tau ag)) p s m #[Value.ref b] c code 4 R_law) (hR : mx_Rp (tB l D s.heap.size (fun _ => a0) s.heap (mx_tau ag)).2.1.1 s h_4 H) (hLo : ∀ q ∈ locs, mx_up (tB l D s.heap.size (fun _ => a0) s.heap (mx_tau ag)).2.1 q.base) (hcx : ∃ fs, mx_cell h_4 1 = some (.inl (11, fs))) (hn4 : h_4.1 = 83) (hs4 : h_4.2.1 ≤ 1000000) (hl : lv_has la 4 (lw_lv b (mx_rho (tB l D s.heap.size (fun _ => a0) s.heap (mx_tau ag)).2.1.1 1) (mx_rho (tB l D s.heap.size (fun _ => a0) s.heap (mx_tau ag)).2.1.1 56) 0))
    (has : as.map (mx_v (tB l D s.heap.size (fun _ => a0) s.heap (mx_tau ag)).2.1.1) = [.int (xs 1)]) (hlen : as.length = 1) (hTw : mx_Tw (tB l D s.heap.size (fun _ => a0) s.heap (mx_tau ag)) false 132 282 as) : W p l e room_1 s m #[Value.ref b] below meth c H locs 82 h_4.2.1 (lw_Z below #[Value.ref b] s) (F0 m 1470 la []) := by
  obtain ⟨hx0, hb, hr, hml, hown, hts, hX, hbl, hlocks, hgv⟩ := id C0
  obtain ⟨v, q1, q2, fs, hc1, hc2, hcell2, hb1, hb2, hv⟩ := hTw
  have hS := lw_S hR hLo
  refine lv_aload_n hx0 hb dl_1470 rfl (lv_at hl 1 rfl) ?_
  refine lw_arg C0 hS hl (j := 1) (x := 1) (by omega) hL (by decide) (by decide +kernel) dl_1471 dl_1472 dl_1473 dl_1474 dl_1475 ?_
  refine W.eq (g2 := F0 m 1476 la ((as.map (mx_v (tB l D s.heap.size (fun _ => a0) s.heap (mx_tau ag)).2.1.1)).reverse ++ .ref (mx_rho (tB l D s.heap.size (fun _ => a0) s.heap (mx_tau ag)).2.1.1 1) :: [])) (by rw [has]; rfl) ?_
  obtain ⟨fs1, hcell1⟩ := hcx
  have le1 := hc1.choose_spec.2.1
  have le2 := hc2.choose_spec.2.1
  refine mx_Wcallv (B := (tB l D s.heap.size (fun _ => a0) s.heap (mx_tau ag))) (ci := 11) (r := cr_11) (n := 1) A dl_1476 me_132 rfl hcell1 (tw lx_5_182 rfl) (tw lx_5_183 rfl) (tw lx_5_181 rfl) hc1 hlen hl.1 (by decide) hR hLo (by decide) (by decide) ⟨by have := le1.1; have := le2.1; show 82 + (q1.1 - h_4.1) ≤ 600000; simp only [] at *; omega, by have := le1.2; have := le2.2; show h_4.2.1 + (q1.2.1 - h_4.2.1) ≤ 7302250; simp only [] at *; omega⟩ (fun H1 locs1 hR1 hLo1 => ?_)
  have hS1 := lw_S hR1 hLo1
  clear hS
  have hS := hS1
  refine W.eq (g2 := F0 m 1479 la (mx_v (tB l D s.heap.size (fun _ => a0) s.heap (mx_tau ag)).2.1.1 v :: [])) rfl ?_
  refine lv_aload_n hx0 hb dl_1479 rfl (lv_at hl 2 rfl) ?_
  refine lw_arg C0 hS hl (j := 1) (x := 1) (by omega) hL (by decide) (by decide +kernel) dl_1480 dl_1481 dl_1482 dl_1483 dl_1484 ?_
  refine W.eq (g2 := F0 m 1485 la ((as.map (mx_v (tB l D s.heap.size (fun _ => a0) s.heap (mx_tau ag)).2.1.1)).reverse ++ .ref (mx_rho (tB l D s.heap.size (fun _ => a0) s.heap (mx_tau ag)).2.1.1 56) :: mx_v (tB l D s.heap.size (fun _ => a0) s.heap (mx_tau ag)).2.1.1 v :: [])) (by rw [has]; rfl) ?_
  refine mx_Wcallv (B := (tB l D s.heap.size (fun _ => a0) s.heap (mx_tau ag))) (ci := 12) (r := cr_12) (n := 1) A dl_1485 me_282 rfl hcell2 (tw lx_8_128 rfl) (tw lx_8_129 rfl) (tw lx_8_127 rfl) hc2 hlen hl.1 (by obtain ⟨x, rfl⟩ := hv; exact Nat.le_of_ble_eq_true rfl) hR1 hLo1 (by decide) (by decide) ⟨by have := le1.1; have := le2.1; show 82 + (q1.1 - h_4.1) + (q2.1 - q1.1) ≤ 600000; simp only [] at *; omega, by have := le1.2; have := le2.2; show h_4.2.1 + (q1.2.1 - h_4.2.1) + (q2.2.1 - q1.2.1) ≤ 7302250; simp only [] at *; omega⟩ (fun H2 locs2 hR2 hLo2 => ?_)
  refine W.eq (g2 := F0 m 1488 la (mx_v (tB l D s.heap.size (fun _ => a0) s.heap (mx_tau ag)).2.1.1 v :: mx_v (tB l D s.heap.size (fun _ => a0) s.heap (mx_tau ag)).2.1.1 v :: [])) rfl ?_
  have hS2 := lw_S hR2 hLo2
  have hend := lw_end (cells := 82 + (q1.1 - h_4.1) + (q2.1 - q1.1)) (slots := h_4.2.1 + (q1.2.1 - h_4.2.1) + (q2.2.1 - q1.2.1)) (e := e) (below := below) (l := l) C0 hL6 hS2 hl (by have := le1.1; have := le2.1; simp only [] at *; omega) (by have := le1.2; have := le2.2; simp only [] at *; omega)
  obtain ⟨x, rfl⟩ := hv
  refine lv_icmp_eq (tgt := 1516) hx0 hb dl_1488 (by decide) (fun _ => hend) (fun z => absurd rfl z)
set_option maxHeartbeats 4000000 in
set_option maxRecDepth 100000 in
theorem lc_44 {as : List Value} (C0 : lw_At p s m meth c b L xs) (hL : L ≤ 6) (hL6 : L = 6) (A : mx_Wx (tB l D s.heap.size (fun _ => a0) s.heap (mx_tau ag)) p s m #[Value.ref b] c code 4 R_law) (hR : mx_Rp (tB l D s.heap.size (fun _ => a0) s.heap (mx_tau ag)).2.1.1 s h_4 H) (hLo : ∀ q ∈ locs, mx_up (tB l D s.heap.size (fun _ => a0) s.heap (mx_tau ag)).2.1 q.base) (hcx : ∃ fs, mx_cell h_4 1 = some (.inl (11, fs))) (hn4 : h_4.1 = 83) (hs4 : h_4.2.1 ≤ 1000000) (hl : lv_has la 4 (lw_lv b (mx_rho (tB l D s.heap.size (fun _ => a0) s.heap (mx_tau ag)).2.1.1 1) (mx_rho (tB l D s.heap.size (fun _ => a0) s.heap (mx_tau ag)).2.1.1 56) 0))
    (has : as.map (mx_v (tB l D s.heap.size (fun _ => a0) s.heap (mx_tau ag)).2.1.1) = [.int (xs 1)]) (hlen : as.length = 1) (hTw : mx_Tw (tB l D s.heap.size (fun _ => a0) s.heap (mx_tau ag)) false 133 283 as) : W p l e room_1 s m #[Value.ref b] below meth c H locs 82 h_4.2.1 (lw_Z below #[Value.ref b] s) (F0 m 1493 la []) := by
  obtain ⟨hx0, hb, hr, hml, hown, hts, hX, hbl, hlocks, hgv⟩ := id C0
  obtain ⟨v, q1, q2, fs, hc1, hc2, hcell2, hb1, hb2, hv⟩ := hTw
  have hS := lw_S hR hLo
  refine lv_aload_n hx0 hb dl_1493 rfl (lv_at hl 1 rfl) ?_
  refine lw_arg C0 hS hl (j := 1) (x := 1) (by omega) hL (by decide) (by decide +kernel) dl_1494 dl_1495 dl_1496 dl_1497 dl_1498 ?_
  refine W.eq (g2 := F0 m 1499 la ((as.map (mx_v (tB l D s.heap.size (fun _ => a0) s.heap (mx_tau ag)).2.1.1)).reverse ++ .ref (mx_rho (tB l D s.heap.size (fun _ => a0) s.heap (mx_tau ag)).2.1.1 1) :: [])) (by rw [has]; rfl) ?_
  obtain ⟨fs1, hcell1⟩ := hcx
  have le1 := hc1.choose_spec.2.1
  have le2 := hc2.choose_spec.2.1
  refine mx_Wcallv (B := (tB l D s.heap.size (fun _ => a0) s.heap (mx_tau ag))) (ci := 11) (r := cr_11) (n := 1) A dl_1499 me_133 rfl hcell1 (tw lx_5_186 rfl) (tw lx_5_187 rfl) (tw lx_5_185 rfl) hc1 hlen hl.1 (by decide) hR hLo (by decide) (by decide) ⟨by have := le1.1; have := le2.1; show 82 + (q1.1 - h_4.1) ≤ 600000; simp only [] at *; omega, by have := le1.2; have := le2.2; show h_4.2.1 + (q1.2.1 - h_4.2.1) ≤ 7302250; simp only [] at *; omega⟩ (fun H1 locs1 hR1 hLo1 => ?_)
  have hS1 := lw_S hR1 hLo1
  clear hS
  have hS := hS1
  refine W.eq (g2 := F0 m 1502 la (mx_v (tB l D s.heap.size (fun _ => a0) s.heap (mx_tau ag)).2.1.1 v :: [])) rfl ?_
  refine lv_aload_n hx0 hb dl_1502 rfl (lv_at hl 2 rfl) ?_
  refine lw_arg C0 hS hl (j := 1) (x := 1) (by omega) hL (by decide) (by decide +kernel) dl_1503 dl_1504 dl_1505 dl_1506 dl_1507 ?_
  refine W.eq (g2 := F0 m 1508 la ((as.map (mx_v (tB l D s.heap.size (fun _ => a0) s.heap (mx_tau ag)).2.1.1)).reverse ++ .ref (mx_rho (tB l D s.heap.size (fun _ => a0) s.heap (mx_tau ag)).2.1.1 56) :: mx_v (tB l D s.heap.size (fun _ => a0) s.heap (mx_tau ag)).2.1.1 v :: [])) (by rw [has]; rfl) ?_
  refine mx_Wcallv (B := (tB l D s.heap.size (fun _ => a0) s.heap (mx_tau ag))) (ci := 12) (r := cr_12) (n := 1) A dl_1508 me_283 rfl hcell2 (tw lx_8_132 rfl) (tw lx_8_133 rfl) (tw lx_8_131 rfl) hc2 hlen hl.1 (by obtain ⟨x, rfl⟩ := hv; exact Nat.le_of_ble_eq_true rfl) hR1 hLo1 (by decide) (by decide) ⟨by have := le1.1; have := le2.1; show 82 + (q1.1 - h_4.1) + (q2.1 - q1.1) ≤ 600000; simp only [] at *; omega, by have := le1.2; have := le2.2; show h_4.2.1 + (q1.2.1 - h_4.2.1) + (q2.2.1 - q1.2.1) ≤ 7302250; simp only [] at *; omega⟩ (fun H2 locs2 hR2 hLo2 => ?_)
  refine W.eq (g2 := F0 m 1511 la (mx_v (tB l D s.heap.size (fun _ => a0) s.heap (mx_tau ag)).2.1.1 v :: mx_v (tB l D s.heap.size (fun _ => a0) s.heap (mx_tau ag)).2.1.1 v :: [])) rfl ?_
  have hS2 := lw_S hR2 hLo2
  have hend := lw_end (cells := 82 + (q1.1 - h_4.1) + (q2.1 - q1.1)) (slots := h_4.2.1 + (q1.2.1 - h_4.2.1) + (q2.2.1 - q1.2.1)) (e := e) (below := below) (l := l) C0 hL6 hS2 hl (by have := le1.1; have := le2.1; simp only [] at *; omega) (by have := le1.2; have := le2.2; simp only [] at *; omega)
  obtain ⟨x, rfl⟩ := hv
  refine lv_icmp_eq (tgt := 1516) hx0 hb dl_1511 (by decide) (fun _ => hend) (fun z => absurd rfl z)
end LAW
