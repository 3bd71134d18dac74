def lw_lv (b a1 a2 : Nat) (i : Int32) : List (Nat × Value) := [(0, .ref b), (1, .ref a1), (2, .ref a2), (3, .int i)]
section LAW
variable {p : Program} {e : Env} {s : State} {m : MethodId} {below : List Frame} {meth : Method} {c : Code} {l : Launch} {b L : Nat} {xs : Nat → Int32} {D : va_G} {ad : Nat → Nat} {tau : Nat → Int64} {H : Heap} {locs : List Loc} {la : Array Slot} {cells slots : Nat} {Q : State → Prop}
/-- the script's place i + j -/
theorem lw_arg {pc i j a1 a2 : Nat} {x : Int32} {st : List Value} (C0 : lw_At p s m meth c b L xs) (hS : va_S (fun q : Nat => s.heap.size ≤ q) s.heap H locs) (hl : lv_has la 4 (lw_lv b a1 a2 (nI i))) (hj : i + j < L) (hL : L ≤ 3072) (hx : Int32.ofInt j = x) (hj2 : x = nI j)
    (d0 : decode code pc = .ok (.aload_n 0, 1)) (d1 : decode code (pc + 1) = .ok (.iload_n 3, 1)) (d2 : decode code (pc + 1 + 1) = .ok (.iconst j, 1)) (d3 : decode code (pc + 1 + 1 + 1) = .ok (.iadd, 1)) (d4 : decode code (pc + 1 + 1 + 1 + 1) = .ok (.iaload, 1))
    (K : W p l e room_1 s m #[Value.ref b] below meth c H locs cells slots Q (F0 m (pc + 5) la (.int (xs (i + j)) :: st))) : W p l e room_1 s m #[Value.ref b] below meth c H locs cells slots Q (F0 m pc la st) := by
  obtain ⟨hx0, hb, hr, hml, hown, hts, hX, hbl, hlocks, hgv⟩ := C0
  have hbA : ¬ (fun q : Nat => s.heap.size ≤ q) b := Nat.not_le.mpr hbl
  refine lv_aload_n hx0 hb d0 rfl (lv_at hl 0 rfl) ?_
  refine lv_iload_n hx0 hb d1 rfl (lv_at hl 3 rfl) ?_
  refine lv_iconst hx0 hb d2 hx ?_
  refine lv_iadd hx0 hb d3 ?_
  rw [hj2, nI_add]
  refine va_sld hx0 hb hX hbl hbA hS (i := nI (i + j)) (vp_in_nI hj (by omega)) d4 ?_
  rw [nI_clamp (show i + j < 2 ^ 31 by omega)]
  exact K
theorem lw_cmp {i L : Nat} (hi : i ≤ 100000) (hL : L ≤ 3072) : (nI L - 6 < nI i) ↔ ((L : Nat) : Int) - 6 < ((i : Nat) : Int) := by
  have e1 : nI L - 6 = Int32.ofInt (((L : Nat) : Int) - 6) := by
    rw [Int32.ofInt_sub]; rfl
  have e2 : nI i = Int32.ofInt ((i : Nat) : Int) := by rfl
  rw [e1, e2]
  exact lt_I (by omega) (by omega)
theorem lw_S {h : mx_H} (hR : mx_Rp (tB l D s.heap.size ad s.heap tau).2.1.1 s h H) (hL : ∀ q ∈ locs, mx_up (tB l D s.heap.size ad s.heap tau).2.1 q.base) : va_S (fun q : Nat => s.heap.size ≤ q) s.heap H locs := by
  have h3 : H.size = s.heap.size + (h.1 - 1) := hR.2.2.1
  have h4 : ∀ q, q < s.heap.size → H[q]? = s.heap[q]? := hR.2.2.2.1
  exact ⟨by omega, fun q hq _ => h4 q hq, fun q hq => hL q hq⟩
/-- what holds between two calls: ph bounds new cells and the tape -/
def lw_I (B : mx_B) (s : State) (b i : Nat) (ph : Int) (H : Heap) (locs : List Loc) (la : Array Slot) (cells slots : Nat) : Prop :=
  ∃ (n w : Nat) (S : Nat → xS) (Z : xZ) (h : mx_H), XH n w S Z h ∧ (GI n S Z ∧ RL Z) ∧ mx_Rp B.2.1.1 s h H ∧ (∀ q ∈ locs, mx_up B.2.1 q.base) ∧ lv_has la 4 (lw_lv b (mx_rho B.2.1.1 1) (mx_rho B.2.1.1 56) (nI i)) ∧ (3 * ((n : Nat) : Int) + Z 1 1 ≤ ph ∧ ((w : Nat) : Int) ≤ 1000000 + 900 * (((n : Nat) : Int) - 83)) ∧ cells = n - 1 ∧ slots = w
theorem mx_Ca_le {B : mx_B} {d mi : Nat} {as : List Value} {h q : mx_H} {v : Option Value} (hc : mx_Ca B d mi as h (v, q)) : mx_le h q := by
  obtain ⟨_, _, h1, _⟩ := hc
  exact h1
theorem lw_room {n w n1 w1 : Nat} {S S1 : Nat → xS} {Z Z1 : xZ} {h h1 : mx_H} {ph q : Int} (hx : XH n w S Z h) (hx1 : XH n1 w1 S1 Z1 h1) (hG : GI n S Z) (hq : 3 * ((n : Nat) : Int) + Z 1 1 ≤ ph ∧ ((w : Nat) : Int) ≤ 1000000 + 900 * (((n : Nat) : Int) - 83)) (hq0 : ph + q ≤ 12000) (hq1 : lq q n w Z n1 w1 Z1) (hle : mx_le h h1) : (n - 1 + (h1.1 - h.1) = n1 - 1 ∧ w + (h1.2.1 - h.2.1) = w1) ∧ (n1 - 1 ≤ 600000 ∧ w1 ≤ 7302250) ∧ (3 * ((n1 : Nat) : Int) + Z1 1 1 ≤ ph + q ∧ ((w1 : Nat) : Int) ≤ 1000000 + 900 * (((n1 : Nat) : Int) - 83)) := by
  have a1 := hx.1; have a2 := hx.2.1; have b1 := hx1.1; have b2 := hx1.2.1; have b3 := hx1.2.2.1; have g := GI_n hG
  have l1 := hle.1; have l2 := hle.2
  unfold lq at hq1
  rw [a1, b1] at *
  rw [a2, b2] at *
  refine ⟨⟨by omega, by omega⟩, ⟨by omega, by omega⟩, by omega, by omega⟩
theorem eI (x : Int32) : xI x.toInt = .int x := by rw [xI, Int32.ofInt_toInt]
theorem eL (x : Int64) : xL x.toInt = .long x := by rw [xL, Int64.ofInt_toInt]
theorem iI_x (x : Int32) : iI x.toInt := ⟨x.le_toInt, by have := x.toInt_lt; omega⟩
theorem iL_x (x : Int64) : iL x.toInt := ⟨x.le_toInt, by have := x.toInt_lt; omega⟩
set_option maxHeartbeats 4000000 in
set_option maxRecDepth 100000 in
theorem lc_0 (C0 : lw_At p s m meth c b L xs) (hL : L ≤ 3072) (A : mx_Wx (tB l D s.heap.size ad s.heap tau) p s m #[Value.ref b] c code 4 R_law) {i : Nat} (hi : i + 6 ≤ L) {ph : Int} (hph : ph ≤ 10489) (hI : lw_I (tB l D s.heap.size ad s.heap tau) s b i ph H locs la cells slots) (K : ∀ (H : Heap) (locs : List Loc) (cells slots : Nat), lw_I (tB l D s.heap.size ad s.heap tau) s b i (ph + 20) H locs la cells slots → W p l e room_1 s m #[Value.ref b] below meth c H locs cells slots Q (F0 m 1513 la [])) : W p l e room_1 s m #[Value.ref b] below meth c H locs cells slots Q (F0 m 228 la []) := by
  obtain ⟨hx0, hb, hr, hml, hown, hts, hX, hbl, hlocks, hgv⟩ := id C0
  obtain ⟨nZ, wZ, SZ, ZZ, hZ, hxZ, ⟨hGZ, hLZ⟩, hRZ, hLoZ, hl, hrZ, rfl, rfl⟩ := hI
  have qZ : 0 ≤ ZZ 1 1 ∧ ZZ 1 1 ≤ 900 := hGZ.pr 1 1
  have hS := lw_S hRZ hLoZ
  refine lv_aload_n hx0 hb dl_228 rfl (lv_at hl 1 rfl) ?_
  refine lw_arg C0 hS hl (j := 1) (x := 1) (by omega) hL (by decide) (by decide +kernel) dl_229 dl_230 dl_231 dl_232 dl_233 ?_
  refine lw_arg C0 hS hl (j := 2) (x := 2) (by omega) hL (by decide) (by decide +kernel) dl_234 dl_235 dl_236 dl_237 dl_238 ?_
  refine lw_arg C0 hS hl (j := 3) (x := 3) (by omega) hL (by decide) (by decide +kernel) dl_239 dl_240 dl_241 dl_242 dl_243 ?_
  refine lw_arg C0 hS hl (j := 4) (x := 4) (by omega) hL (by decide) (by decide +kernel) dl_244 dl_245 dl_246 dl_247 dl_248 ?_
  refine lw_arg C0 hS hl (j := 5) (x := 5) (by omega) hL (by decide) (by decide +kernel) dl_249 dl_250 dl_251 dl_252 dl_253 ?_
  obtain ⟨zA, nA, wA, SA, ZA, hA, hcA, hxA, hGA, hqA, heA1, heA2, heA3, heA4, hpA⟩ := sf_89 (l := l) (D := D) (b0 := s.heap.size) (ad := ad) (Hb := s.heap) (tau := tau) (x0 := (xs (i + 1)).toInt) (x1 := (xs (i + 2)).toInt) (x2 := (xs (i + 3)).toInt) (x3 := (xs (i + 4)).toInt) (x4 := (xs (i + 5)).toInt) hxZ hGZ (iI_x (xs (i + 1))) (iI_x (xs (i + 2))) (iI_x (xs (i + 3))) (iI_x (xs (i + 4))) (iI_x (xs (i + 5))) (by omega)
  rw [eI (xs (i + 1)), eI (xs (i + 2)), eI (xs (i + 3)), eI (xs (i + 4)), eI (xs (i + 5))] at hcA
  obtain ⟨⟨zcA, zsA⟩, ⟨rcA, rsA⟩, hrA⟩ := lw_room hxZ hxA hGZ hrZ (by omega) hqA (mx_Ca_le hcA)
  refine W.eq (g2 := F0 m 254 la ((([.int (xs (i + 1)), .int (xs (i + 2)), .int (xs (i + 3)), .int (xs (i + 4)), .int (xs (i + 5))] : List Value).map (mx_v (tB l D s.heap.size ad s.heap tau).2.1.1)).reverse ++ .ref (mx_rho (tB l D s.heap.size ad s.heap tau).2.1.1 1) :: [])) rfl ?_
  refine mx_Wcallv (B := (tB l D s.heap.size ad s.heap tau)) (ci := 11) (r := cr_11) (n := 5) A dl_254 me_89 rfl (hxZ.obj (lt83 (GI_n hGZ) rfl) (GI_s hGZ 1 rfl)) (tw lx_2_189 rfl) (tw lx_2_190 rfl) (tw lx_2_188 rfl) hcA rfl hl.1 (by exact Nat.le_of_ble_eq_true rfl) hRZ hLoZ (by decide) (by decide) ⟨by show nZ - 1 + (hA.1 - hZ.1) ≤ 600000; rw [zcA]; exact rcA, by show _ + (hA.2.1 - hZ.2.1) ≤ 7302250; rw [zsA]; exact rsA⟩ (fun HA locsA hRA hLoA => ?_)
  refine W.cs zcA zsA ?_
  have qA : 0 ≤ ZA 1 1 ∧ ZA 1 1 ≤ 900 := hGA.pr 1 1
  have hS1 := lw_S hRA hLoA
  clear hS
  have hS := hS1
  refine W.eq (g2 := F0 m 257 la (xI zA :: [])) rfl ?_
  refine lv_pop hx0 hb dl_257 rfl ?_
  refine lv_aload_n hx0 hb dl_258 rfl (lv_at hl 2 rfl) ?_
  refine lw_arg C0 hS hl (j := 1) (x := 1) (by omega) hL (by decide) (by decide +kernel) dl_259 dl_260 dl_261 dl_262 dl_263 ?_
  refine lw_arg C0 hS hl (j := 2) (x := 2) (by omega) hL (by decide) (by decide +kernel) dl_264 dl_265 dl_266 dl_267 dl_268 ?_
  refine lw_arg C0 hS hl (j := 3) (x := 3) (by omega) hL (by decide) (by decide +kernel) dl_269 dl_270 dl_271 dl_272 dl_273 ?_
  refine lw_arg C0 hS hl (j := 4) (x := 4) (by omega) hL (by decide) (by decide +kernel) dl_274 dl_275 dl_276 dl_277 dl_278 ?_
  refine lw_arg C0 hS hl (j := 5) (x := 5) (by omega) hL (by decide) (by decide +kernel) dl_279 dl_280 dl_281 dl_282 dl_283 ?_
  obtain ⟨zB, nB, wB, SB, ZB, hB, hcB, hxB, hGB, hqB, heB1, heB2, heB3, heB4, hpB⟩ := sf_157 (l := l) (D := D) (b0 := s.heap.size) (ad := ad) (Hb := s.heap) (tau := tau) (x0 := (xs (i + 1)).toInt) (x1 := (xs (i + 2)).toInt) (x2 := (xs (i + 3)).toInt) (x3 := (xs (i + 4)).toInt) (x4 := (xs (i + 5)).toInt) hxA hGA (iI_x (xs (i + 1))) (iI_x (xs (i + 2))) (iI_x (xs (i + 3))) (iI_x (xs (i + 4))) (iI_x (xs (i + 5))) (by omega)
  rw [eI (xs (i + 1)), eI (xs (i + 2)), eI (xs (i + 3)), eI (xs (i + 4)), eI (xs (i + 5))] at hcB
  obtain ⟨⟨zcB, zsB⟩, ⟨rcB, rsB⟩, hrB⟩ := lw_room hxA hxB hGA hrA (by omega) hqB (mx_Ca_le hcB)
  refine W.eq (g2 := F0 m 284 la ((([.int (xs (i + 1)), .int (xs (i + 2)), .int (xs (i + 3)), .int (xs (i + 4)), .int (xs (i + 5))] : List Value).map (mx_v (tB l D s.heap.size ad s.heap tau).2.1.1)).reverse ++ .ref (mx_rho (tB l D s.heap.size ad s.heap tau).2.1.1 56) :: [])) rfl ?_
  refine mx_Wcallv (B := (tB l D s.heap.size ad s.heap tau)) (ci := 12) (r := cr_12) (n := 5) A dl_284 me_157 rfl (hxA.obj (lt83 (GI_n hGA) rfl) (GI_s hGA 56 rfl)) (tw lx_6_95 rfl) (tw lx_6_96 rfl) (tw lx_6_94 rfl) hcB rfl hl.1 (by exact Nat.le_of_ble_eq_true rfl) hRA hLoA (by decide) (by decide) ⟨by show nA - 1 + (hB.1 - hA.1) ≤ 600000; rw [zcB]; exact rcB, by show _ + (hB.2.1 - hA.2.1) ≤ 7302250; rw [zsB]; exact rsB⟩ (fun HB locsB hRB hLoB => ?_)
  refine W.cs zcB zsB ?_
  have hLB1 : RL1 ZB := rl_89 hLZ.1 heA1 hpA heB1 hpB
  have hLB2 : RL2 ZB := RL2_rv heB2 (RL2_rv heA2 hLZ.2.1)
  have hLB3 : RL3 ZB := RL3_rv heB3 (RL3_rv heA3 hLZ.2.2.1)
  have hLB4 : RL4 ZB := RL4_rv hGA heB4 (RL4_rv hGZ heA4 hLZ.2.2.2)
  have hLB : RL ZB := ⟨hLB1, hLB2, hLB3, hLB4⟩
  refine W.eq (g2 := F0 m 287 la (xI zB :: [])) rfl ?_
  refine lv_pop hx0 hb dl_287 rfl ?_
  refine lv_goto (tgt := 1513) hx0 hb dl_288 (by decide) ?_
  exact K HB locsB (nB - 1) wB ⟨nB, wB, SB, ZB, hB, hxB, ⟨hGB, hLB⟩, hRB, hLoB, hl, ⟨by have := hrB.1; omega, hrB.2⟩, rfl, rfl⟩
set_option maxHeartbeats 4000000 in
set_option maxRecDepth 100000 in
theorem lc_1 (C0 : lw_At p s m meth c b L xs) (hL : L ≤ 3072) (A : mx_Wx (tB l D s.heap.size ad s.heap tau) p s m #[Value.ref b] c code 4 R_law) {i : Nat} (hi : i + 6 ≤ L) {ph : Int} (hph : ph ≤ 10489) (hI : lw_I (tB l D s.heap.size ad s.heap tau) s b i ph H locs la cells slots) (K : ∀ (H : Heap) (locs : List Loc) (cells slots : Nat), lw_I (tB l D s.heap.size ad s.heap tau) s b i (ph + 20) H locs la cells slots → W p l e room_1 s m #[Value.ref b] below meth c H locs cells slots Q (F0 m 1513 la [])) : W p l e room_1 s m #[Value.ref b] below meth c H locs cells slots Q (F0 m 291 la []) := by
  obtain ⟨hx0, hb, hr, hml, hown, hts, hX, hbl, hlocks, hgv⟩ := id C0
  obtain ⟨nZ, wZ, SZ, ZZ, hZ, hxZ, ⟨hGZ, hLZ⟩, hRZ, hLoZ, hl, hrZ, rfl, rfl⟩ := hI
  have qZ : 0 ≤ ZZ 1 1 ∧ ZZ 1 1 ≤ 900 := hGZ.pr 1 1
  have hS := lw_S hRZ hLoZ
  refine lv_aload_n hx0 hb dl_291 rfl (lv_at hl 1 rfl) ?_
  refine lw_arg C0 hS hl (j := 1) (x := 1) (by omega) hL (by decide) (by decide +kernel) dl_292 dl_293 dl_294 dl_295 dl_296 ?_
  obtain ⟨zA, nA, wA, SA, ZA, hA, hcA, hxA, hGA, hqA, heA1, heA2, heA3, heA4, hpA⟩ := sf_90 (l := l) (D := D) (b0 := s.heap.size) (ad := ad) (Hb := s.heap) (tau := tau) (x0 := (xs (i + 1)).toInt) hxZ hGZ (T := fun i => ZZ 2 i % 256) (fun _ => rfl) hLZ.2.1 (iI_x (xs (i + 1))) (by omega)
  rw [eI (xs (i + 1))] at hcA
  obtain ⟨⟨zcA, zsA⟩, ⟨rcA, rsA⟩, hrA⟩ := lw_room hxZ hxA hGZ hrZ (by omega) hqA (mx_Ca_le hcA)
  refine W.eq (g2 := F0 m 297 la ((([.int (xs (i + 1))] : List Value).map (mx_v (tB l D s.heap.size ad s.heap tau).2.1.1)).reverse ++ .ref (mx_rho (tB l D s.heap.size ad s.heap tau).2.1.1 1) :: [])) rfl ?_
  refine mx_Wcallv (B := (tB l D s.heap.size ad s.heap tau)) (ci := 11) (r := cr_11) (n := 1) A dl_297 me_90 rfl (hxZ.obj (lt83 (GI_n hGZ) rfl) (GI_s hGZ 1 rfl)) (tw lx_2_197 rfl) (tw lx_2_198 rfl) (tw lx_2_196 rfl) hcA rfl hl.1 (by exact Nat.le_of_ble_eq_true rfl) hRZ hLoZ (by decide) (by decide) ⟨by show nZ - 1 + (hA.1 - hZ.1) ≤ 600000; rw [zcA]; exact rcA, by show _ + (hA.2.1 - hZ.2.1) ≤ 7302250; rw [zsA]; exact rsA⟩ (fun HA locsA hRA hLoA => ?_)
  refine W.cs zcA zsA ?_
  have qA : 0 ≤ ZA 1 1 ∧ ZA 1 1 ≤ 900 := hGA.pr 1 1
  have hS1 := lw_S hRA hLoA
  clear hS
  have hS := hS1
  refine W.eq (g2 := F0 m 300 la (xI zA :: [])) rfl ?_
  refine lv_pop hx0 hb dl_300 rfl ?_
  refine lv_aload_n hx0 hb dl_301 rfl (lv_at hl 2 rfl) ?_
  refine lw_arg C0 hS hl (j := 1) (x := 1) (by omega) hL (by decide) (by decide +kernel) dl_302 dl_303 dl_304 dl_305 dl_306 ?_
  obtain ⟨zB, nB, wB, SB, ZB, hB, hcB, hxB, hGB, hqB, heB1, heB2, heB3, heB4, hpB⟩ := sf_182 (l := l) (D := D) (b0 := s.heap.size) (ad := ad) (Hb := s.heap) (tau := tau) (x0 := (xs (i + 1)).toInt) hxA hGA (T := fun i => ZZ 2 i % 256) (te_law hLZ.1 heA1) (iI_x (xs (i + 1))) (by omega)
  rw [eI (xs (i + 1))] at hcB
  obtain ⟨⟨zcB, zsB⟩, ⟨rcB, rsB⟩, hrB⟩ := lw_room hxA hxB hGA hrA (by omega) hqB (mx_Ca_le hcB)
  refine W.eq (g2 := F0 m 307 la ((([.int (xs (i + 1))] : List Value).map (mx_v (tB l D s.heap.size ad s.heap tau).2.1.1)).reverse ++ .ref (mx_rho (tB l D s.heap.size ad s.heap tau).2.1.1 56) :: [])) rfl ?_
  refine mx_Wcallv (B := (tB l D s.heap.size ad s.heap tau)) (ci := 12) (r := cr_12) (n := 1) A dl_307 me_182 rfl (hxA.obj (lt83 (GI_n hGA) rfl) (GI_s hGA 56 rfl)) (tw lx_6_99 rfl) (tw lx_6_100 rfl) (tw lx_6_98 rfl) hcB rfl hl.1 (by exact Nat.le_of_ble_eq_true rfl) hRA hLoA (by decide) (by decide) ⟨by show nA - 1 + (hB.1 - hA.1) ≤ 600000; rw [zcB]; exact rcB, by show _ + (hB.2.1 - hA.2.1) ≤ 7302250; rw [zsB]; exact rsB⟩ (fun HB locsB hRB hLoB => ?_)
  refine W.cs zcB zsB ?_
  have rl9 := rl_90 hLZ.1 heA1 hpA heB1 hpB (hGA.pr 1 2).2 (hGB.pr 56 13).2
  have hLB1 : RL1 ZB := rl9.1
  have hLB2 : RL2 ZB := rl2_90 hLZ.2.1 heA2 hpA heB2 hpB rl9.2 (hGA.pr 36 1).1
  have hLB3 : RL3 ZB := RL3_rv heB3 (RL3_rv heA3 hLZ.2.2.1)
  have hLB4 : RL4 ZB := RL4_rv hGA heB4 (RL4_rv hGZ heA4 hLZ.2.2.2)
  have hLB : RL ZB := ⟨hLB1, hLB2, hLB3, hLB4⟩
  refine W.eq (g2 := F0 m 310 la (xI zB :: [])) rfl ?_
  refine lv_pop hx0 hb dl_310 rfl ?_
  refine lv_goto (tgt := 1513) hx0 hb dl_311 (by decide) ?_
  exact K HB locsB (nB - 1) wB ⟨nB, wB, SB, ZB, hB, hxB, ⟨hGB, hLB⟩, hRB, hLoB, hl, ⟨by have := hrB.1; omega, hrB.2⟩, rfl, rfl⟩
set_option maxHeartbeats 4000000 in
set_option maxRecDepth 100000 in
theorem lc_2 (C0 : lw_At p s m meth c b L xs) (hL : L ≤ 3072) (A : mx_Wx (tB l D s.heap.size ad s.heap tau) p s m #[Value.ref b] c code 4 R_law) {i : Nat} (hi : i + 6 ≤ L) {ph : Int} (hph : ph ≤ 10489) (hI : lw_I (tB l D s.heap.size ad s.heap tau) s b i ph H locs la cells slots) (K : ∀ (H : Heap) (locs : List Loc) (cells slots : Nat), lw_I (tB l D s.heap.size ad s.heap tau) s b i (ph + 20) H locs la cells slots → W p l e room_1 s m #[Value.ref b] below meth c H locs cells slots Q (F0 m 1513 la [])) : W p l e room_1 s m #[Value.ref b] below meth c H locs cells slots Q (F0 m 314 la []) := by
  obtain ⟨hx0, hb, hr, hml, hown, hts, hX, hbl, hlocks, hgv⟩ := id C0
  obtain ⟨nZ, wZ, SZ, ZZ, hZ, hxZ, ⟨hGZ, hLZ⟩, hRZ, hLoZ, hl, hrZ, rfl, rfl⟩ := hI
  have qZ : 0 ≤ ZZ 1 1 ∧ ZZ 1 1 ≤ 900 := hGZ.pr 1 1
  have hS := lw_S hRZ hLoZ
  refine lv_aload_n hx0 hb dl_314 rfl (lv_at hl 1 rfl) ?_
  refine lw_arg C0 hS hl (j := 1) (x := 1) (by omega) hL (by decide) (by decide +kernel) dl_315 dl_316 dl_317 dl_318 dl_319 ?_
  obtain ⟨zA, nA, wA, SA, ZA, hA, hcA, hxA, hGA, hqA, heA1, heA2, heA3, heA4⟩ := sf_91 (l := l) (D := D) (b0 := s.heap.size) (ad := ad) (Hb := s.heap) (tau := tau) (x0 := (xs (i + 1)).toInt) hxZ hGZ (iI_x (xs (i + 1))) (by omega)
  rw [eI (xs (i + 1))] at hcA
  obtain ⟨⟨zcA, zsA⟩, ⟨rcA, rsA⟩, hrA⟩ := lw_room hxZ hxA hGZ hrZ (by omega) hqA (mx_Ca_le hcA)
  refine W.eq (g2 := F0 m 320 la ((([.int (xs (i + 1))] : List Value).map (mx_v (tB l D s.heap.size ad s.heap tau).2.1.1)).reverse ++ .ref (mx_rho (tB l D s.heap.size ad s.heap tau).2.1.1 1) :: [])) rfl ?_
  refine mx_Wcallv (B := (tB l D s.heap.size ad s.heap tau)) (ci := 11) (r := cr_11) (n := 1) A dl_320 me_91 rfl (hxZ.obj (lt83 (GI_n hGZ) rfl) (GI_s hGZ 1 rfl)) (tw lx_3_181 rfl) (tw lx_3_182 rfl) (tw lx_3_180 rfl) hcA rfl hl.1 (by exact Nat.le_of_ble_eq_true rfl) hRZ hLoZ (by decide) (by decide) ⟨by show nZ - 1 + (hA.1 - hZ.1) ≤ 600000; rw [zcA]; exact rcA, by show _ + (hA.2.1 - hZ.2.1) ≤ 7302250; rw [zsA]; exact rsA⟩ (fun HA locsA hRA hLoA => ?_)
  refine W.cs zcA zsA ?_
  have qA : 0 ≤ ZA 1 1 ∧ ZA 1 1 ≤ 900 := hGA.pr 1 1
  have hS1 := lw_S hRA hLoA
  clear hS
  have hS := hS1
  refine W.eq (g2 := F0 m 323 la (xI zA :: [])) rfl ?_
  refine lv_pop hx0 hb dl_323 rfl ?_
  refine lv_aload_n hx0 hb dl_324 rfl (lv_at hl 2 rfl) ?_
  refine lw_arg C0 hS hl (j := 1) (x := 1) (by omega) hL (by decide) (by decide +kernel) dl_325 dl_326 dl_327 dl_328 dl_329 ?_
  obtain ⟨zB, nB, wB, SB, ZB, hB, hcB, hxB, hGB, hqB, heB1, heB2, heB3, heB4⟩ := sf_183 (l := l) (D := D) (b0 := s.heap.size) (ad := ad) (Hb := s.heap) (tau := tau) (x0 := (xs (i + 1)).toInt) hxA hGA (iI_x (xs (i + 1))) (by omega)
  rw [eI (xs (i + 1))] at hcB
  obtain ⟨⟨zcB, zsB⟩, ⟨rcB, rsB⟩, hrB⟩ := lw_room hxA hxB hGA hrA (by omega) hqB (mx_Ca_le hcB)
  refine W.eq (g2 := F0 m 330 la ((([.int (xs (i + 1))] : List Value).map (mx_v (tB l D s.heap.size ad s.heap tau).2.1.1)).reverse ++ .ref (mx_rho (tB l D s.heap.size ad s.heap tau).2.1.1 56) :: [])) rfl ?_
  refine mx_Wcallv (B := (tB l D s.heap.size ad s.heap tau)) (ci := 12) (r := cr_12) (n := 1) A dl_330 me_183 rfl (hxA.obj (lt83 (GI_n hGA) rfl) (GI_s hGA 56 rfl)) (tw lx_6_212 rfl) (tw lx_6_213 rfl) (tw lx_6_211 rfl) hcB rfl hl.1 (by exact Nat.le_of_ble_eq_true rfl) hRA hLoA (by decide) (by decide) ⟨by show nA - 1 + (hB.1 - hA.1) ≤ 600000; rw [zcB]; exact rcB, by show _ + (hB.2.1 - hA.2.1) ≤ 7302250; rw [zsB]; exact rsB⟩ (fun HB locsB hRB hLoB => ?_)
  refine W.cs zcB zsB ?_
  have hLB1 : RL1 ZB := RL1_rv heB1 (RL1_rv heA1 hLZ.1)
  have hLB2 : RL2 ZB := RL2_rv heB2 (RL2_rv heA2 hLZ.2.1)
  have hLB3 : RL3 ZB := RL3_rv heB3 (RL3_rv heA3 hLZ.2.2.1)
  have hLB4 : RL4 ZB := RL4_rv hGA heB4 (RL4_rv hGZ heA4 hLZ.2.2.2)
  have hLB : RL ZB := ⟨hLB1, hLB2, hLB3, hLB4⟩
  refine W.eq (g2 := F0 m 333 la (xI zB :: [])) rfl ?_
  refine lv_pop hx0 hb dl_333 rfl ?_
  refine lv_goto (tgt := 1513) hx0 hb dl_334 (by decide) ?_
  exact K HB locsB (nB - 1) wB ⟨nB, wB, SB, ZB, hB, hxB, ⟨hGB, hLB⟩, hRB, hLoB, hl, ⟨by have := hrB.1; omega, hrB.2⟩, rfl, rfl⟩
set_option maxHeartbeats 4000000 in
set_option maxRecDepth 100000 in
theorem lc_3 (C0 : lw_At p s m meth c b L xs) (hL : L ≤ 3072) (A : mx_Wx (tB l D s.heap.size ad s.heap tau) p s m #[Value.ref b] c code 4 R_law) {i : Nat} (hi : i + 6 ≤ L) {ph : Int} (hph : ph ≤ 10489) (hI : lw_I (tB l D s.heap.size ad s.heap tau) s b i ph H locs la cells slots) (K : ∀ (H : Heap) (locs : List Loc) (cells slots : Nat), lw_I (tB l D s.heap.size ad s.heap tau) s b i (ph + 20) H locs la cells slots → W p l e room_1 s m #[Value.ref b] below meth c H locs cells slots Q (F0 m 1513 la [])) : W p l e room_1 s m #[Value.ref b] below meth c H locs cells slots Q (F0 m 337 la []) := by
  obtain ⟨hx0, hb, hr, hml, hown, hts, hX, hbl, hlocks, hgv⟩ := id C0
  obtain ⟨nZ, wZ, SZ, ZZ, hZ, hxZ, ⟨hGZ, hLZ⟩, hRZ, hLoZ, hl, hrZ, rfl, rfl⟩ := hI
  have qZ : 0 ≤ ZZ 1 1 ∧ ZZ 1 1 ≤ 900 := hGZ.pr 1 1
  have hS := lw_S hRZ hLoZ
  refine lv_aload_n hx0 hb dl_337 rfl (lv_at hl 1 rfl) ?_
  refine lw_arg C0 hS hl (j := 1) (x := 1) (by omega) hL (by decide) (by decide +kernel) dl_338 dl_339 dl_340 dl_341 dl_342 ?_
  obtain ⟨zA, nA, wA, SA, ZA, hA, hcA, hxA, hGA, hqA, heA1, heA2, heA3, heA4⟩ := sf_92 (l := l) (D := D) (b0 := s.heap.size) (ad := ad) (Hb := s.heap) (tau := tau) (x0 := (xs (i + 1)).toInt) hxZ hGZ (iI_x (xs (i + 1))) (by omega)
  rw [eI (xs (i + 1))] at hcA
  obtain ⟨⟨zcA, zsA⟩, ⟨rcA, rsA⟩, hrA⟩ := lw_room hxZ hxA hGZ hrZ (by omega) hqA (mx_Ca_le hcA)
  refine W.eq (g2 := F0 m 343 la ((([.int (xs (i + 1))] : List Value).map (mx_v (tB l D s.heap.size ad s.heap tau).2.1.1)).reverse ++ .ref (mx_rho (tB l D s.heap.size ad s.heap tau).2.1.1 1) :: [])) rfl ?_
  refine mx_Wcallv (B := (tB l D s.heap.size ad s.heap tau)) (ci := 11) (r := cr_11) (n := 1) A dl_343 me_92 rfl (hxZ.obj (lt83 (GI_n hGZ) rfl) (GI_s hGZ 1 rfl)) (tw lx_3_185 rfl) (tw lx_3_186 rfl) (tw lx_3_184 rfl) hcA rfl hl.1 (by exact Nat.le_of_ble_eq_true rfl) hRZ hLoZ (by decide) (by decide) ⟨by show nZ - 1 + (hA.1 - hZ.1) ≤ 600000; rw [zcA]; exact rcA, by show _ + (hA.2.1 - hZ.2.1) ≤ 7302250; rw [zsA]; exact rsA⟩ (fun HA locsA hRA hLoA => ?_)
  refine W.cs zcA zsA ?_
  have qA : 0 ≤ ZA 1 1 ∧ ZA 1 1 ≤ 900 := hGA.pr 1 1
  have hS1 := lw_S hRA hLoA
  clear hS
  have hS := hS1
  refine W.eq (g2 := F0 m 346 la (xI zA :: [])) rfl ?_
  refine lv_pop hx0 hb dl_346 rfl ?_
  refine lv_aload_n hx0 hb dl_347 rfl (lv_at hl 2 rfl) ?_
  refine lw_arg C0 hS hl (j := 1) (x := 1) (by omega) hL (by decide) (by decide +kernel) dl_348 dl_349 dl_350 dl_351 dl_352 ?_
  obtain ⟨zB, nB, wB, SB, ZB, hB, hcB, hxB, hGB, hqB, heB1, heB2, heB3, heB4⟩ := sf_199 (l := l) (D := D) (b0 := s.heap.size) (ad := ad) (Hb := s.heap) (tau := tau) (x0 := (xs (i + 1)).toInt) hxA hGA (iI_x (xs (i + 1))) (by omega)
  rw [eI (xs (i + 1))] at hcB
  obtain ⟨⟨zcB, zsB⟩, ⟨rcB, rsB⟩, hrB⟩ := lw_room hxA hxB hGA hrA (by omega) hqB (mx_Ca_le hcB)
  refine W.eq (g2 := F0 m 353 la ((([.int (xs (i + 1))] : List Value).map (mx_v (tB l D s.heap.size ad s.heap tau).2.1.1)).reverse ++ .ref (mx_rho (tB l D s.heap.size ad s.heap tau).2.1.1 56) :: [])) rfl ?_
  refine mx_Wcallv (B := (tB l D s.heap.size ad s.heap tau)) (ci := 12) (r := cr_12) (n := 1) A dl_353 me_199 rfl (hxA.obj (lt83 (GI_n hGA) rfl) (GI_s hGA 56 rfl)) (tw lx_6_216 rfl) (tw lx_6_217 rfl) (tw lx_6_215 rfl) hcB rfl hl.1 (by exact Nat.le_of_ble_eq_true rfl) hRA hLoA (by decide) (by decide) ⟨by show nA - 1 + (hB.1 - hA.1) ≤ 600000; rw [zcB]; exact rcB, by show _ + (hB.2.1 - hA.2.1) ≤ 7302250; rw [zsB]; exact rsB⟩ (fun HB locsB hRB hLoB => ?_)
  refine W.cs zcB zsB ?_
  have hLB1 : RL1 ZB := RL1_rv heB1 (RL1_rv heA1 hLZ.1)
  have hLB2 : RL2 ZB := RL2_rv heB2 (RL2_rv heA2 hLZ.2.1)
  have hLB3 : RL3 ZB := RL3_rv heB3 (RL3_rv heA3 hLZ.2.2.1)
  have hLB4 : RL4 ZB := RL4_rv hGA heB4 (RL4_rv hGZ heA4 hLZ.2.2.2)
  have hLB : RL ZB := ⟨hLB1, hLB2, hLB3, hLB4⟩
  refine W.eq (g2 := F0 m 356 la (xI zB :: [])) rfl ?_
  refine lv_pop hx0 hb dl_356 rfl ?_
  refine lv_goto (tgt := 1513) hx0 hb dl_357 (by decide) ?_
  exact K HB locsB (nB - 1) wB ⟨nB, wB, SB, ZB, hB, hxB, ⟨hGB, hLB⟩, hRB, hLoB, hl, ⟨by have := hrB.1; omega, hrB.2⟩, rfl, rfl⟩
set_option maxHeartbeats 4000000 in
set_option maxRecDepth 100000 in
theorem lc_4 (C0 : lw_At p s m meth c b L xs) (hL : L ≤ 3072) (A : mx_Wx (tB l D s.heap.size ad s.heap tau) p s m #[Value.ref b] c code 4 R_law) {i : Nat} (hi : i + 6 ≤ L) {ph : Int} (hph : ph ≤ 10489) (hI : lw_I (tB l D s.heap.size ad s.heap tau) s b i ph H locs la cells slots) (K : ∀ (H : Heap) (locs : List Loc) (cells slots : Nat), lw_I (tB l D s.heap.size ad s.heap tau) s b i (ph + 20) H locs la cells slots → W p l e room_1 s m #[Value.ref b] below meth c H locs cells slots Q (F0 m 1513 la [])) : W p l e room_1 s m #[Value.ref b] below meth c H locs cells slots Q (F0 m 360 la []) := by
  obtain ⟨hx0, hb, hr, hml, hown, hts, hX, hbl, hlocks, hgv⟩ := id C0
  obtain ⟨nZ, wZ, SZ, ZZ, hZ, hxZ, ⟨hGZ, hLZ⟩, hRZ, hLoZ, hl, hrZ, rfl, rfl⟩ := hI
  have qZ : 0 ≤ ZZ 1 1 ∧ ZZ 1 1 ≤ 900 := hGZ.pr 1 1
  have hS := lw_S hRZ hLoZ
  refine lv_aload_n hx0 hb dl_360 rfl (lv_at hl 1 rfl) ?_
  refine lw_arg C0 hS hl (j := 1) (x := 1) (by omega) hL (by decide) (by decide +kernel) dl_361 dl_362 dl_363 dl_364 dl_365 ?_
  obtain ⟨zA, nA, wA, SA, ZA, hA, hcA, hxA, hGA, hqA, heA1, heA2, heA3, heA4⟩ := sf_93 (l := l) (D := D) (b0 := s.heap.size) (ad := ad) (Hb := s.heap) (tau := tau) (x0 := (xs (i + 1)).toInt) hxZ hGZ (iI_x (xs (i + 1))) (by omega)
  rw [eI (xs (i + 1))] at hcA
  obtain ⟨⟨zcA, zsA⟩, ⟨rcA, rsA⟩, hrA⟩ := lw_room hxZ hxA hGZ hrZ (by omega) hqA (mx_Ca_le hcA)
  refine W.eq (g2 := F0 m 366 la ((([.int (xs (i + 1))] : List Value).map (mx_v (tB l D s.heap.size ad s.heap tau).2.1.1)).reverse ++ .ref (mx_rho (tB l D s.heap.size ad s.heap tau).2.1.1 1) :: [])) rfl ?_
  refine mx_Wcallv (B := (tB l D s.heap.size ad s.heap tau)) (ci := 11) (r := cr_11) (n := 1) A dl_366 me_93 rfl (hxZ.obj (lt83 (GI_n hGZ) rfl) (GI_s hGZ 1 rfl)) (tw lx_3_198 rfl) (tw lx_3_199 rfl) (tw lx_3_197 rfl) hcA rfl hl.1 (by exact Nat.le_of_ble_eq_true rfl) hRZ hLoZ (by decide) (by decide) ⟨by show nZ - 1 + (hA.1 - hZ.1) ≤ 600000; rw [zcA]; exact rcA, by show _ + (hA.2.1 - hZ.2.1) ≤ 7302250; rw [zsA]; exact rsA⟩ (fun HA locsA hRA hLoA => ?_)
  refine W.cs zcA zsA ?_
  have qA : 0 ≤ ZA 1 1 ∧ ZA 1 1 ≤ 900 := hGA.pr 1 1
  have hS1 := lw_S hRA hLoA
  clear hS
  have hS := hS1
  refine W.eq (g2 := F0 m 369 la (xI zA :: [])) rfl ?_
  refine lv_pop hx0 hb dl_369 rfl ?_
  refine lv_aload_n hx0 hb dl_370 rfl (lv_at hl 2 rfl) ?_
  refine lw_arg C0 hS hl (j := 1) (x := 1) (by omega) hL (by decide) (by decide +kernel) dl_371 dl_372 dl_373 dl_374 dl_375 ?_
  obtain ⟨zB, nB, wB, SB, ZB, hB, hcB, hxB, hGB, hqB, heB1, heB2, heB3, heB4⟩ := sf_200 (l := l) (D := D) (b0 := s.heap.size) (ad := ad) (Hb := s.heap) (tau := tau) (x0 := (xs (i + 1)).toInt) hxA hGA (iI_x (xs (i + 1))) (by omega)
  rw [eI (xs (i + 1))] at hcB
  obtain ⟨⟨zcB, zsB⟩, ⟨rcB, rsB⟩, hrB⟩ := lw_room hxA hxB hGA hrA (by omega) hqB (mx_Ca_le hcB)
  refine W.eq (g2 := F0 m 376 la ((([.int (xs (i + 1))] : List Value).map (mx_v (tB l D s.heap.size ad s.heap tau).2.1.1)).reverse ++ .ref (mx_rho (tB l D s.heap.size ad s.heap tau).2.1.1 56) :: [])) rfl ?_
  refine mx_Wcallv (B := (tB l D s.heap.size ad s.heap tau)) (ci := 12) (r := cr_12) (n := 1) A dl_376 me_200 rfl (hxA.obj (lt83 (GI_n hGA) rfl) (GI_s hGA 56 rfl)) (tw lx_6_228 rfl) (tw lx_6_229 rfl) (tw lx_6_227 rfl) hcB rfl hl.1 (by exact Nat.le_of_ble_eq_true rfl) hRA hLoA (by decide) (by decide) ⟨by show nA - 1 + (hB.1 - hA.1) ≤ 600000; rw [zcB]; exact rcB, by show _ + (hB.2.1 - hA.2.1) ≤ 7302250; rw [zsB]; exact rsB⟩ (fun HB locsB hRB hLoB => ?_)
  refine W.cs zcB zsB ?_
  have hLB1 : RL1 ZB := RL1_rv heB1 (RL1_rv heA1 hLZ.1)
  have hLB2 : RL2 ZB := RL2_rv heB2 (RL2_rv heA2 hLZ.2.1)
  have hLB3 : RL3 ZB := RL3_rv heB3 (RL3_rv heA3 hLZ.2.2.1)
  have hLB4 : RL4 ZB := RL4_rv hGA heB4 (RL4_rv hGZ heA4 hLZ.2.2.2)
  have hLB : RL ZB := ⟨hLB1, hLB2, hLB3, hLB4⟩
  refine W.eq (g2 := F0 m 379 la (xI zB :: [])) rfl ?_
  refine lv_pop hx0 hb dl_379 rfl ?_
  refine lv_goto (tgt := 1513) hx0 hb dl_380 (by decide) ?_
  exact K HB locsB (nB - 1) wB ⟨nB, wB, SB, ZB, hB, hxB, ⟨hGB, hLB⟩, hRB, hLoB, hl, ⟨by have := hrB.1; omega, hrB.2⟩, rfl, rfl⟩
set_option maxHeartbeats 4000000 in
set_option maxRecDepth 100000 in
theorem lc_5 (C0 : lw_At p s m meth c b L xs) (hL : L ≤ 3072) (A : mx_Wx (tB l D s.heap.size ad s.heap tau) p s m #[Value.ref b] c code 4 R_law) {i : Nat} (hi : i + 6 ≤ L) {ph : Int} (hph : ph ≤ 10489) (hI : lw_I (tB l D s.heap.size ad s.heap tau) s b i ph H locs la cells slots) (K : ∀ (H : Heap) (locs : List Loc) (cells slots : Nat), lw_I (tB l D s.heap.size ad s.heap tau) s b i (ph + 20) H locs la cells slots → W p l e room_1 s m #[Value.ref b] below meth c H locs cells slots Q (F0 m 1513 la [])) : W p l e room_1 s m #[Value.ref b] below meth c H locs cells slots Q (F0 m 383 la []) := by
  obtain ⟨hx0, hb, hr, hml, hown, hts, hX, hbl, hlocks, hgv⟩ := id C0
  obtain ⟨nZ, wZ, SZ, ZZ, hZ, hxZ, ⟨hGZ, hLZ⟩, hRZ, hLoZ, hl, hrZ, rfl, rfl⟩ := hI
  have qZ : 0 ≤ ZZ 1 1 ∧ ZZ 1 1 ≤ 900 := hGZ.pr 1 1
  have hS := lw_S hRZ hLoZ
  refine lv_aload_n hx0 hb dl_383 rfl (lv_at hl 1 rfl) ?_
  refine lw_arg C0 hS hl (j := 1) (x := 1) (by omega) hL (by decide) (by decide +kernel) dl_384 dl_385 dl_386 dl_387 dl_388 ?_
  refine lw_arg C0 hS hl (j := 2) (x := 2) (by omega) hL (by decide) (by decide +kernel) dl_389 dl_390 dl_391 dl_392 dl_393 ?_
  obtain ⟨zA, nA, wA, SA, ZA, hA, hcA, hxA, hGA, hqA, heA1, heA2, heA3, heA4⟩ := sf_94 (l := l) (D := D) (b0 := s.heap.size) (ad := ad) (Hb := s.heap) (tau := tau) (x0 := (xs (i + 1)).toInt) (x1 := (xs (i + 2)).toInt) hxZ hGZ (iI_x (xs (i + 1))) (iI_x (xs (i + 2))) (by omega)
  rw [eI (xs (i + 1)), eI (xs (i + 2))] at hcA
  obtain ⟨⟨zcA, zsA⟩, ⟨rcA, rsA⟩, hrA⟩ := lw_room hxZ hxA hGZ hrZ (by omega) hqA (mx_Ca_le hcA)
  refine W.eq (g2 := F0 m 394 la ((([.int (xs (i + 1)), .int (xs (i + 2))] : List Value).map (mx_v (tB l D s.heap.size ad s.heap tau).2.1.1)).reverse ++ .ref (mx_rho (tB l D s.heap.size ad s.heap tau).2.1.1 1) :: [])) rfl ?_
  refine mx_Wcallv (B := (tB l D s.heap.size ad s.heap tau)) (ci := 11) (r := cr_11) (n := 2) A dl_394 me_94 rfl (hxZ.obj (lt83 (GI_n hGZ) rfl) (GI_s hGZ 1 rfl)) (tw lx_3_214 rfl) (tw lx_3_215 rfl) (tw lx_3_213 rfl) hcA rfl hl.1 (by exact Nat.le_of_ble_eq_true rfl) hRZ hLoZ (by decide) (by decide) ⟨by show nZ - 1 + (hA.1 - hZ.1) ≤ 600000; rw [zcA]; exact rcA, by show _ + (hA.2.1 - hZ.2.1) ≤ 7302250; rw [zsA]; exact rsA⟩ (fun HA locsA hRA hLoA => ?_)
  refine W.cs zcA zsA ?_
  have qA : 0 ≤ ZA 1 1 ∧ ZA 1 1 ≤ 900 := hGA.pr 1 1
  have hS1 := lw_S hRA hLoA
  clear hS
  have hS := hS1
  refine W.eq (g2 := F0 m 397 la (xI zA :: [])) rfl ?_
  refine lv_pop hx0 hb dl_397 rfl ?_
  refine lv_aload_n hx0 hb dl_398 rfl (lv_at hl 2 rfl) ?_
  refine lw_arg C0 hS hl (j := 1) (x := 1) (by omega) hL (by decide) (by decide +kernel) dl_399 dl_400 dl_401 dl_402 dl_403 ?_
  refine lw_arg C0 hS hl (j := 2) (x := 2) (by omega) hL (by decide) (by decide +kernel) dl_404 dl_405 dl_406 dl_407 dl_408 ?_
  obtain ⟨zB, nB, wB, SB, ZB, hB, hcB, hxB, hGB, hqB, heB1, heB2, heB3, heB4⟩ := sf_201 (l := l) (D := D) (b0 := s.heap.size) (ad := ad) (Hb := s.heap) (tau := tau) (x0 := (xs (i + 1)).toInt) (x1 := (xs (i + 2)).toInt) hxA hGA (iI_x (xs (i + 1))) (iI_x (xs (i + 2))) (by omega)
  rw [eI (xs (i + 1)), eI (xs (i + 2))] at hcB
  obtain ⟨⟨zcB, zsB⟩, ⟨rcB, rsB⟩, hrB⟩ := lw_room hxA hxB hGA hrA (by omega) hqB (mx_Ca_le hcB)
  refine W.eq (g2 := F0 m 409 la ((([.int (xs (i + 1)), .int (xs (i + 2))] : List Value).map (mx_v (tB l D s.heap.size ad s.heap tau).2.1.1)).reverse ++ .ref (mx_rho (tB l D s.heap.size ad s.heap tau).2.1.1 56) :: [])) rfl ?_
  refine mx_Wcallv (B := (tB l D s.heap.size ad s.heap tau)) (ci := 12) (r := cr_12) (n := 2) A dl_409 me_201 rfl (hxA.obj (lt83 (GI_n hGA) rfl) (GI_s hGA 56 rfl)) (tw lx_7_5 rfl) (tw lx_7_6 rfl) (tw lx_7_4 rfl) hcB rfl hl.1 (by exact Nat.le_of_ble_eq_true rfl) hRA hLoA (by decide) (by decide) ⟨by show nA - 1 + (hB.1 - hA.1) ≤ 600000; rw [zcB]; exact rcB, by show _ + (hB.2.1 - hA.2.1) ≤ 7302250; rw [zsB]; exact rsB⟩ (fun HB locsB hRB hLoB => ?_)
  refine W.cs zcB zsB ?_
  have hLB1 : RL1 ZB := RL1_rv heB1 (RL1_rv heA1 hLZ.1)
  have hLB2 : RL2 ZB := RL2_rv heB2 (RL2_rv heA2 hLZ.2.1)
  have hLB3 : RL3 ZB := RL3_rv heB3 (RL3_rv heA3 hLZ.2.2.1)
  have hLB4 : RL4 ZB := RL4_rv hGA heB4 (RL4_rv hGZ heA4 hLZ.2.2.2)
  have hLB : RL ZB := ⟨hLB1, hLB2, hLB3, hLB4⟩
  refine W.eq (g2 := F0 m 412 la (xI zB :: [])) rfl ?_
  refine lv_pop hx0 hb dl_412 rfl ?_
  refine lv_goto (tgt := 1513) hx0 hb dl_413 (by decide) ?_
  exact K HB locsB (nB - 1) wB ⟨nB, wB, SB, ZB, hB, hxB, ⟨hGB, hLB⟩, hRB, hLoB, hl, ⟨by have := hrB.1; omega, hrB.2⟩, rfl, rfl⟩
set_option maxHeartbeats 4000000 in
set_option maxRecDepth 100000 in
theorem lc_6 (C0 : lw_At p s m meth c b L xs) (hL : L ≤ 3072) (A : mx_Wx (tB l D s.heap.size ad s.heap tau) p s m #[Value.ref b] c code 4 R_law) {i : Nat} (hi : i + 6 ≤ L) {ph : Int} (hph : ph ≤ 10489) (hI : lw_I (tB l D s.heap.size ad s.heap tau) s b i ph H locs la cells slots) (K : ∀ (H : Heap) (locs : List Loc) (cells slots : Nat), lw_I (tB l D s.heap.size ad s.heap tau) s b i (ph + 20) H locs la cells slots → W p l e room_1 s m #[Value.ref b] below meth c H locs cells slots Q (F0 m 1513 la [])) : W p l e room_1 s m #[Value.ref b] below meth c H locs cells slots Q (F0 m 416 la []) := by
  obtain ⟨hx0, hb, hr, hml, hown, hts, hX, hbl, hlocks, hgv⟩ := id C0
  obtain ⟨nZ, wZ, SZ, ZZ, hZ, hxZ, ⟨hGZ, hLZ⟩, hRZ, hLoZ, hl, hrZ, rfl, rfl⟩ := hI
  have qZ : 0 ≤ ZZ 1 1 ∧ ZZ 1 1 ≤ 900 := hGZ.pr 1 1
  have hS := lw_S hRZ hLoZ
  refine lv_aload_n hx0 hb dl_416 rfl (lv_at hl 1 rfl) ?_
  refine lw_arg C0 hS hl (j := 1) (x := 1) (by omega) hL (by decide) (by decide +kernel) dl_417 dl_418 dl_419 dl_420 dl_421 ?_
  obtain ⟨zA, nA, wA, SA, ZA, hA, hcA, hxA, hGA, hqA, heA1, heA2, heA3, heA4⟩ := sf_95 (l := l) (D := D) (b0 := s.heap.size) (ad := ad) (Hb := s.heap) (tau := tau) (x0 := (xs (i + 1)).toInt) hxZ hGZ (iI_x (xs (i + 1))) (by omega)
  rw [eI (xs (i + 1))] at hcA
  obtain ⟨⟨zcA, zsA⟩, ⟨rcA, rsA⟩, hrA⟩ := lw_room hxZ hxA hGZ hrZ (by omega) hqA (mx_Ca_le hcA)
  refine W.eq (g2 := F0 m 422 la ((([.int (xs (i + 1))] : List Value).map (mx_v (tB l D s.heap.size ad s.heap tau).2.1.1)).reverse ++ .ref (mx_rho (tB l D s.heap.size ad s.heap tau).2.1.1 1) :: [])) rfl ?_
  refine mx_Wcallv (B := (tB l D s.heap.size ad s.heap tau)) (ci := 11) (r := cr_11) (n := 1) A dl_422 me_95 rfl (hxZ.obj (lt83 (GI_n hGZ) rfl) (GI_s hGZ 1 rfl)) (tw lx_3_235 rfl) (tw lx_3_236 rfl) (tw lx_3_234 rfl) hcA rfl hl.1 (by exact Nat.le_of_ble_eq_true rfl) hRZ hLoZ (by decide) (by decide) ⟨by show nZ - 1 + (hA.1 - hZ.1) ≤ 600000; rw [zcA]; exact rcA, by show _ + (hA.2.1 - hZ.2.1) ≤ 7302250; rw [zsA]; exact rsA⟩ (fun HA locsA hRA hLoA => ?_)
  refine W.cs zcA zsA ?_
  have qA : 0 ≤ ZA 1 1 ∧ ZA 1 1 ≤ 900 := hGA.pr 1 1
  have hS1 := lw_S hRA hLoA
  clear hS
  have hS := hS1
  refine W.eq (g2 := F0 m 425 la (xI zA :: [])) rfl ?_
  refine lv_pop hx0 hb dl_425 rfl ?_
  refine lv_aload_n hx0 hb dl_426 rfl (lv_at hl 2 rfl) ?_
  refine lw_arg C0 hS hl (j := 1) (x := 1) (by omega) hL (by decide) (by decide +kernel) dl_427 dl_428 dl_429 dl_430 dl_431 ?_
  obtain ⟨zB, nB, wB, SB, ZB, hB, hcB, hxB, hGB, hqB, heB1, heB2, heB3, heB4⟩ := sf_206 (l := l) (D := D) (b0 := s.heap.size) (ad := ad) (Hb := s.heap) (tau := tau) (x0 := (xs (i + 1)).toInt) hxA hGA (iI_x (xs (i + 1))) (by omega)
  rw [eI (xs (i + 1))] at hcB
  obtain ⟨⟨zcB, zsB⟩, ⟨rcB, rsB⟩, hrB⟩ := lw_room hxA hxB hGA hrA (by omega) hqB (mx_Ca_le hcB)
  refine W.eq (g2 := F0 m 432 la ((([.int (xs (i + 1))] : List Value).map (mx_v (tB l D s.heap.size ad s.heap tau).2.1.1)).reverse ++ .ref (mx_rho (tB l D s.heap.size ad s.heap tau).2.1.1 56) :: [])) rfl ?_
  refine mx_Wcallv (B := (tB l D s.heap.size ad s.heap tau)) (ci := 12) (r := cr_12) (n := 1) A dl_432 me_206 rfl (hxA.obj (lt83 (GI_n hGA) rfl) (GI_s hGA 56 rfl)) (tw lx_7_27 rfl) (tw lx_7_28 rfl) (tw lx_7_26 rfl) hcB rfl hl.1 (by exact Nat.le_of_ble_eq_true rfl) hRA hLoA (by decide) (by decide) ⟨by show nA - 1 + (hB.1 - hA.1) ≤ 600000; rw [zcB]; exact rcB, by show _ + (hB.2.1 - hA.2.1) ≤ 7302250; rw [zsB]; exact rsB⟩ (fun HB locsB hRB hLoB => ?_)
  refine W.cs zcB zsB ?_
  have hLB1 : RL1 ZB := RL1_rv heB1 (RL1_rv heA1 hLZ.1)
  have hLB2 : RL2 ZB := RL2_rv heB2 (RL2_rv heA2 hLZ.2.1)
  have hLB3 : RL3 ZB := RL3_rv heB3 (RL3_rv heA3 hLZ.2.2.1)
  have hLB4 : RL4 ZB := RL4_rv hGA heB4 (RL4_rv hGZ heA4 hLZ.2.2.2)
  have hLB : RL ZB := ⟨hLB1, hLB2, hLB3, hLB4⟩
  refine W.eq (g2 := F0 m 435 la (xI zB :: [])) rfl ?_
  refine lv_pop hx0 hb dl_435 rfl ?_
  refine lv_goto (tgt := 1513) hx0 hb dl_436 (by decide) ?_
  exact K HB locsB (nB - 1) wB ⟨nB, wB, SB, ZB, hB, hxB, ⟨hGB, hLB⟩, hRB, hLoB, hl, ⟨by have := hrB.1; omega, hrB.2⟩, rfl, rfl⟩
set_option maxHeartbeats 4000000 in
set_option maxRecDepth 100000 in
theorem lc_7 (C0 : lw_At p s m meth c b L xs) (hL : L ≤ 3072) (A : mx_Wx (tB l D s.heap.size ad s.heap tau) p s m #[Value.ref b] c code 4 R_law) {i : Nat} (hi : i + 6 ≤ L) {ph : Int} (hph : ph ≤ 10489) (hI : lw_I (tB l D s.heap.size ad s.heap tau) s b i ph H locs la cells slots) (K : ∀ (H : Heap) (locs : List Loc) (cells slots : Nat), lw_I (tB l D s.heap.size ad s.heap tau) s b i (ph + 20) H locs la cells slots → W p l e room_1 s m #[Value.ref b] below meth c H locs cells slots Q (F0 m 1513 la [])) : W p l e room_1 s m #[Value.ref b] below meth c H locs cells slots Q (F0 m 439 la []) := by
  obtain ⟨hx0, hb, hr, hml, hown, hts, hX, hbl, hlocks, hgv⟩ := id C0
  obtain ⟨nZ, wZ, SZ, ZZ, hZ, hxZ, ⟨hGZ, hLZ⟩, hRZ, hLoZ, hl, hrZ, rfl, rfl⟩ := hI
  have qZ : 0 ≤ ZZ 1 1 ∧ ZZ 1 1 ≤ 900 := hGZ.pr 1 1
  have hS := lw_S hRZ hLoZ
  refine lv_aload_n hx0 hb dl_439 rfl (lv_at hl 1 rfl) ?_
  refine lw_arg C0 hS hl (j := 1) (x := 1) (by omega) hL (by decide) (by decide +kernel) dl_440 dl_441 dl_442 dl_443 dl_444 ?_
  obtain ⟨zA, nA, wA, SA, ZA, hA, hcA, hxA, hGA, hqA, heA1, heA2, heA3, heA4⟩ := sf_96 (l := l) (D := D) (b0 := s.heap.size) (ad := ad) (Hb := s.heap) (tau := tau) (x0 := (xs (i + 1)).toInt) hxZ hGZ (iI_x (xs (i + 1))) (by omega)
  rw [eI (xs (i + 1))] at hcA
  obtain ⟨⟨zcA, zsA⟩, ⟨rcA, rsA⟩, hrA⟩ := lw_room hxZ hxA hGZ hrZ (by omega) hqA (mx_Ca_le hcA)
  refine W.eq (g2 := F0 m 445 la ((([.int (xs (i + 1))] : List Value).map (mx_v (tB l D s.heap.size ad s.heap tau).2.1.1)).reverse ++ .ref (mx_rho (tB l D s.heap.size ad s.heap tau).2.1.1 1) :: [])) rfl ?_
  refine mx_Wcallv (B := (tB l D s.heap.size ad s.heap tau)) (ci := 11) (r := cr_11) (n := 1) A dl_445 me_96 rfl (hxZ.obj (lt83 (GI_n hGZ) rfl) (GI_s hGZ 1 rfl)) (tw lx_4_24 rfl) (tw lx_4_25 rfl) (tw lx_4_23 rfl) hcA rfl hl.1 (by exact Nat.le_of_ble_eq_true rfl) hRZ hLoZ (by decide) (by decide) ⟨by show nZ - 1 + (hA.1 - hZ.1) ≤ 600000; rw [zcA]; exact rcA, by show _ + (hA.2.1 - hZ.2.1) ≤ 7302250; rw [zsA]; exact rsA⟩ (fun HA locsA hRA hLoA => ?_)
  refine W.cs zcA zsA ?_
  have qA : 0 ≤ ZA 1 1 ∧ ZA 1 1 ≤ 900 := hGA.pr 1 1
  have hS1 := lw_S hRA hLoA
  clear hS
  have hS := hS1
  refine W.eq (g2 := F0 m 448 la (xI zA :: [])) rfl ?_
  refine lv_pop hx0 hb dl_448 rfl ?_
  refine lv_aload_n hx0 hb dl_449 rfl (lv_at hl 2 rfl) ?_
  refine lw_arg C0 hS hl (j := 1) (x := 1) (by omega) hL (by decide) (by decide +kernel) dl_450 dl_451 dl_452 dl_453 dl_454 ?_
  obtain ⟨zB, nB, wB, SB, ZB, hB, hcB, hxB, hGB, hqB, heB1, heB2, heB3, heB4⟩ := sf_207 (l := l) (D := D) (b0 := s.heap.size) (ad := ad) (Hb := s.heap) (tau := tau) (x0 := (xs (i + 1)).toInt) hxA hGA (iI_x (xs (i + 1))) (by omega)
  rw [eI (xs (i + 1))] at hcB
  obtain ⟨⟨zcB, zsB⟩, ⟨rcB, rsB⟩, hrB⟩ := lw_room hxA hxB hGA hrA (by omega) hqB (mx_Ca_le hcB)
  refine W.eq (g2 := F0 m 455 la ((([.int (xs (i + 1))] : List Value).map (mx_v (tB l D s.heap.size ad s.heap tau).2.1.1)).reverse ++ .ref (mx_rho (tB l D s.heap.size ad s.heap tau).2.1.1 56) :: [])) rfl ?_
  refine mx_Wcallv (B := (tB l D s.heap.size ad s.heap tau)) (ci := 12) (r := cr_12) (n := 1) A dl_455 me_207 rfl (hxA.obj (lt83 (GI_n hGA) rfl) (GI_s hGA 56 rfl)) (tw lx_7_43 rfl) (tw lx_7_44 rfl) (tw lx_7_42 rfl) hcB rfl hl.1 (by exact Nat.le_of_ble_eq_true rfl) hRA hLoA (by decide) (by decide) ⟨by show nA - 1 + (hB.1 - hA.1) ≤ 600000; rw [zcB]; exact rcB, by show _ + (hB.2.1 - hA.2.1) ≤ 7302250; rw [zsB]; exact rsB⟩ (fun HB locsB hRB hLoB => ?_)
  refine W.cs zcB zsB ?_
  have hLB1 : RL1 ZB := RL1_rv heB1 (RL1_rv heA1 hLZ.1)
  have hLB2 : RL2 ZB := RL2_rv heB2 (RL2_rv heA2 hLZ.2.1)
  have hLB3 : RL3 ZB := RL3_rv heB3 (RL3_rv heA3 hLZ.2.2.1)
  have hLB4 : RL4 ZB := RL4_rv hGA heB4 (RL4_rv hGZ heA4 hLZ.2.2.2)
  have hLB : RL ZB := ⟨hLB1, hLB2, hLB3, hLB4⟩
  refine W.eq (g2 := F0 m 458 la (xI zB :: [])) rfl ?_
  refine lv_pop hx0 hb dl_458 rfl ?_
  refine lv_goto (tgt := 1513) hx0 hb dl_459 (by decide) ?_
  exact K HB locsB (nB - 1) wB ⟨nB, wB, SB, ZB, hB, hxB, ⟨hGB, hLB⟩, hRB, hLoB, hl, ⟨by have := hrB.1; omega, hrB.2⟩, rfl, rfl⟩
set_option maxHeartbeats 4000000 in
set_option maxRecDepth 100000 in
theorem lc_8 (C0 : lw_At p s m meth c b L xs) (hL : L ≤ 3072) (A : mx_Wx (tB l D s.heap.size ad s.heap tau) p s m #[Value.ref b] c code 4 R_law) {i : Nat} (hi : i + 6 ≤ L) {ph : Int} (hph : ph ≤ 10489) (hI : lw_I (tB l D s.heap.size ad s.heap tau) s b i ph H locs la cells slots) (K : ∀ (H : Heap) (locs : List Loc) (cells slots : Nat), lw_I (tB l D s.heap.size ad s.heap tau) s b i (ph + 20) H locs la cells slots → W p l e room_1 s m #[Value.ref b] below meth c H locs cells slots Q (F0 m 1513 la [])) : W p l e room_1 s m #[Value.ref b] below meth c H locs cells slots Q (F0 m 462 la []) := by
  obtain ⟨hx0, hb, hr, hml, hown, hts, hX, hbl, hlocks, hgv⟩ := id C0
  obtain ⟨nZ, wZ, SZ, ZZ, hZ, hxZ, ⟨hGZ, hLZ⟩, hRZ, hLoZ, hl, hrZ, rfl, rfl⟩ := hI
  have qZ : 0 ≤ ZZ 1 1 ∧ ZZ 1 1 ≤ 900 := hGZ.pr 1 1
  have hS := lw_S hRZ hLoZ
  refine lv_aload_n hx0 hb dl_462 rfl (lv_at hl 1 rfl) ?_
  refine lw_arg C0 hS hl (j := 1) (x := 1) (by omega) hL (by decide) (by decide +kernel) dl_463 dl_464 dl_465 dl_466 dl_467 ?_
  refine lw_arg C0 hS hl (j := 2) (x := 2) (by omega) hL (by decide) (by decide +kernel) dl_468 dl_469 dl_470 dl_471 dl_472 ?_
  obtain ⟨zA, nA, wA, SA, ZA, hA, hcA, hxA, hGA, hqA, heA1, heA2, heA3, heA4⟩ := sf_97 (l := l) (D := D) (b0 := s.heap.size) (ad := ad) (Hb := s.heap) (tau := tau) (x0 := (xs (i + 1)).toInt) (x1 := (xs (i + 2)).toInt) hxZ hGZ (iI_x (xs (i + 1))) (iI_x (xs (i + 2))) (by omega)
  rw [eI (xs (i + 1)), eI (xs (i + 2))] at hcA
  obtain ⟨⟨zcA, zsA⟩, ⟨rcA, rsA⟩, hrA⟩ := lw_room hxZ hxA hGZ hrZ (by omega) hqA (mx_Ca_le hcA)
  refine W.eq (g2 := F0 m 473 la ((([.int (xs (i + 1)), .int (xs (i + 2))] : List Value).map (mx_v (tB l D s.heap.size ad s.heap tau).2.1.1)).reverse ++ .ref (mx_rho (tB l D s.heap.size ad s.heap tau).2.1.1 1) :: [])) rfl ?_
  refine mx_Wcallv (B := (tB l D s.heap.size ad s.heap tau)) (ci := 11) (r := cr_11) (n := 2) A dl_473 me_97 rfl (hxZ.obj (lt83 (GI_n hGZ) rfl) (GI_s hGZ 1 rfl)) (tw lx_4_28 rfl) (tw lx_4_29 rfl) (tw lx_4_27 rfl) hcA rfl hl.1 (by exact Nat.le_of_ble_eq_true rfl) hRZ hLoZ (by decide) (by decide) ⟨by show nZ - 1 + (hA.1 - hZ.1) ≤ 600000; rw [zcA]; exact rcA, by show _ + (hA.2.1 - hZ.2.1) ≤ 7302250; rw [zsA]; exact rsA⟩ (fun HA locsA hRA hLoA => ?_)
  refine W.cs zcA zsA ?_
  have qA : 0 ≤ ZA 1 1 ∧ ZA 1 1 ≤ 900 := hGA.pr 1 1
  have hS1 := lw_S hRA hLoA
  clear hS
  have hS := hS1
  refine W.eq (g2 := F0 m 476 la (xI zA :: [])) rfl ?_
  refine lv_pop hx0 hb dl_476 rfl ?_
  refine lv_aload_n hx0 hb dl_477 rfl (lv_at hl 2 rfl) ?_
  refine lw_arg C0 hS hl (j := 1) (x := 1) (by omega) hL (by decide) (by decide +kernel) dl_478 dl_479 dl_480 dl_481 dl_482 ?_
  refine lw_arg C0 hS hl (j := 2) (x := 2) (by omega) hL (by decide) (by decide +kernel) dl_483 dl_484 dl_485 dl_486 dl_487 ?_
  obtain ⟨zB, nB, wB, SB, ZB, hB, hcB, hxB, hGB, hqB, heB1, heB2, heB3, heB4⟩ := sf_211 (l := l) (D := D) (b0 := s.heap.size) (ad := ad) (Hb := s.heap) (tau := tau) (x0 := (xs (i + 1)).toInt) (x1 := (xs (i + 2)).toInt) hxA hGA (iI_x (xs (i + 1))) (iI_x (xs (i + 2))) (by omega)
  rw [eI (xs (i + 1)), eI (xs (i + 2))] at hcB
  obtain ⟨⟨zcB, zsB⟩, ⟨rcB, rsB⟩, hrB⟩ := lw_room hxA hxB hGA hrA (by omega) hqB (mx_Ca_le hcB)
  refine W.eq (g2 := F0 m 488 la ((([.int (xs (i + 1)), .int (xs (i + 2))] : List Value).map (mx_v (tB l D s.heap.size ad s.heap tau).2.1.1)).reverse ++ .ref (mx_rho (tB l D s.heap.size ad s.heap tau).2.1.1 56) :: [])) rfl ?_
  refine mx_Wcallv (B := (tB l D s.heap.size ad s.heap tau)) (ci := 12) (r := cr_12) (n := 2) A dl_488 me_211 rfl (hxA.obj (lt83 (GI_n hGA) rfl) (GI_s hGA 56 rfl)) (tw lx_7_48 rfl) (tw lx_7_49 rfl) (tw lx_7_47 rfl) hcB rfl hl.1 (by exact Nat.le_of_ble_eq_true rfl) hRA hLoA (by decide) (by decide) ⟨by show nA - 1 + (hB.1 - hA.1) ≤ 600000; rw [zcB]; exact rcB, by show _ + (hB.2.1 - hA.2.1) ≤ 7302250; rw [zsB]; exact rsB⟩ (fun HB locsB hRB hLoB => ?_)
  refine W.cs zcB zsB ?_
  have hLB1 : RL1 ZB := RL1_rv heB1 (RL1_rv heA1 hLZ.1)
  have hLB2 : RL2 ZB := RL2_rv heB2 (RL2_rv heA2 hLZ.2.1)
  have hLB3 : RL3 ZB := RL3_rv heB3 (RL3_rv heA3 hLZ.2.2.1)
  have hLB4 : RL4 ZB := RL4_rv hGA heB4 (RL4_rv hGZ heA4 hLZ.2.2.2)
  have hLB : RL ZB := ⟨hLB1, hLB2, hLB3, hLB4⟩
  refine W.eq (g2 := F0 m 491 la (xI zB :: [])) rfl ?_
  refine lv_pop hx0 hb dl_491 rfl ?_
  refine lv_goto (tgt := 1513) hx0 hb dl_492 (by decide) ?_
  exact K HB locsB (nB - 1) wB ⟨nB, wB, SB, ZB, hB, hxB, ⟨hGB, hLB⟩, hRB, hLoB, hl, ⟨by have := hrB.1; omega, hrB.2⟩, rfl, rfl⟩
set_option maxHeartbeats 4000000 in
set_option maxRecDepth 100000 in
theorem lc_9 (C0 : lw_At p s m meth c b L xs) (hL : L ≤ 3072) (A : mx_Wx (tB l D s.heap.size ad s.heap tau) p s m #[Value.ref b] c code 4 R_law) {i : Nat} (hi : i + 6 ≤ L) {ph : Int} (hph : ph ≤ 10489) (hI : lw_I (tB l D s.heap.size ad s.heap tau) s b i ph H locs la cells slots) (K : ∀ (H : Heap) (locs : List Loc) (cells slots : Nat), lw_I (tB l D s.heap.size ad s.heap tau) s b i (ph + 20) H locs la cells slots → W p l e room_1 s m #[Value.ref b] below meth c H locs cells slots Q (F0 m 1513 la [])) : W p l e room_1 s m #[Value.ref b] below meth c H locs cells slots Q (F0 m 495 la []) := by
  obtain ⟨hx0, hb, hr, hml, hown, hts, hX, hbl, hlocks, hgv⟩ := id C0
  obtain ⟨nZ, wZ, SZ, ZZ, hZ, hxZ, ⟨hGZ, hLZ⟩, hRZ, hLoZ, hl, hrZ, rfl, rfl⟩ := hI
  have qZ : 0 ≤ ZZ 1 1 ∧ ZZ 1 1 ≤ 900 := hGZ.pr 1 1
  have hS := lw_S hRZ hLoZ
  refine lv_aload_n hx0 hb dl_495 rfl (lv_at hl 1 rfl) ?_
  refine lw_arg C0 hS hl (j := 1) (x := 1) (by omega) hL (by decide) (by decide +kernel) dl_496 dl_497 dl_498 dl_499 dl_500 ?_
  refine lw_arg C0 hS hl (j := 2) (x := 2) (by omega) hL (by decide) (by decide +kernel) dl_501 dl_502 dl_503 dl_504 dl_505 ?_
  obtain ⟨zA, nA, wA, SA, ZA, hA, hcA, hxA, hGA, hqA, heA1, heA2, heA3, heA4⟩ := sf_98 (l := l) (D := D) (b0 := s.heap.size) (ad := ad) (Hb := s.heap) (tau := tau) (x0 := (xs (i + 1)).toInt) (x1 := (xs (i + 2)).toInt) hxZ hGZ (iI_x (xs (i + 1))) (iI_x (xs (i + 2))) (by omega)
  rw [eI (xs (i + 1)), eI (xs (i + 2))] at hcA
  obtain ⟨⟨zcA, zsA⟩, ⟨rcA, rsA⟩, hrA⟩ := lw_room hxZ hxA hGZ hrZ (by omega) hqA (mx_Ca_le hcA)
  refine W.eq (g2 := F0 m 506 la ((([.int (xs (i + 1)), .int (xs (i + 2))] : List Value).map (mx_v (tB l D s.heap.size ad s.heap tau).2.1.1)).reverse ++ .ref (mx_rho (tB l D s.heap.size ad s.heap tau).2.1.1 1) :: [])) rfl ?_
  refine mx_Wcallv (B := (tB l D s.heap.size ad s.heap tau)) (ci := 11) (r := cr_11) (n := 2) A dl_506 me_98 rfl (hxZ.obj (lt83 (GI_n hGZ) rfl) (GI_s hGZ 1 rfl)) (tw lx_4_41 rfl) (tw lx_4_42 rfl) (tw lx_4_40 rfl) hcA rfl hl.1 (by exact Nat.le_of_ble_eq_true rfl) hRZ hLoZ (by decide) (by decide) ⟨by show nZ - 1 + (hA.1 - hZ.1) ≤ 600000; rw [zcA]; exact rcA, by show _ + (hA.2.1 - hZ.2.1) ≤ 7302250; rw [zsA]; exact rsA⟩ (fun HA locsA hRA hLoA => ?_)
  refine W.cs zcA zsA ?_
  have qA : 0 ≤ ZA 1 1 ∧ ZA 1 1 ≤ 900 := hGA.pr 1 1
  have hS1 := lw_S hRA hLoA
  clear hS
  have hS := hS1
  refine W.eq (g2 := F0 m 509 la (xI zA :: [])) rfl ?_
  refine lv_pop hx0 hb dl_509 rfl ?_
  refine lv_aload_n hx0 hb dl_510 rfl (lv_at hl 2 rfl) ?_
  refine lw_arg C0 hS hl (j := 1) (x := 1) (by omega) hL (by decide) (by decide +kernel) dl_511 dl_512 dl_513 dl_514 dl_515 ?_
  refine lw_arg C0 hS hl (j := 2) (x := 2) (by omega) hL (by decide) (by decide +kernel) dl_516 dl_517 dl_518 dl_519 dl_520 ?_
  obtain ⟨zB, nB, wB, SB, ZB, hB, hcB, hxB, hGB, hqB, heB1, heB2, heB3, heB4⟩ := sf_214 (l := l) (D := D) (b0 := s.heap.size) (ad := ad) (Hb := s.heap) (tau := tau) (x0 := (xs (i + 1)).toInt) (x1 := (xs (i + 2)).toInt) hxA hGA (iI_x (xs (i + 1))) (iI_x (xs (i + 2))) (by omega)
  rw [eI (xs (i + 1)), eI (xs (i + 2))] at hcB
  obtain ⟨⟨zcB, zsB⟩, ⟨rcB, rsB⟩, hrB⟩ := lw_room hxA hxB hGA hrA (by omega) hqB (mx_Ca_le hcB)
  refine W.eq (g2 := F0 m 521 la ((([.int (xs (i + 1)), .int (xs (i + 2))] : List Value).map (mx_v (tB l D s.heap.size ad s.heap tau).2.1.1)).reverse ++ .ref (mx_rho (tB l D s.heap.size ad s.heap tau).2.1.1 56) :: [])) rfl ?_
  refine mx_Wcallv (B := (tB l D s.heap.size ad s.heap tau)) (ci := 12) (r := cr_12) (n := 2) A dl_521 me_214 rfl (hxA.obj (lt83 (GI_n hGA) rfl) (GI_s hGA 56 rfl)) (tw lx_7_67 rfl) (tw lx_7_68 rfl) (tw lx_7_66 rfl) hcB rfl hl.1 (by exact Nat.le_of_ble_eq_true rfl) hRA hLoA (by decide) (by decide) ⟨by show nA - 1 + (hB.1 - hA.1) ≤ 600000; rw [zcB]; exact rcB, by show _ + (hB.2.1 - hA.2.1) ≤ 7302250; rw [zsB]; exact rsB⟩ (fun HB locsB hRB hLoB => ?_)
  refine W.cs zcB zsB ?_
  have hLB1 : RL1 ZB := RL1_rv heB1 (RL1_rv heA1 hLZ.1)
  have hLB2 : RL2 ZB := RL2_rv heB2 (RL2_rv heA2 hLZ.2.1)
  have hLB3 : RL3 ZB := RL3_rv heB3 (RL3_rv heA3 hLZ.2.2.1)
  have hLB4 : RL4 ZB := RL4_rv hGA heB4 (RL4_rv hGZ heA4 hLZ.2.2.2)
  have hLB : RL ZB := ⟨hLB1, hLB2, hLB3, hLB4⟩
  refine W.eq (g2 := F0 m 524 la (xI zB :: [])) rfl ?_
  refine lv_pop hx0 hb dl_524 rfl ?_
  refine lv_goto (tgt := 1513) hx0 hb dl_525 (by decide) ?_
  exact K HB locsB (nB - 1) wB ⟨nB, wB, SB, ZB, hB, hxB, ⟨hGB, hLB⟩, hRB, hLoB, hl, ⟨by have := hrB.1; omega, hrB.2⟩, rfl, rfl⟩
set_option maxHeartbeats 4000000 in
set_option maxRecDepth 100000 in
theorem lc_10 (C0 : lw_At p s m meth c b L xs) (hL : L ≤ 3072) (A : mx_Wx (tB l D s.heap.size ad s.heap tau) p s m #[Value.ref b] c code 4 R_law) {i : Nat} (hi : i + 6 ≤ L) {ph : Int} (hph : ph ≤ 10489) (hI : lw_I (tB l D s.heap.size ad s.heap tau) s b i ph H locs la cells slots) (K : ∀ (H : Heap) (locs : List Loc) (cells slots : Nat), lw_I (tB l D s.heap.size ad s.heap tau) s b i (ph + 20) H locs la cells slots → W p l e room_1 s m #[Value.ref b] below meth c H locs cells slots Q (F0 m 1513 la [])) : W p l e room_1 s m #[Value.ref b] below meth c H locs cells slots Q (F0 m 528 la []) := by
  obtain ⟨hx0, hb, hr, hml, hown, hts, hX, hbl, hlocks, hgv⟩ := id C0
  obtain ⟨nZ, wZ, SZ, ZZ, hZ, hxZ, ⟨hGZ, hLZ⟩, hRZ, hLoZ, hl, hrZ, rfl, rfl⟩ := hI
  have qZ : 0 ≤ ZZ 1 1 ∧ ZZ 1 1 ≤ 900 := hGZ.pr 1 1
  have hS := lw_S hRZ hLoZ
  refine lv_aload_n hx0 hb dl_528 rfl (lv_at hl 1 rfl) ?_
  refine lw_arg C0 hS hl (j := 1) (x := 1) (by omega) hL (by decide) (by decide +kernel) dl_529 dl_530 dl_531 dl_532 dl_533 ?_
  obtain ⟨zA, nA, wA, SA, ZA, hA, hcA, hxA, hGA, hqA, heA1, heA2, heA3, heA4⟩ := sf_99 (l := l) (D := D) (b0 := s.heap.size) (ad := ad) (Hb := s.heap) (tau := tau) (x0 := (xs (i + 1)).toInt) hxZ hGZ (iI_x (xs (i + 1))) (by omega)
  rw [eI (xs (i + 1))] at hcA
  obtain ⟨⟨zcA, zsA⟩, ⟨rcA, rsA⟩, hrA⟩ := lw_room hxZ hxA hGZ hrZ (by omega) hqA (mx_Ca_le hcA)
  refine W.eq (g2 := F0 m 534 la ((([.int (xs (i + 1))] : List Value).map (mx_v (tB l D s.heap.size ad s.heap tau).2.1.1)).reverse ++ .ref (mx_rho (tB l D s.heap.size ad s.heap tau).2.1.1 1) :: [])) rfl ?_
  refine mx_Wcallv (B := (tB l D s.heap.size ad s.heap tau)) (ci := 11) (r := cr_11) (n := 1) A dl_534 me_99 rfl (hxZ.obj (lt83 (GI_n hGZ) rfl) (GI_s hGZ 1 rfl)) (tw lx_4_49 rfl) (tw lx_4_50 rfl) (tw lx_4_48 rfl) hcA rfl hl.1 (by exact Nat.le_of_ble_eq_true rfl) hRZ hLoZ (by decide) (by decide) ⟨by show nZ - 1 + (hA.1 - hZ.1) ≤ 600000; rw [zcA]; exact rcA, by show _ + (hA.2.1 - hZ.2.1) ≤ 7302250; rw [zsA]; exact rsA⟩ (fun HA locsA hRA hLoA => ?_)
  refine W.cs zcA zsA ?_
  have qA : 0 ≤ ZA 1 1 ∧ ZA 1 1 ≤ 900 := hGA.pr 1 1
  have hS1 := lw_S hRA hLoA
  clear hS
  have hS := hS1
  refine W.eq (g2 := F0 m 537 la (xI zA :: [])) rfl ?_
  refine lv_pop hx0 hb dl_537 rfl ?_
  refine lv_aload_n hx0 hb dl_538 rfl (lv_at hl 2 rfl) ?_
  refine lw_arg C0 hS hl (j := 1) (x := 1) (by omega) hL (by decide) (by decide +kernel) dl_539 dl_540 dl_541 dl_542 dl_543 ?_
  obtain ⟨zB, nB, wB, SB, ZB, hB, hcB, hxB, hGB, hqB, heB1, heB2, heB3, heB4⟩ := sf_215 (l := l) (D := D) (b0 := s.heap.size) (ad := ad) (Hb := s.heap) (tau := tau) (x0 := (xs (i + 1)).toInt) hxA hGA (iI_x (xs (i + 1))) (by omega)
  rw [eI (xs (i + 1))] at hcB
  obtain ⟨⟨zcB, zsB⟩, ⟨rcB, rsB⟩, hrB⟩ := lw_room hxA hxB hGA hrA (by omega) hqB (mx_Ca_le hcB)
  refine W.eq (g2 := F0 m 544 la ((([.int (xs (i + 1))] : List Value).map (mx_v (tB l D s.heap.size ad s.heap tau).2.1.1)).reverse ++ .ref (mx_rho (tB l D s.heap.size ad s.heap tau).2.1.1 56) :: [])) rfl ?_
  refine mx_Wcallv (B := (tB l D s.heap.size ad s.heap tau)) (ci := 12) (r := cr_12) (n := 1) A dl_544 me_215 rfl (hxA.obj (lt83 (GI_n hGA) rfl) (GI_s hGA 56 rfl)) (tw lx_7_79 rfl) (tw lx_7_80 rfl) (tw lx_7_78 rfl) hcB rfl hl.1 (by exact Nat.le_of_ble_eq_true rfl) hRA hLoA (by decide) (by decide) ⟨by show nA - 1 + (hB.1 - hA.1) ≤ 600000; rw [zcB]; exact rcB, by show _ + (hB.2.1 - hA.2.1) ≤ 7302250; rw [zsB]; exact rsB⟩ (fun HB locsB hRB hLoB => ?_)
  refine W.cs zcB zsB ?_
  have hLB1 : RL1 ZB := RL1_rv heB1 (RL1_rv heA1 hLZ.1)
  have hLB2 : RL2 ZB := RL2_rv heB2 (RL2_rv heA2 hLZ.2.1)
  have hLB3 : RL3 ZB := RL3_rv heB3 (RL3_rv heA3 hLZ.2.2.1)
  have hLB4 : RL4 ZB := RL4_rv hGA heB4 (RL4_rv hGZ heA4 hLZ.2.2.2)
  have hLB : RL ZB := ⟨hLB1, hLB2, hLB3, hLB4⟩
  refine W.eq (g2 := F0 m 547 la (xI zB :: [])) rfl ?_
  refine lv_pop hx0 hb dl_547 rfl ?_
  refine lv_goto (tgt := 1513) hx0 hb dl_548 (by decide) ?_
  exact K HB locsB (nB - 1) wB ⟨nB, wB, SB, ZB, hB, hxB, ⟨hGB, hLB⟩, hRB, hLoB, hl, ⟨by have := hrB.1; omega, hrB.2⟩, rfl, rfl⟩
set_option maxHeartbeats 4000000 in
set_option maxRecDepth 100000 in
theorem lc_11 (C0 : lw_At p s m meth c b L xs) (hL : L ≤ 3072) (A : mx_Wx (tB l D s.heap.size ad s.heap tau) p s m #[Value.ref b] c code 4 R_law) {i : Nat} (hi : i + 6 ≤ L) {ph : Int} (hph : ph ≤ 10489) (hI : lw_I (tB l D s.heap.size ad s.heap tau) s b i ph H locs la cells slots) (K : ∀ (H : Heap) (locs : List Loc) (cells slots : Nat), lw_I (tB l D s.heap.size ad s.heap tau) s b i (ph + 20) H locs la cells slots → W p l e room_1 s m #[Value.ref b] below meth c H locs cells slots Q (F0 m 1513 la [])) : W p l e room_1 s m #[Value.ref b] below meth c H locs cells slots Q (F0 m 551 la []) := by
  obtain ⟨hx0, hb, hr, hml, hown, hts, hX, hbl, hlocks, hgv⟩ := id C0
  obtain ⟨nZ, wZ, SZ, ZZ, hZ, hxZ, ⟨hGZ, hLZ⟩, hRZ, hLoZ, hl, hrZ, rfl, rfl⟩ := hI
  have qZ : 0 ≤ ZZ 1 1 ∧ ZZ 1 1 ≤ 900 := hGZ.pr 1 1
  have hS := lw_S hRZ hLoZ
  refine lv_aload_n hx0 hb dl_551 rfl (lv_at hl 1 rfl) ?_
  refine lw_arg C0 hS hl (j := 1) (x := 1) (by omega) hL (by decide) (by decide +kernel) dl_552 dl_553 dl_554 dl_555 dl_556 ?_
  obtain ⟨zA, nA, wA, SA, ZA, hA, hcA, hxA, hGA, hqA, heA1, heA2, heA3, heA4⟩ := sf_100 (l := l) (D := D) (b0 := s.heap.size) (ad := ad) (Hb := s.heap) (tau := tau) (x0 := (xs (i + 1)).toInt) hxZ hGZ (iI_x (xs (i + 1))) (by omega)
  rw [eI (xs (i + 1))] at hcA
  obtain ⟨⟨zcA, zsA⟩, ⟨rcA, rsA⟩, hrA⟩ := lw_room hxZ hxA hGZ hrZ (by omega) hqA (mx_Ca_le hcA)
  refine W.eq (g2 := F0 m 557 la ((([.int (xs (i + 1))] : List Value).map (mx_v (tB l D s.heap.size ad s.heap tau).2.1.1)).reverse ++ .ref (mx_rho (tB l D s.heap.size ad s.heap tau).2.1.1 1) :: [])) rfl ?_
  refine mx_Wcallv (B := (tB l D s.heap.size ad s.heap tau)) (ci := 11) (r := cr_11) (n := 1) A dl_557 me_100 rfl (hxZ.obj (lt83 (GI_n hGZ) rfl) (GI_s hGZ 1 rfl)) (tw lx_4_57 rfl) (tw lx_4_58 rfl) (tw lx_4_56 rfl) hcA rfl hl.1 (by exact Nat.le_of_ble_eq_true rfl) hRZ hLoZ (by decide) (by decide) ⟨by show nZ - 1 + (hA.1 - hZ.1) ≤ 600000; rw [zcA]; exact rcA, by show _ + (hA.2.1 - hZ.2.1) ≤ 7302250; rw [zsA]; exact rsA⟩ (fun HA locsA hRA hLoA => ?_)
  refine W.cs zcA zsA ?_
  have qA : 0 ≤ ZA 1 1 ∧ ZA 1 1 ≤ 900 := hGA.pr 1 1
  have hS1 := lw_S hRA hLoA
  clear hS
  have hS := hS1
  refine W.eq (g2 := F0 m 560 la (xI zA :: [])) rfl ?_
  refine lv_pop hx0 hb dl_560 rfl ?_
  refine lv_aload_n hx0 hb dl_561 rfl (lv_at hl 2 rfl) ?_
  refine lw_arg C0 hS hl (j := 1) (x := 1) (by omega) hL (by decide) (by decide +kernel) dl_562 dl_563 dl_564 dl_565 dl_566 ?_
  obtain ⟨zB, nB, wB, SB, ZB, hB, hcB, hxB, hGB, hqB, heB1, heB2, heB3, heB4⟩ := sf_216 (l := l) (D := D) (b0 := s.heap.size) (ad := ad) (Hb := s.heap) (tau := tau) (x0 := (xs (i + 1)).toInt) hxA hGA (iI_x (xs (i + 1))) (by omega)
  rw [eI (xs (i + 1))] at hcB
  obtain ⟨⟨zcB, zsB⟩, ⟨rcB, rsB⟩, hrB⟩ := lw_room hxA hxB hGA hrA (by omega) hqB (mx_Ca_le hcB)
  refine W.eq (g2 := F0 m 567 la ((([.int (xs (i + 1))] : List Value).map (mx_v (tB l D s.heap.size ad s.heap tau).2.1.1)).reverse ++ .ref (mx_rho (tB l D s.heap.size ad s.heap tau).2.1.1 56) :: [])) rfl ?_
  refine mx_Wcallv (B := (tB l D s.heap.size ad s.heap tau)) (ci := 12) (r := cr_12) (n := 1) A dl_567 me_216 rfl (hxA.obj (lt83 (GI_n hGA) rfl) (GI_s hGA 56 rfl)) (tw lx_7_84 rfl) (tw lx_7_85 rfl) (tw lx_7_83 rfl) hcB rfl hl.1 (by exact Nat.le_of_ble_eq_true rfl) hRA hLoA (by decide) (by decide) ⟨by show nA - 1 + (hB.1 - hA.1) ≤ 600000; rw [zcB]; exact rcB, by show _ + (hB.2.1 - hA.2.1) ≤ 7302250; rw [zsB]; exact rsB⟩ (fun HB locsB hRB hLoB => ?_)
  refine W.cs zcB zsB ?_
  have hLB1 : RL1 ZB := RL1_rv heB1 (RL1_rv heA1 hLZ.1)
  have hLB2 : RL2 ZB := RL2_rv heB2 (RL2_rv heA2 hLZ.2.1)
  have hLB3 : RL3 ZB := RL3_rv heB3 (RL3_rv heA3 hLZ.2.2.1)
  have hLB4 : RL4 ZB := RL4_rv hGA heB4 (RL4_rv hGZ heA4 hLZ.2.2.2)
  have hLB : RL ZB := ⟨hLB1, hLB2, hLB3, hLB4⟩
  refine W.eq (g2 := F0 m 570 la (xI zB :: [])) rfl ?_
  refine lv_pop hx0 hb dl_570 rfl ?_
  refine lv_goto (tgt := 1513) hx0 hb dl_571 (by decide) ?_
  exact K HB locsB (nB - 1) wB ⟨nB, wB, SB, ZB, hB, hxB, ⟨hGB, hLB⟩, hRB, hLoB, hl, ⟨by have := hrB.1; omega, hrB.2⟩, rfl, rfl⟩
end LAW
